/-! ===== the reference: duel ===== -/
def bs (q : Nat) : Nat := (7 ^ q - 1) / 6
theorem bs_s {q : Nat} (hq : q ≤ 4) : bs q + 7 ^ q = bs (q + 1) ∧ bs (q + 1) ≤ 2801 := by
  rcases (show q = 0 ∨ q = 1 ∨ q = 2 ∨ q = 3 ∨ q = 4 by omega) with rfl | rfl | rfl | rfl | rfl <;> decide

theorem c_M_base (hp : List Am_C) (q : Nat) (hq : q ≤ 5) : Am_Ev false 1 0 0 200 [.int (nI q)] (hp) (some (.int (nI (bs q)))) (hp) := by
  refine am_ev 1 (some .int) false [] ok_M_base am_mP_200 (by rw [am_m_200]) (by rw [am_m_200]) (fun h => by cases h) (Nat.le_of_ble_eq_true rfl) ?_
  intro Go hG
  obtain ⟨b1, b2⟩ := pw7 hq
  refine hG 200 _ _ _ _ _ _ ?_
  refine Exists.intro 0 (Exists.intro _ (Exists.intro _ ⟨by decide, c_M_power hp q hq, ?_⟩))
  refine And.intro (by decide) ?_
  exact ⟨by rw [pk_sub (by omega), pk_div (by omega) (by decide) (by decide)]; rfl, rfl, rfl, rfl⟩

theorem rmk2 (k : Nat) (hk : k < 100) : nI k - nI k / nI 2 * nI 2 = nI (k % 2) := pk_rem (by omega) (by decide) (by decide)
theorem c_M_bestOf (I : Nat → Int32) (F : Nat → Nat → Int32) (u v : Int64) (k c : Nat) (hk : k ≤ 3) (hc : c < 7 ^ k) : Am_Ev false 2 0 0 203 [.ref 0, .int (nI k), .int (nI c)] (mH I F u v) (some (.int (rbs (fun a => F 11 (bs (k + 1) + 7 * c + a)) (evB k) 7))) (mH I F u v) := by
  refine am_ev 7 (some .int) false [6, 73, 86] ok_M_bestOf am_mP_203 (by rw [am_m_203]) (by rw [am_m_203]) (fun h => by cases h) (Nat.le_of_ble_eq_true rfl) (fun Go hG => ?_)
  have hb1 := bs_s (q := k + 1) (by omega)
  have hbb : nI (k) + nI 1 = nI (k + 1) := nI_s1 k
  have hba := c_M_base (mH I F u v) (k + 1) (by omega)
  rw [← nI_s1 k] at hba
  have h7 : 7 * c + 7 ≤ 7 ^ (k + 1) := by rw [Nat.pow_succ]; omega
  have L : ∀ (j a : Nat) (x y : Option Value), a + j = 7 → Go 6 [some (.ref 0), some (.int (nI k)), some (.int (nI c)), some (.int (rbs (fun a => F 11 (bs (k + 1) + 7 * c + a)) (evB k) a)), some (.int (nI a)), x, y] [] (mH I F u v) 0 0 := by
    intro j
    induction j with
    | zero =>
      intro a x y ha
      refine hG 200 _ _ _ _ _ _ ?_
      refine br_t (nI_le (by omega) (by omega)) ?_
      exact ⟨by rw [show a = 7 by omega], rfl, rfl, rfl⟩
    | succ j ih =>
      intro a x y ha
      have e : rbs (fun a => F 11 (bs (k + 1) + 7 * c + a)) (evB k) (a + 1) = if btr ((fun a => F 11 (bs (k + 1) + 7 * c + a)) a) (rbs (fun a => F 11 (bs (k + 1) + 7 * c + a)) (evB k) a) (evB k) = true then (fun a => F 11 (bs (k + 1) + 7 * c + a)) a else rbs (fun a => F 11 (bs (k + 1) + 7 * c + a)) (evB k) a := rfl
      have fin : ∀ t : Bool, btr (F 11 (bs (k + 1) + 7 * c + a)) (rbs (fun a => F 11 (bs (k + 1) + 7 * c + a)) (evB k) a) (evB k) = t → Go 73 [some (.ref 0), some (.int (nI k)), some (.int (nI c)), some (.int (rbs (fun a => F 11 (bs (k + 1) + 7 * c + a)) (evB k) a)), some (.int (nI a)), some (.int (F 11 (bs (k + 1) + 7 * c + a))), y] [.int (b2 t)] (mH I F u v) 0 0 := by
        intro t ht
        have h9 := ih (a + 1) (some (.int (F 11 (bs (k + 1) + 7 * c + a)))) (some (.int (b2 t))) (by omega)
        rw [e, ← nI_s1 a] at h9
        dsimp only at h9
        rw [ht] at h9
        cases t with
        | true =>
          rw [if_pos rfl] at h9
          refine hG 200 _ _ _ _ _ _ ?_
          refine br_f (by decide) ?_
          refine hG 200 _ _ _ _ _ _ ?_
          exact h9
        | false =>
          rw [if_neg (by decide)] at h9
          refine hG 200 _ _ _ _ _ _ ?_
          refine br_t rfl ?_
          refine hG 200 _ _ _ _ _ _ ?_
          exact h9
      refine hG 200 _ _ _ _ _ _ ?_
      refine br_f (nI_ge (by omega) (by omega)) ?_
      refine Exists.intro 1 (Exists.intro _ (Exists.intro _ ⟨by decide, hba, ?_⟩))
      refine Exists.intro (bs (k + 1) + 7 * c + a) ⟨by omega, by rw [pk_mul, nI_add, nI_add], ?_⟩
      unfold btr at fin
      refine And.intro (fun h1 => ?_) (fun h1 => And.intro (fun h2 => ?_) (fun h2 => ?_))
      · exact fin false (by rw [decide_eq_true (show F 11 (bs (k + 1) + 7 * c + a) = CN from h1)]; rfl)
      · exact fin true (by rw [decide_eq_false (show ¬ F 11 (bs (k + 1) + 7 * c + a) = CN from h1), decide_eq_true (show rbs (fun a => F 11 (bs (k + 1) + 7 * c + a)) (evB k) a = CN from h2)]; rfl)
      · have n1 := decide_eq_false (show ¬ F 11 (bs (k + 1) + 7 * c + a) = CN from h1)
        have n2 := decide_eq_false (show ¬ rbs (fun a => F 11 (bs (k + 1) + 7 * c + a)) (evB k) a = CN from h2)
        refine And.intro (by decide) ?_
        refine And.intro (fun h3 => ?_) (fun h3 => ?_)
        · have h3' : ¬ nI k - nI k / nI 2 * nI 2 = 0 := h3
          rw [rmk2 k (by omega), nI_z (by omega)] at h3'
          have ev : evB k = false := decide_eq_false h3'
          refine And.intro (fun h4 => ?_) (fun h4 => ?_)
          · exact fin false (by rw [n1, n2, if_neg (by rw [ev]; decide), decide_eq_false (Int32.not_lt.mpr h4)]; rfl)
          · exact fin true (by rw [n1, n2, if_neg (by rw [ev]; decide), decide_eq_true (Int32.not_le.mp h4)]; rfl)
        · have h3' : nI k - nI k / nI 2 * nI 2 = 0 := h3
          rw [rmk2 k (by omega), nI_z (by omega)] at h3'
          have ev : evB k = true := decide_eq_true h3'
          refine And.intro (fun h4 => ?_) (fun h4 => ?_)
          · exact fin false (by rw [n1, n2, if_pos ev, decide_eq_false (Int32.not_lt.mpr h4)]; rfl)
          · exact fin true (by rw [n1, n2, if_pos ev, decide_eq_true (Int32.not_le.mp h4)]; rfl)
  refine hG 200 _ _ _ _ _ _ ?_
  exact L 7 0 none none (by omega)

theorem x_worth {I : Nat → Int32} {F : Nat → Nat → Int32} {n : Nat} {kd du : Nat → Nat} (hb : MBs I F n kd du) (u v : Int64) {w : Nat → Int32} (hl : ∀ j, j < 2136 → w j = F 1 j) (k c all : Nat) (hall : all ≤ 4) (hk : k ≤ all) (he : evB all = true) (hc : c < 7 ^ k) (hw : k < all → ∀ c', c' < 7 ^ (k + 1) → F 11 (bs (k + 1) + c') = wvS n kd all du (k + 1) c') : ∃ w', (∀ j, j < 2136 → w' j = F 1 j) ∧ Am_Ev false 3 0 0 201 [.ref 0, .int (nI k), .int (nI c), .int (nI all)] (mH I (va_up F 1 w) u v) (some (.int (wvS n kd all du k c))) (mH I (va_up F 1 w') u v) := by
  have hkd : kdok n kd := fun i q => (hb.2.2.2.1 i q).2
  obtain ⟨w1, hw1, hcan⟩ := x_can hb u v hl c k (by omega) hc
  have hap := (ctS_ok hkd (q := k) (c := c) hb.2.2.2.2.2).1
  by_cases h1 : (ctS n kd k c du).1 = k
  · rw [decide_eq_true h1] at hcan
    by_cases h2 : k = all
    · have e : wvS n kd all du k c = sumS n (ctS n kd k c du).2 := by
        unfold wvS
        rw [if_pos h1, show all - k = 0 by omega]
        rfl
      rw [e]
      refine ⟨w1, hw1.2, am_ev 4 (some .int) false [] ok_M_worthOf am_mP_201 (by rw [am_m_201]) (by rw [am_m_201]) (fun h => by cases h) (Nat.le_of_ble_eq_true rfl) (fun Go hG => ?_)⟩
      refine hG 200 _ _ _ _ _ _ ?_
      refine Exists.intro 2 (Exists.intro _ (Exists.intro _ ⟨by decide, hcan, ?_⟩))
      refine bn_t (by decide) ?_
      refine bn_f (by rw [h2]) ?_
      refine Exists.intro 0 (Exists.intro _ (Exists.intro _ ⟨by decide, x_sum hb u v hw1, ?_⟩))
      exact ⟨rfl, rfl, rfl, rfl⟩
    · have h2' : ¬ nI k = nI all := fun q => h2 ((nI_eqd (by omega) (by omega)).mp q)
      obtain ⟨w2, hc2, hw2⟩ := x_rests hb u v hw1 hap
      have h7 : 7 * c + 7 ≤ 7 ^ (k + 1) := by rw [Nat.pow_succ]; omega
      have hst := wv_step (w := fun a => F 11 (bs (k + 1) + 7 * c + a)) hb.2.1 hkd hb.2.2.2.2.2 (show k < all by omega) he h1 (fun a ha => by
        show F 11 (bs (k + 1) + 7 * c + a) = _
        rw [Nat.add_assoc]
        exact hw (by omega) (7 * c + a) (by omega))
      have hht := x_heights hb u v hw2
      rw [hst]
      by_cases h0 : hgtS n kd (rstS n (ctS n kd k c du).2) = 0
      · rw [if_pos h0]
        refine ⟨w2, hw2.2, am_ev 4 (some .int) false [] ok_M_worthOf am_mP_201 (by rw [am_m_201]) (by rw [am_m_201]) (fun h => by cases h) (Nat.le_of_ble_eq_true rfl) (fun Go hG => ?_)⟩
        refine hG 200 _ _ _ _ _ _ ?_
        refine Exists.intro 2 (Exists.intro _ (Exists.intro _ ⟨by decide, hcan, ?_⟩))
        refine bn_t (by decide) ?_
        refine bn_t h2' ?_
        refine Exists.intro 1 (Exists.intro _ (Exists.intro _ ⟨by decide, hc2, ?_⟩))
        refine Exists.intro 2 (Exists.intro _ (Exists.intro _ ⟨by decide, hht, ?_⟩))
        refine bn_f h0 ?_
        refine Exists.intro 0 (Exists.intro _ (Exists.intro _ ⟨by decide, x_sum hb u v hw2, ?_⟩))
        refine And.intro (by decide) ?_
        refine And.intro (fun h3 => ?_) (fun h3 => ?_)
        · have h3' : ¬ nI k - nI k / nI 2 * nI 2 = 0 := h3
          rw [rmk2 k (by omega), nI_z (by omega)] at h3'
          exact ⟨by rw [show evB k = false from decide_eq_false h3']; rfl, rfl, rfl, rfl⟩
        · have h3' : nI k - nI k / nI 2 * nI 2 = 0 := h3
          rw [rmk2 k (by omega), nI_z (by omega)] at h3'
          exact ⟨by rw [show evB k = true from decide_eq_true h3']; rfl, rfl, rfl, rfl⟩
      · rw [if_neg h0]
        refine ⟨w2, hw2.2, am_ev 4 (some .int) false [] ok_M_worthOf am_mP_201 (by rw [am_m_201]) (by rw [am_m_201]) (fun h => by cases h) (Nat.le_of_ble_eq_true rfl) (fun Go hG => ?_)⟩
        refine hG 200 _ _ _ _ _ _ ?_
        refine Exists.intro 2 (Exists.intro _ (Exists.intro _ ⟨by decide, hcan, ?_⟩))
        refine bn_t (by decide) ?_
        refine bn_t h2' ?_
        refine Exists.intro 1 (Exists.intro _ (Exists.intro _ ⟨by decide, hc2, ?_⟩))
        refine Exists.intro 2 (Exists.intro _ (Exists.intro _ ⟨by decide, hht, ?_⟩))
        refine bn_t h0 ?_
        refine Exists.intro 2 (Exists.intro _ (Exists.intro _ ⟨by decide, c_M_bestOf I (va_up F 1 w2) u v k c (by omega) hc, ?_⟩))
        exact ⟨rfl, rfl, rfl, rfl⟩
  · rw [decide_eq_false h1] at hcan
    have e : wvS n kd all du k c = CN := by
      unfold wvS
      rw [if_neg h1]
    rw [e]
    refine ⟨w1, hw1.2, am_ev 4 (some .int) false [] ok_M_worthOf am_mP_201 (by rw [am_m_201]) (by rw [am_m_201]) (fun h => by cases h) (Nat.le_of_ble_eq_true rfl) (fun Go hG => ?_)⟩
    refine hG 200 _ _ _ _ _ _ ?_
    refine Exists.intro 2 (Exists.intro _ (Exists.intro _ ⟨by decide, hcan, ?_⟩))
    refine bn_f rfl ?_
    exact ⟨rfl, rfl, rfl, rfl⟩

theorem l_M_dcode {I : Nat → Int32} {F : Nat → Nat → Int32} {n : Nat} {kd du : Nat → Nat} (hb : MBs I F n kd du) (u v : Int64) (m : Nat) (hm : m ≤ 2) (k : Nat) (hk : k ≤ 2 * m) : ∀ (j c : Nat) (g w : Nat → Int32), c + j = 7 ^ k → (∀ i, i < 2136 → w i = F 1 i) → (k < 2 * m → ∀ c', c' < 7 ^ (k + 1) → g (bs (k + 1) + c') = wvS n kd (2 * m) du (k + 1) c') → (∀ c', c' < c → g (bs k + c') = wvS n kd (2 * m) du k c') → ∃ g' w', (∀ i, i < 2136 → w' i = F 1 i) ∧ (∀ c', c' < 7 ^ k → g' (bs k + c') = wvS n kd (2 * m) du k c') ∧ ∀ r1 hp', Rch cd_M_duel [25, 31] 4 (some .int) 25 [some (.ref 0), some (.int (nI m)), some (.int (nI k + -nI 1)), some (.int (nI (7 ^ k)))] [] (mH I (va_up (va_up F 11 g') 1 w') u v) r1 hp' → Rch cd_M_duel [25, 31] 4 (some .int) 31 [some (.ref 0), some (.int (nI m)), some (.int (nI k)), some (.int (nI c))] [] (mH I (va_up (va_up F 11 g) 1 w) u v) r1 hp' := by
  have hq7 := pw74 (q := k) (by omega)
  have hbs := bs_s (q := k) (by omega)
  have he : evB (2 * m) = true := decide_eq_true (by omega)
  intro j
  induction j with
  | zero =>
    intro c g w hcj hl h1 h2
    refine ⟨g, w, hl, fun c' hc' => h2 c' (by omega), fun r1 hp' hR Go hG => ?_⟩
    have h9 := hR Go hG
    rw [show 7 ^ k = c by omega] at h9
    refine hG 200 _ _ _ _ _ _ ?_
    refine Exists.intro 0 (Exists.intro _ (Exists.intro _ ⟨by decide, c_M_power _ k (by omega), ?_⟩))
    refine br_t (nI_le (by omega) (by omega)) ?_
    exact h9
  | succ j ih =>
    intro c g w hcj hl h1 h2
    have hb2 : MBs I (va_up F 11 g) n kd du := hb
    obtain ⟨w1, hl1, hwo⟩ := x_worth hb2 u v (w := w) hl k c (2 * m) (by omega) hk he (by omega) (fun hlt c' hc' => h1 hlt c' hc')
    rw [show nI (2 * m) = nI 2 * nI m by rw [pk_mul]] at hwo
    obtain ⟨g2, w2, hl2, hg2, hR2⟩ := ih (c + 1) (upd g (bs k + c) (wvS n kd (2 * m) du k c)) w1 (by omega) hl1 (fun hlt c' hc' => by
        rw [pk_un (by omega)]
        exact h1 hlt c' hc') (fun c' hc' => by
        by_cases e : c' = c
        · rw [e, pk_us]
        · rw [pk_un (by omega)]
          exact h2 c' (by omega))
    refine ⟨g2, w2, hl2, hg2, fun r1 hp' hR Go hG => ?_⟩
    have h9 := hR2 r1 hp' hR Go hG
    rw [← nI_s1 c] at h9
    refine hG 200 _ _ _ _ _ _ ?_
    refine Exists.intro 0 (Exists.intro _ (Exists.intro _ ⟨by decide, c_M_power _ k (by omega), ?_⟩))
    refine br_f (nI_ge (by omega) (by omega)) ?_
    refine Exists.intro 1 (Exists.intro _ (Exists.intro _ ⟨by decide, c_M_base _ k (by omega), ?_⟩))
    refine Exists.intro 3 (Exists.intro _ (Exists.intro _ ⟨by decide, hwo, ?_⟩))
    refine Exists.intro (bs k + c) ⟨by omega, by rw [nI_add], ?_⟩
    exact h9
theorem l_M_duel {I : Nat → Int32} {F : Nat → Nat → Int32} {n : Nat} {kd du : Nat → Nat} (hb : MBs I F n kd du) (u v : Int64) (m : Nat) (hm : m ≤ 2) : ∀ (k : Nat) (g w : Nat → Int32) (x : Option Value), k ≤ 2 * m → (∀ i, i < 2136 → w i = F 1 i) → (k < 2 * m → ∀ c', c' < 7 ^ (k + 1) → g (bs (k + 1) + c') = wvS n kd (2 * m) du (k + 1) c') → ∃ g' w', (∀ i, i < 2136 → w' i = F 1 i) ∧ Rch cd_M_duel [25, 31] 4 (some .int) 25 [some (.ref 0), some (.int (nI m)), some (.int (nI k)), x] [] (mH I (va_up (va_up F 11 g) 1 w) u v) (some (.int (nI 1))) (mH (upd I 8 (bfS n kd (2 * m) du)) (va_up (va_up F 11 g') 1 w') u v) := by
  intro k
  induction k with
  | zero =>
    intro g w x hk hl h1
    obtain ⟨g2, w2, hl2, hg2, hR2⟩ := l_M_dcode hb u v m hm 0 hk (7 ^ 0) 0 g w (by omega) hl h1 (fun c' hc' => absurd hc' (Nat.not_lt_zero _))
    have e0 : g2 0 = bfS n kd (2 * m) du := by
      have := hg2 0 (by decide)
      rw [show bs 0 + 0 = 0 from rfl] at this
      rw [this]
      rfl
    refine ⟨g2, w2, hl2, fun Go hG => ?_⟩
    have h9 := hR2 (some (.int (nI 1))) (mH (upd I 8 (bfS n kd (2 * m) du)) (va_up (va_up F 11 g2) 1 w2) u v) (fun Go hG => by
      refine hG 200 _ _ _ _ _ _ ?_
      refine br_t (by decide) ?_
      refine Exists.intro 0 ⟨by omega, rfl, ?_⟩
      have ht := c_M_tell I (va_up (va_up F 11 g2) 1 w2) u v (g2 0)
      rw [e0] at ht
      show ∃ d' r hp', _ ∧ Am_Ev false d' 0 0 138 [.ref 0, .int (g2 0)] _ r hp' ∧ _
      rw [e0]
      refine Exists.intro 0 (Exists.intro _ (Exists.intro _ ⟨by decide, ht, ?_⟩))
      exact ⟨rfl, rfl, rfl, rfl⟩) Go hG
    refine hG 200 _ _ _ _ _ _ ?_
    refine br_f (by decide) ?_
    exact h9
  | succ k ih =>
    intro g w x hk hl h1
    obtain ⟨g2, w2, hl2, hg2, hR2⟩ := l_M_dcode hb u v m hm (k + 1) hk (7 ^ (k + 1)) 0 g w (by omega) hl h1 (fun c' hc' => absurd hc' (Nat.not_lt_zero _))
    obtain ⟨g3, w3, hl3, hR3⟩ := ih g2 w2 (some (.int (nI (7 ^ (k + 1))))) (by omega) hl2 (fun _ => hg2)
    refine ⟨g3, w3, hl3, fun Go hG => ?_⟩
    rw [show (nI k : Int32) = nI (k + 1) + -nI 1 from (pk_m1 k).symm] at hR3
    have h9 := hR2 _ _ hR3 Go hG
    refine hG 200 _ _ _ _ _ _ ?_
    refine br_f (show ¬ nI (k + 1) < nI 0 from nI_nlt (by omega) (by omega)) ?_
    exact h9

theorem pm_M_duel (S : Sta) (hp : List Am_C) (hRM : RM S hp) (q : Int32) : ∃ hp', Am_Ev false 4 0 0 199 [.ref 0, .int q] hp (some (.int (spDuel S q).1)) hp' ∧ RM (spDuel S q).2 hp' := by
  obtain ⟨I, F, rfl, hx⟩ := hRM
  obtain ⟨hs, hr, ht, hl⟩ := id hx
  obtain ⟨g1, g2, g3, g4, g5, g6⟩ := hs
  have hI : I 2 = nI (eN S) := g1
  have hn : eN S ≤ 6 := g2
  unfold spDuel
  by_cases hn0 : eN S = 0
  · rw [if_pos hn0]
    refine ⟨_, am_ev 4 (some .int) false [25, 31] ok_M_duel am_mP_199 (by rw [am_m_199]) (by rw [am_m_199]) (fun h => by cases h) (Nat.le_of_ble_eq_true rfl) (fun Go hG => ?_), RM_of hx⟩
    refine hG 200 _ _ _ _ _ _ ?_
    refine bn_f (by rw [hI, hn0]; rfl) ?_
    exact ⟨rfl, rfl, rfl, rfl⟩
  · rw [if_neg hn0]
    have hI0 : ¬ I 2 = 0 := by rw [hI]; exact fun q => hn0 ((nI_z (by omega)).mp q)
    have hb := MBs_of hx hn0
    have hin := c_M_in (mH I F S.2.2.2.2.2.2.1 S.2.2.2.2.2.2.2) q (nI 0) (nI 2)
    cases ho : in3 q (nI 0) (nI 2) with
    | false =>
      rw [if_pos rfl]
      rw [ho] at hin
      refine ⟨_, am_ev 4 (some .int) false [25, 31] ok_M_duel am_mP_199 (by rw [am_m_199]) (by rw [am_m_199]) (fun h => by cases h) (Nat.le_of_ble_eq_true rfl) (fun Go hG => ?_), RM_of hx⟩
      refine hG 200 _ _ _ _ _ _ ?_
      refine bn_t hI0 ?_
      refine Exists.intro 0 (Exists.intro _ (Exists.intro _ ⟨by decide, hin, ?_⟩))
      refine bn_f rfl ?_
      exact ⟨rfl, rfl, rfl, rfl⟩
    | true =>
      rw [if_neg (by decide)]
      rw [ho] at hin
      obtain ⟨m, -, hm, rfl⟩ := in3_nat (by decide) (by decide) ho
      rw [nat_nI (by omega)]
      obtain ⟨g', w', hl', hR⟩ := l_M_duel hb S.2.2.2.2.2.2.1 S.2.2.2.2.2.2.2 m hm (2 * m) (F 11) (F 1) none (Nat.le_refl _) (fun _ _ => rfl) (fun h => absurd h (Nat.lt_irrefl _))
      rw [va_up_same, va_up_same] at hR
      have hx1 : RMx I (va_up F 11 g') S := hx
      have hx2 := RMx_try (w := w') hx1 hl'
      refine ⟨_, am_ev 4 (some .int) false [25, 31] ok_M_duel am_mP_199 (by rw [am_m_199]) (by rw [am_m_199]) (fun h => by cases h) (Nat.le_of_ble_eq_true rfl) (fun Go hG => ?_), RM_tell hx2 _⟩
      have h9 := hR Go hG
      rw [← pk_mul] at h9
      refine hG 200 _ _ _ _ _ _ ?_
      refine bn_t hI0 ?_
      refine Exists.intro 0 (Exists.intro _ (Exists.intro _ ⟨by decide, hin, ?_⟩))
      refine bn_t (by decide) ?_
      exact h9

