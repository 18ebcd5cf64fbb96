/-! ===== height ===== -/
def hgN (p : Int32 → Bool) : Nat → Nat
  | 0 => 0
  | n + 1 => hgN p n ||| (if p (nI (n + 1)) then 2 ^ (n + 1) else 0)
theorem hgtG_N {p : Int32 → Bool} : ∀ {n : Nat}, n ≤ 7 → hgtG p n = nI (hgN p n)
  | 0, _ => rfl
  | n + 1, h => by
    have ih := hgtG_N (p := p) (n := n) (by omega)
    cases q : p (nI (n + 1)) with
    | true =>
      rw [hgtG_t q, ih, nI_one_shl (by omega), nI_or]
      show _ = nI (hgN p n ||| (if p (nI (n + 1)) = true then 2 ^ (n + 1) else 0))
      rw [q]
      rfl
    | false =>
      rw [hgtG_f q, ih, nI_or]
      show _ = nI (hgN p n ||| (if p (nI (n + 1)) = true then 2 ^ (n + 1) else 0))
      rw [q]
      rfl
theorem hgN_bit {p : Int32 → Bool} {l : Nat} : ∀ {n : Nat}, (hgN p n).testBit l = (decide (1 ≤ l ∧ l ≤ n) && p (nI l))
  | 0 => by
    show (0 : Nat).testBit l = _
    rw [Nat.zero_testBit, decide_eq_false (by omega), Bool.false_and]
  | n + 1 => by
    have ih := hgN_bit (p := p) (l := l) (n := n)
    unfold hgN
    rw [Nat.testBit_or, ih]
    by_cases e : l = n + 1
    · subst e
      rw [decide_eq_false (by omega), Bool.false_and, Bool.false_or, decide_eq_true (by omega), Bool.true_and]
      cases q : p (nI (n + 1)) with
      | true => rw [if_pos rfl, Nat.testBit_two_pow_self]
      | false => rw [if_neg (by decide), Nat.zero_testBit]
    · have e2 : (if p (nI (n + 1)) then 2 ^ (n + 1) else 0 : Nat).testBit l = false := by
        split
        · rw [Nat.testBit_two_pow]; exact decide_eq_false (by omega)
        · exact Nat.zero_testBit l
      rw [e2, Bool.or_false]
      congr 1
      exact decide_eq_decide.mpr (by omega)
theorem hgN_lt {p : Int32 → Bool} : ∀ {n : Nat}, n ≤ 7 → hgN p n < 256
  | 0, _ => by show 0 < 256; omega
  | n + 1, h => by
    have ih := hgN_lt (p := p) (n := n) (by omega)
    unfold hgN
    refine Nat.or_lt_two_pow (n := 8) ih ?_
    split
    · exact Nat.pow_lt_pow_right (by decide) (by omega)
    · decide
theorem has_hgt {p : Int32 → Bool} {h : Nat} (hh : 1 ≤ h ∧ h ≤ 7) : hasB (hgtG p 7) (nI h) = p (nI h) := by
  rw [hgtG_N (by omega), hasB_N (by have := hgN_lt (p := p) (n := 7) (by omega); omega) (by omega), hgN_bit, decide_eq_true hh, Bool.true_and]
/-- the bit of a height is looked at -/
theorem bit_hgt {p : Int32 → Bool} {h : Nat} (hh : 1 ≤ h ∧ h ≤ 7) : (hgtG p 7 >>> (nI h &&& 31) &&& nI 1 = 0 ∧ p (nI h) = false) ∨ (¬ hgtG p 7 >>> (nI h &&& 31) &&& nI 1 = 0 ∧ p (nI h) = true) := by
  have e := has_hgt (p := p) hh
  unfold hasB at e
  rcases and1 (hgtG p 7 >>> (nI h &&& 31)) with ⟨a1, a2⟩ | ⟨a1, a2⟩
  · rw [decide_eq_false a2] at e
    exact Or.inl ⟨a1, e.symm⟩
  · rw [decide_eq_true a2] at e
    exact Or.inr ⟨a1, e.symm⟩
def htP (n : Nat) (kd du : Nat → Nat) (sky z : Int32) : Bool := mayS n kd du z && decide (skyS n (tosS n kd du (nat z)) = sky)
def spHeight (S : Sta) (sky : Int32) : Int32 × Sta := if eN S = 0 then (-nI 4, S) else if okS sky = false then (-nI 1, S) else if dueS (eN S) (duE (eE S)) < eN S then (hgtG (htP (eN S) (eK S) (duE (eE S)) sky) 7, S) else (-nI 9, S)

theorem x_may0 {I : Nat → Int32} {F : Nat → Nat → Int32} {n : Nat} {kd du : Nat → Nat} (hb : MBs I F n kd du) (u v : Int64) {w : Nat → Int32} (hl : ∀ j, j < 2136 → w j = F 1 j) (z : Int32) : Am_Ev false 1 0 0 163 [.ref 0, .int (nI 0), .int z] (mH I (va_up F 1 w) u v) (some (.int (b2 (mayS n kd du z)))) (mH I (va_up F 1 w) u v) := by
  obtain ⟨hI, hn, h0, hk, hd, ha⟩ := hb
  have h := c_M_mayAt I (va_up F 1 w) u v n 0 z hI hn (by omega)
  rw [mayG_congr (g := fun i => va_up F 1 w 1 (0 + i)) (h := gN du) (kf := va_up F 1 w 2) (kh := gN kd) (fun k hk2 => by show w (0 + k) = _; rw [Nat.zero_add, hl k (by omega)]; exact hd k hk2) (fun k q => (hk k q).1)] at h
  exact h
theorem l_M_height {I : Nat → Int32} {F : Nat → Nat → Int32} {n : Nat} {kd du : Nat → Nat} (hb : MBs I F n kd du) (u v : Int64) (sky : Int32) : ∀ (j q : Nat) (w : Nat → Int32), q + j = 7 → (∀ i, i < 2136 → w i = F 1 i) → ∃ w', (∀ i, i < 2136 → w' i = F 1 i) ∧ Rch cd_M_height [36] 4 (some .int) 36 [some (.ref 0), some (.int sky), some (.int (hgtG (htP n kd du sky) q)), some (.int (nI (q + 1)))] [] (mH I (va_up F 1 w) u v) (some (.int (hgtG (htP n kd du sky) 7))) (mH I (va_up F 1 w') u v) := by
  intro j
  induction j with
  | zero =>
    intro q w hq hl
    refine ⟨w, hl, fun Go hG => ?_⟩
    refine hG 200 _ _ _ _ _ _ ?_
    refine br_t (nI_lt (by omega) (by omega)) ?_
    rw [show q = 7 by omega]
    exact ⟨rfl, rfl, rfl, rfl⟩
  | succ j ih =>
    intro q w hq hl
    have hcm := x_may0 hb u v hl (nI (q + 1))
    cases hm : mayS n kd du (nI (q + 1)) with
    | false =>
      rw [hm] at hcm
      obtain ⟨w1, hl1, hR⟩ := ih (q + 1) w (by omega) hl
      refine ⟨w1, hl1, fun Go hG => ?_⟩
      have h9 := hR Go hG
      rw [hgtG_f (p := (htP n kd du sky)) (by unfold htP; rw [hm]; rfl), or0, ← nI_s1 (q + 1)] at h9
      refine hG 200 _ _ _ _ _ _ ?_
      refine br_f (nI_nlt (by omega) (by omega)) ?_
      refine Exists.intro 1 (Exists.intro _ (Exists.intro _ ⟨by decide, hcm, ?_⟩))
      refine br_t rfl ?_
      exact h9
    | true =>
      rw [hm] at hcm
      obtain ⟨w1, hc1, hw1⟩ := x_begin hb u v hl
      obtain ⟨w2, hc2, hw2⟩ := x_toss hb u v hw1 hb.2.2.2.2.2 (q + 1) (by omega) hm
      have hsk := x_sky hb u v hw2
      obtain ⟨w3, hl3, hR⟩ := ih (q + 1) w2 (by omega) hw2.2
      refine ⟨w3, hl3, fun Go hG => ?_⟩
      have h9 := hR Go hG
      rw [← nI_s1 (q + 1)] at h9
      refine hG 200 _ _ _ _ _ _ ?_
      refine br_f (nI_nlt (by omega) (by omega)) ?_
      refine Exists.intro 1 (Exists.intro _ (Exists.intro _ ⟨by decide, hcm, ?_⟩))
      refine br_f (by decide) ?_
      refine Exists.intro 1 (Exists.intro _ (Exists.intro _ ⟨by decide, hc1, ?_⟩))
      refine Exists.intro 1 (Exists.intro _ (Exists.intro _ ⟨by decide, hc2, ?_⟩))
      refine Exists.intro 0 (Exists.intro _ (Exists.intro _ ⟨by decide, hsk, ?_⟩))
      refine And.intro (fun h1 => ?_) (fun h1 => ?_)
      · rw [hgtG_f (p := (htP n kd du sky)) (by unfold htP; rw [hm, nat_nI (by omega), decide_eq_false h1]; rfl)] at h9
        exact h9
      · rw [hgtG_t (p := (htP n kd du sky)) (by unfold htP; rw [hm, nat_nI (by omega), decide_eq_true h1]; rfl)] at h9
        exact h9

theorem pm_M_height (S : Sta) (hp : List Am_C) (hRM : RM S hp) (sky : Int32) : ∃ hp', Am_Ev false 4 0 0 193 [.ref 0, .int sky] hp (some (.int (spHeight S sky).1)) hp' ∧ RM (spHeight S sky).2 hp' := by
  obtain ⟨I, F, rfl, hx⟩ := hRM
  obtain ⟨hs, hr, ht, hl⟩ := id hx
  obtain ⟨g1, g2, g3, g4, g5, g6⟩ := hs
  have hI : I 2 = nI (eN S) := g1
  have hn : eN S ≤ 6 := g2
  unfold spHeight
  by_cases hn0 : eN S = 0
  · rw [if_pos hn0]
    refine ⟨_, am_ev 4 (some .int) false [36] ok_M_height am_mP_193 (by rw [am_m_193]) (by rw [am_m_193]) (fun h => by cases h) (Nat.le_of_ble_eq_true rfl) (fun Go hG => ?_), RM_of hx⟩
    refine hG 200 _ _ _ _ _ _ ?_
    refine bn_f (by rw [hI, hn0]; rfl) ?_
    exact ⟨rfl, rfl, rfl, rfl⟩
  · rw [if_neg hn0]
    have hI0 : ¬ I 2 = 0 := by rw [hI]; exact fun q => hn0 ((nI_z (by omega)).mp q)
    have hb := MBs_of hx hn0
    have hsy := c_M_isSky (mH I F S.2.2.2.2.2.2.1 S.2.2.2.2.2.2.2) sky
    cases ho : okS sky with
    | false =>
      rw [if_pos rfl]
      rw [show in3 sky (nI 0) (nI 65535) = false from ho] at hsy
      refine ⟨_, am_ev 4 (some .int) false [36] ok_M_height am_mP_193 (by rw [am_m_193]) (by rw [am_m_193]) (fun h => by cases h) (Nat.le_of_ble_eq_true rfl) (fun Go hG => ?_), RM_of hx⟩
      refine hG 200 _ _ _ _ _ _ ?_
      refine bn_t hI0 ?_
      refine Exists.intro 1 (Exists.intro _ (Exists.intro _ ⟨by decide, hsy, ?_⟩))
      refine bn_f rfl ?_
      exact ⟨rfl, rfl, rfl, rfl⟩
    | true =>
      rw [if_neg (by decide)]
      rw [show in3 sky (nI 0) (nI 65535) = true from ho] at hsy
      have hdc := c_M_dueAt I F S.2.2.2.2.2.2.1 S.2.2.2.2.2.2.2 (eN S) 0 hI hn (by omega)
      rw [dueG_congr (h := gN (duE (eE S))) (fun k q => by rw [Nat.zero_add]; exact hb.2.2.2.2.1 k q) (eN S) 0 (by omega)] at hdc
      by_cases hdu : dueS (eN S) (duE (eE S)) < eN S
      · rw [if_pos hdu]
        rw [show dueG (gN (duE (eE S))) (eN S) 0 = dueS (eN S) (duE (eE S)) from rfl, dueR_yes hdu] at hdc
        obtain ⟨w1, hl1, hR⟩ := l_M_height hb S.2.2.2.2.2.2.1 S.2.2.2.2.2.2.2 sky 7 0 (F 1) (by omega) (fun _ _ => rfl)
        rw [va_up_same] at hR
        refine ⟨_, am_ev 4 (some .int) false [36] ok_M_height am_mP_193 (by rw [am_m_193]) (by rw [am_m_193]) (fun h => by cases h) (Nat.le_of_ble_eq_true rfl) (fun Go hG => ?_), RM_of (RMx_try hx hl1)⟩
        refine hG 200 _ _ _ _ _ _ ?_
        refine bn_t hI0 ?_
        refine Exists.intro 1 (Exists.intro _ (Exists.intro _ ⟨by decide, hsy, ?_⟩))
        refine bn_t (by decide) ?_
        refine Exists.intro 0 (Exists.intro _ (Exists.intro _ ⟨by decide, hdc, ?_⟩))
        refine bn_t (nI_m9 (by omega)) ?_
        exact hR Go hG
      · rw [if_neg hdu]
        rw [show dueG (gN (duE (eE S))) (eN S) 0 = dueS (eN S) (duE (eE S)) from rfl, dueR_no hdu] at hdc
        refine ⟨_, am_ev 4 (some .int) false [36] ok_M_height am_mP_193 (by rw [am_m_193]) (by rw [am_m_193]) (fun h => by cases h) (Nat.le_of_ble_eq_true rfl) (fun Go hG => ?_), RM_of hx⟩
        refine hG 200 _ _ _ _ _ _ ?_
        refine bn_t hI0 ?_
        refine Exists.intro 1 (Exists.intro _ (Exists.intro _ ⟨by decide, hsy, ?_⟩))
        refine bn_t (by decide) ?_
        refine Exists.intro 0 (Exists.intro _ (Exists.intro _ ⟨by decide, hdc, ?_⟩))
        refine bn_f rfl ?_
        exact ⟨rfl, rfl, rfl, rfl⟩

theorem y_heightsTo {I : Nat → Int32} {F : Nat → Nat → Int32} {n : Nat} {kd : Nat → Nat} (hb : CBs I F n kd) (u v : Int64) {d : Nat → Nat} (ha : apart n d) (sky : Int32) : Am_Ev false 3 0 0 96 [.ref 14, .int (nI (pkN d n)), .int sky] (cH I F u v) (some (.int (hgtG (htP n kd d sky) 7))) (cH I F u v) := by
  have hkd : kdok n kd := fun i q => (hb.2.2.2 i q).2
  refine am_ev 6 (some .int) false [15] ok_O_heightsTo am_mP_96 (by rw [am_m_96]) (by rw [am_m_96]) (fun h => by cases h) (Nat.le_of_ble_eq_true rfl) (fun Go hG => ?_)
  have L : ∀ (j q : Nat), q + j = 7 → Go 15 [some (.ref 14), some (.int (nI (pkN d n))), some (.int sky), some (.int (hgtS n kd d)), some (.int (hgtG (htP n kd d sky) q)), some (.int (nI (q + 1)))] [] (cH I F u v) 0 0 := by
    intro j
    induction j with
    | zero =>
      intro q hq
      refine hG 200 _ _ _ _ _ _ ?_
      refine br_t (nI_lt (by omega) (by omega)) ?_
      rw [show q = 7 by omega]
      exact ⟨rfl, rfl, rfl, rfl⟩
    | succ j ih =>
      intro q hq
      have h9 := ih (q + 1) (by omega)
      rw [← nI_s1 (q + 1)] at h9
      refine hG 200 _ _ _ _ _ _ ?_
      refine br_f (nI_nlt (by omega) (by omega)) ?_
      rcases bit_hgt (p := mayS n kd d) (h := q + 1) (by omega) with ⟨b1, b2⟩ | ⟨b1, b2⟩
      · rw [hgtG_f (p := (htP n kd d sky)) (by unfold htP; rw [b2]; rfl), or0] at h9
        refine br_t b1 ?_
        exact h9
      · have hct := y_thrown hb u v ha (q + 1) (by omega) b2
        have hcs := y_sky hb u v (apart_tos ha hkd (by omega) b2)
        refine br_f b1 ?_
        refine Exists.intro 2 (Exists.intro _ (Exists.intro _ ⟨by decide, hct, ?_⟩))
        refine Exists.intro 1 (Exists.intro _ (Exists.intro _ ⟨by decide, hcs, ?_⟩))
        refine And.intro (fun h1 => ?_) (fun h1 => ?_)
        · rw [hgtG_f (p := (htP n kd d sky)) (by unfold htP; rw [b2, nat_nI (by omega), decide_eq_false h1]; rfl), or0] at h9
          exact h9
        · rw [hgtG_t (p := (htP n kd d sky)) (by unfold htP; rw [b2, nat_nI (by omega), decide_eq_true h1]; rfl)] at h9
          exact h9
  refine hG 200 _ _ _ _ _ _ ?_
  refine Exists.intro 2 (Exists.intro _ (Exists.intro _ ⟨by decide, y_heights hb u v ha, ?_⟩))
  exact L 7 0 (by omega)

theorem pc_T_height (S : Sta) (hp : List Am_C) (hRM : RC S hp) (sky : Int32) : ∃ hp', Am_Ev false 6 0 0 95 [.ref 0, .int sky] hp (some (.int (spHeight S sky).1)) hp' ∧ RC (spHeight S sky).2 hp' := by
  obtain ⟨I, F, rfl, hx⟩ := hRM
  obtain ⟨hs, hr, ht, hl⟩ := id hx
  have hI : I 22 = nI (eN S) := hs.1
  have hn : eN S ≤ 6 := hs.2.1
  unfold spHeight
  by_cases hn0 : eN S = 0
  · rw [if_pos hn0]
    refine ⟨_, am_ev 2 (some .int) false [] ok_T_height am_mP_95 (by rw [am_m_95]) (by rw [am_m_95]) (fun h => by cases h) (Nat.le_of_ble_eq_true rfl) (fun Go hG => ?_), RC_of hx⟩
    refine hG 200 _ _ _ _ _ _ ?_
    refine bn_f (by rw [hI, hn0]; rfl) ?_
    exact ⟨rfl, rfl, rfl, rfl⟩
  · rw [if_neg hn0]
    have hI0 : ¬ I 22 = 0 := by rw [hI]; exact fun q => hn0 ((nI_z (by omega)).mp q)
    have hb := CBs_of hx hn0
    have hap : apart (eN S) (duE (eE S)) := hs.2.2.2.2.1 _ (Nat.le_refl _)
    have h30 : I 30 = nI (pkN (duE (eE S)) (eN S)) := hs.2.2.2.1.2.2.1
    have hsy := c_T_isSky (cH I F S.2.2.2.2.2.2.1 S.2.2.2.2.2.2.2) sky
    cases ho : okS sky with
    | false =>
      rw [if_pos rfl]
      rw [show in3 sky (nI 0) (nI 65535) = false from ho] at hsy
      refine ⟨_, am_ev 2 (some .int) false [] ok_T_height am_mP_95 (by rw [am_m_95]) (by rw [am_m_95]) (fun h => by cases h) (Nat.le_of_ble_eq_true rfl) (fun Go hG => ?_), RC_of hx⟩
      refine hG 200 _ _ _ _ _ _ ?_
      refine bn_t hI0 ?_
      refine Exists.intro 0 (Exists.intro _ (Exists.intro _ ⟨by decide, hsy, ?_⟩))
      refine bn_f rfl ?_
      exact ⟨rfl, rfl, rfl, rfl⟩
    | true =>
      rw [if_neg (by decide)]
      rw [show in3 sky (nI 0) (nI 65535) = true from ho] at hsy
      have hdc := y_due hb S.2.2.2.2.2.2.1 S.2.2.2.2.2.2.2 hap
      rw [← h30] at hdc
      by_cases hdu : dueS (eN S) (duE (eE S)) < eN S
      · rw [if_pos hdu]
        rw [dueR_yes hdu] at hdc
        have hht := y_heightsTo hb S.2.2.2.2.2.2.1 S.2.2.2.2.2.2.2 hap sky
        rw [← h30] at hht
        refine ⟨_, am_ev 2 (some .int) false [] ok_T_height am_mP_95 (by rw [am_m_95]) (by rw [am_m_95]) (fun h => by cases h) (Nat.le_of_ble_eq_true rfl) (fun Go hG => ?_), RC_of hx⟩
        refine hG 200 _ _ _ _ _ _ ?_
        refine bn_t hI0 ?_
        refine Exists.intro 0 (Exists.intro _ (Exists.intro _ ⟨by decide, hsy, ?_⟩))
        refine bn_t (by decide) ?_
        refine Exists.intro 1 (Exists.intro _ (Exists.intro _ ⟨by decide, hdc, ?_⟩))
        refine bn_t (nI_m9 (by omega)) ?_
        refine Exists.intro 3 (Exists.intro _ (Exists.intro _ ⟨by decide, hht, ?_⟩))
        exact ⟨rfl, rfl, rfl, rfl⟩
      · rw [if_neg hdu]
        rw [dueR_no hdu] at hdc
        refine ⟨_, am_ev 2 (some .int) false [] ok_T_height am_mP_95 (by rw [am_m_95]) (by rw [am_m_95]) (fun h => by cases h) (Nat.le_of_ble_eq_true rfl) (fun Go hG => ?_), RC_of hx⟩
        refine hG 200 _ _ _ _ _ _ ?_
        refine bn_t hI0 ?_
        refine Exists.intro 0 (Exists.intro _ (Exists.intro _ ⟨by decide, hsy, ?_⟩))
        refine bn_t (by decide) ?_
        refine Exists.intro 1 (Exists.intro _ (Exists.intro _ ⟨by decide, hdc, ?_⟩))
        refine bn_f rfl ?_
        exact ⟨rfl, rfl, rfl, rfl⟩

