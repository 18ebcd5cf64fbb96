/-! ===== the class: thing, mark, count ===== -/
def loK (k : Nat) : Nat := match k with
  | 4 => 3
  | _ => 1
def hiK (k : Nat) : Nat := match k with
  | 5 => 4
  | _ => 7
theorem loK_t {k : Nat} (h : k < 6) : (am_tab 2).2 k = nI (loK k) := by rcases lt6 h with rfl | rfl | rfl | rfl | rfl | rfl <;> rfl
theorem hiK_t {k : Nat} (h : k < 6) : (am_tab 3).2 k = nI (hiK k) := by rcases lt6 h with rfl | rfl | rfl | rfl | rfl | rfl <;> rfl
theorem loK_b {k : Nat} (h : k < 6) : 1 ≤ loK k ∧ loK k ≤ hiK k ∧ hiK k ≤ 7 := by rcases lt6 h with rfl | rfl | rfl | rfl | rfl | rfl <;> decide
theorem lnd_in {k h : Nat} (hk : k < 6) (h1 : loK k ≤ h) (h2 : h ≤ hiK k) : lnd k h ≠ 0 := by
  rcases lt6 hk with rfl | rfl | rfl | rfl | rfl | rfl
  · exact fun q => by have : lnd 0 h = h := rfl; have : loK 0 = 1 := rfl; omega
  · exact fun q => by have : lnd 1 h = h + h % 2 := rfl; have : loK 1 = 1 := rfl; omega
  · exact fun q => by have : lnd 2 h = 2 * h := rfl; have : loK 2 = 1 := rfl; omega
  · intro q
    have e : lnd 3 h = if h ≤ 1 then 1 else h - 1 := rfl
    rw [e] at q
    split at q <;> omega
  · intro q
    have e : lnd 4 h = if 3 ≤ h then h + h % 2 else 0 := rfl
    have : loK 4 = 3 := rfl
    rw [e, if_pos (by omega)] at q
    omega
  · intro q
    have e : lnd 5 h = if h ≤ 4 then (if h ≤ 1 then 1 else h - 1) else 0 := rfl
    have : hiK 5 = 4 := rfl
    rw [e, if_pos (by omega)] at q
    split at q <;> omega

theorem ul_true0 {k : Nat} (h : k < 6) : cntG (ulB (nI k) true) (loK k - 1) = nI 0 := by rcases lt6 h with rfl | rfl | rfl | rfl | rfl | rfl <;> decide +kernel
theorem ul_true7 {k : Nat} (h : k < 6) : cntG (ulB (nI k) true) (hiK k) = cntG (ulB (nI k) true) 7 := by rcases lt6 h with rfl | rfl | rfl | rfl | rfl | rfl <;> decide +kernel
theorem c_K_heightsLater (hp : List Am_C) (k : Nat) (hk : k < 6) : Am_Ev false 2 0 0 45 [.int (nI k)] (hp) (some (.int (cntG (ulB (nI k) true) 7))) (hp) := by
  refine am_ev 3 (some .int) false [8] ok_K_heightsLater am_mP_45 (by rw [am_m_45]) (by rw [am_m_45]) (fun h => by cases h) (Nat.le_of_ble_eq_true rfl) ?_
  intro Go hG
  have hb := loK_b hk
  have L : ∀ (j q : Nat), q + j = hiK k → loK k ≤ q + 1 → Go 8 [some (.int (nI k)), some (.int (cntG (ulB (nI k) true) q)), some (.int (nI (q + 1)))] [] hp 0 0 := by
    intro j
    induction j with
    | zero =>
      intro q hq h1
      refine hG 200 _ _ _ _ _ _ ?_
      refine Exists.intro k ⟨hk, rfl, ?_⟩
      refine br_t (by rw [hiK_t hk]; exact nI_lt (by omega) (by omega)) ?_
      exact ⟨by rw [show q = hiK k by omega, ul_true7 hk], rfl, rfl, rfl⟩
    | succ j ih =>
      intro q hq h1
      have hne := lnd_in (h := q + 1) hk (by omega) (by omega)
      have e1 := landI_S (h := q + 1) hk (by omega)
      have e0 : landI (nI 0) (nI (q + 1)) = nI (q + 1) := by
        rw [landI_S (by decide) (by omega)]
        rfl
      have e2 : ¬ landI (nI k) (nI (q + 1)) = -nI 9 := by
        rw [e1]
        unfold ldR
        rw [if_neg hne]
        exact nI_m9 (by have := lnd_le (h := q + 1) hk (by omega); omega)
      have h := ih (q + 1) (by omega) (by omega)
      rw [← nI_s1 (q + 1)] at h
      refine hG 200 _ _ _ _ _ _ ?_
      refine Exists.intro k ⟨hk, rfl, ?_⟩
      refine br_f (by rw [hiK_t hk]; exact nI_nlt (by omega) (by omega)) ?_
      refine Exists.intro 1 (Exists.intro _ (Exists.intro _ ⟨by decide, c_K_flight hp k (q + 1) hk (by omega), ?_⟩))
      refine Exists.intro 1 (Exists.intro _ (Exists.intro _ ⟨by decide, c_K_flight hp 0 (q + 1) (by decide) (by omega), ?_⟩))
      rw [e0]
      refine And.intro (fun h2 => ?_) (fun h2 => ?_)
      · rw [cntG_f (by unfold ulB; rw [decide_eq_true e2, Bool.true_and]; exact decide_eq_false (Int32.not_lt.mpr h2)), add0] at h
        exact h
      · rw [cntG_t (by unfold ulB; rw [decide_eq_true e2, Bool.true_and]; exact decide_eq_true (Int32.not_le.mp h2))] at h
        exact h
  refine hG 200 _ _ _ _ _ _ ?_
  refine Exists.intro k ⟨hk, rfl, ?_⟩
  have h9 := L (hiK k - (loK k - 1)) (loK k - 1) (by omega) (by omega)
  rw [ul_true0 hk, show loK k - 1 + 1 = loK k by omega, ← loK_t hk] at h9
  exact h9

theorem ul_false0 {k : Nat} (h : k < 6) : cntG (ulB (nI k) false) (loK k - 1) = nI 0 := by rcases lt6 h with rfl | rfl | rfl | rfl | rfl | rfl <;> decide +kernel
theorem ul_false7 {k : Nat} (h : k < 6) : cntG (ulB (nI k) false) (hiK k) = cntG (ulB (nI k) false) 7 := by rcases lt6 h with rfl | rfl | rfl | rfl | rfl | rfl <;> decide +kernel
theorem c_K_heightsSooner (hp : List Am_C) (k : Nat) (hk : k < 6) : Am_Ev false 2 0 0 47 [.int (nI k)] (hp) (some (.int (cntG (ulB (nI k) false) 7))) (hp) := by
  refine am_ev 3 (some .int) false [8] ok_K_heightsSooner am_mP_47 (by rw [am_m_47]) (by rw [am_m_47]) (fun h => by cases h) (Nat.le_of_ble_eq_true rfl) ?_
  intro Go hG
  have hb := loK_b hk
  have L : ∀ (j q : Nat), q + j = hiK k → loK k ≤ q + 1 → Go 8 [some (.int (nI k)), some (.int (cntG (ulB (nI k) false) q)), some (.int (nI (q + 1)))] [] hp 0 0 := by
    intro j
    induction j with
    | zero =>
      intro q hq h1
      refine hG 200 _ _ _ _ _ _ ?_
      refine Exists.intro k ⟨hk, rfl, ?_⟩
      refine br_t (by rw [hiK_t hk]; exact nI_lt (by omega) (by omega)) ?_
      exact ⟨by rw [show q = hiK k by omega, ul_false7 hk], rfl, rfl, rfl⟩
    | succ j ih =>
      intro q hq h1
      have hne := lnd_in (h := q + 1) hk (by omega) (by omega)
      have e1 := landI_S (h := q + 1) hk (by omega)
      have e0 : landI (nI 0) (nI (q + 1)) = nI (q + 1) := by
        rw [landI_S (by decide) (by omega)]
        rfl
      have e2 : ¬ landI (nI k) (nI (q + 1)) = -nI 9 := by
        rw [e1]
        unfold ldR
        rw [if_neg hne]
        exact nI_m9 (by have := lnd_le (h := q + 1) hk (by omega); omega)
      have h := ih (q + 1) (by omega) (by omega)
      rw [← nI_s1 (q + 1)] at h
      refine hG 200 _ _ _ _ _ _ ?_
      refine Exists.intro k ⟨hk, rfl, ?_⟩
      refine br_f (by rw [hiK_t hk]; exact nI_nlt (by omega) (by omega)) ?_
      refine Exists.intro 1 (Exists.intro _ (Exists.intro _ ⟨by decide, c_K_flight hp k (q + 1) hk (by omega), ?_⟩))
      refine Exists.intro 1 (Exists.intro _ (Exists.intro _ ⟨by decide, c_K_flight hp 0 (q + 1) (by decide) (by omega), ?_⟩))
      rw [e0]
      refine And.intro (fun h2 => ?_) (fun h2 => ?_)
      · rw [cntG_f (by unfold ulB; rw [decide_eq_true e2, Bool.true_and]; exact decide_eq_false (Int32.not_lt.mpr h2)), add0] at h
        exact h
      · rw [cntG_t (by unfold ulB; rw [decide_eq_true e2, Bool.true_and]; exact decide_eq_true (Int32.not_le.mp h2))] at h
        exact h
  refine hG 200 _ _ _ _ _ _ ?_
  refine Exists.intro k ⟨hk, rfl, ?_⟩
  have h9 := L (hiK k - (loK k - 1)) (loK k - 1) (by omega) (by omega)
  rw [ul_false0 hk, show loK k - 1 + 1 = loK k by omega, ← loK_t hk] at h9
  exact h9

theorem c_P_howManyOf (hp : List Am_C) (h ka n : Nat) (e : hp[h]? = some (.inr (6, [.int (nI n), .ref ka]))) (hn : n ≤ 6) (kd : Nat → Nat) (kf : Nat → Int32) (e2 : hp[ka]? = some (.inl (0, 6, .inl kf))) (hk : ∀ i, i < n → kf i = nI (kd i) ∧ kd i < 6) (w : Nat) (hw : w < 6) : Am_Ev false 1 0 0 124 [.ref h, .int (nI w)] (hp) (some (.int (cntG (fun k => isOfB (kd k) w) n))) (hp) := by
  refine am_ev 4 (some .int) false [4] ok_P_howManyOf am_mP_124 (by rw [am_m_124]) (by rw [am_m_124]) (fun h => by cases h) (Nat.le_of_ble_eq_true rfl) ?_
  intro Go hG
  have L : ∀ (j k : Nat), k + j = n → Go 4 [some (.ref h), some (.int (nI w)), some (.int (cntG (fun k => isOfB (kd k) w) k)), some (.int (nI k))] [] hp 0 0 := by
    intro j
    induction j with
    | zero =>
      intro k hk2
      refine hG 200 _ _ _ _ _ _ ?_
      refine am_ob_of e ?_
      refine br_t (nI_le (by omega) (by omega)) ?_
      exact ⟨by rw [show k = n by omega], rfl, rfl, rfl⟩
    | succ j ih =>
      intro k hk2
      have h9 := ih (k + 1) (by omega)
      rw [← nI_s1 k] at h9
      have hc := c_K_isOf hp (kd k) w (hk k (by omega)).2 hw
      rw [← (hk k (by omega)).1] at hc
      refine hG 200 _ _ _ _ _ _ ?_
      refine am_ob_of e ?_
      refine br_f (nI_ge (by omega) (by omega)) ?_
      refine am_ob_of e ?_
      refine am_ai_of e2 rfl ?_
      refine Exists.intro k ⟨by omega, rfl, ?_⟩
      refine Exists.intro 0 (Exists.intro _ (Exists.intro _ ⟨by decide, hc, ?_⟩))
      refine b2_z (fun h1 => ?_) (fun h1 => ?_)
      · rw [cntG_f (p := fun k => isOfB (kd k) w) h1, add0] at h9
        exact h9
      · rw [cntG_t (p := fun k => isOfB (kd k) w) h1] at h9
        exact h9
  refine hG 200 _ _ _ _ _ _ ?_
  exact L n 0 (by omega)

theorem c_P_torchesAhead (hp : List Am_C) (h ka n : Nat) (e : hp[h]? = some (.inr (6, [.int (nI n), .ref ka]))) (hn : n ≤ 6) (kd : Nat → Nat) (kf : Nat → Int32) (e2 : hp[ka]? = some (.inl (0, 6, .inl kf))) (hk : ∀ i, i < n → kf i = nI (kd i) ∧ kd i < 6) (d : Int32) (i : Nat) : Am_Ev false 1 0 0 48 [.ref h, .int d, .int (nI i)] (hp) (some (.int (cntG (trB kf (gP d) i) n))) (hp) := by
  refine am_ev 5 (some .int) false [5] ok_P_torchesAhead am_mP_48 (by rw [am_m_48]) (by rw [am_m_48]) (fun h => by cases h) (Nat.le_of_ble_eq_true rfl) ?_
  intro Go hG
  have L : ∀ (j k : Nat), k + j = n → Go 5 [some (.ref h), some (.int d), some (.int (nI i)), some (.int (cntG (trB kf (gP d) i) k)), some (.int (nI k))] [] hp 0 0 := by
    intro j
    induction j with
    | zero =>
      intro k hk2
      refine hG 200 _ _ _ _ _ _ ?_
      refine am_ob_of e ?_
      refine br_t (nI_le (by omega) (by omega)) ?_
      exact ⟨by rw [show k = n by omega], rfl, rfl, rfl⟩
    | succ j ih =>
      intro k hk2
      have h9 := ih (k + 1) (by omega)
      rw [← nI_s1 k] at h9
      refine hG 200 _ _ _ _ _ _ ?_
      refine am_ob_of e ?_
      refine br_f (nI_ge (by omega) (by omega)) ?_
      refine am_ob_of e ?_
      refine am_ai_of e2 rfl ?_
      refine Exists.intro k ⟨by omega, rfl, ?_⟩
      refine And.intro (fun h1 => ?_) (fun h1 => ?_)
      · rw [cntG_f (by unfold trB; rw [decide_eq_false h1]; rfl), add0] at h9
        exact h9
      · refine Exists.intro 0 (Exists.intro _ (Exists.intro _ ⟨by decide, c_P_due _ _ _, ?_⟩))
        refine Exists.intro 0 (Exists.intro _ (Exists.intro _ ⟨by decide, c_P_due _ _ _, ?_⟩))
        refine And.intro (fun h2 => ?_) (fun h2 => ?_)
        · rw [cntG_f (by unfold trB; rw [decide_eq_true h1, Bool.true_and]; exact decide_eq_false (Int32.not_lt.mpr h2)), add0] at h9
          exact h9
        · rw [cntG_t (by unfold trB; rw [decide_eq_true h1, Bool.true_and]; exact decide_eq_true (Int32.not_le.mp h2))] at h9
          exact h9
  refine hG 200 _ _ _ _ _ _ ?_
  exact L n 0 (by omega)

theorem c_P_thingsBehind (hp : List Am_C) (h ka n : Nat) (e : hp[h]? = some (.inr (6, [.int (nI n), .ref ka]))) (hn : n ≤ 6) (d : Int32) (i : Nat) : Am_Ev false 1 0 0 49 [.ref h, .int d, .int (nI i)] (hp) (some (.int (cntG (bhB (gP d) i) n))) (hp) := by
  refine am_ev 5 (some .int) false [5] ok_P_thingsBehind am_mP_49 (by rw [am_m_49]) (by rw [am_m_49]) (fun h => by cases h) (Nat.le_of_ble_eq_true rfl) ?_
  intro Go hG
  have L : ∀ (j k : Nat), k + j = n → Go 5 [some (.ref h), some (.int d), some (.int (nI i)), some (.int (cntG (bhB (gP d) i) k)), some (.int (nI k))] [] hp 0 0 := by
    intro j
    induction j with
    | zero =>
      intro k hk2
      refine hG 200 _ _ _ _ _ _ ?_
      refine am_ob_of e ?_
      refine br_t (nI_le (by omega) (by omega)) ?_
      exact ⟨by rw [show k = n by omega], rfl, rfl, rfl⟩
    | succ j ih =>
      intro k hk2
      have h9 := ih (k + 1) (by omega)
      rw [← nI_s1 k] at h9
      refine hG 200 _ _ _ _ _ _ ?_
      refine am_ob_of e ?_
      refine br_f (nI_ge (by omega) (by omega)) ?_
      refine Exists.intro 0 (Exists.intro _ (Exists.intro _ ⟨by decide, c_P_due _ _ _, ?_⟩))
      refine Exists.intro 0 (Exists.intro _ (Exists.intro _ ⟨by decide, c_P_due _ _ _, ?_⟩))
      refine And.intro (fun h2 => ?_) (fun h2 => ?_)
      · rw [cntG_f (decide_eq_false (Int32.not_lt.mpr h2)), add0] at h9
        exact h9
      · rw [cntG_t (decide_eq_true (Int32.not_le.mp h2))] at h9
        exact h9
  refine hG 200 _ _ _ _ _ _ ?_
  exact L n 0 (by omega)

theorem c_T_ofThing {I : Nat → Int32} {F : Nat → Nat → Int32} {S : Sta} (u v : Int64) (hx : RCx I F S) (a w : Nat) (ha : a < eN S) (hw : w ≤ 3) : Am_Ev false 1 0 0 41 [.ref 0, .int (nI a), .int (nI w)] (cH I F u v) (some (.int (thV S a w))) (cH I F u v) := by
  obtain ⟨hs, hr, ht, hl⟩ := id hx
  obtain ⟨g1, g2, g3, g4, g5, g6⟩ := hs
  have hI : I 22 = nI (eN S) := g1
  have hn : eN S ≤ 6 := g2
  have hk : ∀ i, i < eN S → F 7 i = nI (eK S i) ∧ eK S i < 6 := g3
  have hE : evC (I 30) (I 31) (I 32) (F 9) (F 10) (F 11) (F 12) (eN S) (eE S) := g4
  have hG5 : gdE (eN S) (eE S) := g5
  have hap : apart (eN S) (duE (eE S)) := hG5 _ (Nat.le_refl _)
  obtain ⟨v1, v2, v3, v4, v5, v6, v7⟩ := id hE
  have h30 : I 30 = nI (pkN (duE (eE S)) (eN S)) := v3
  have hg : ∀ k, k < eN S → gP (I 30) k = gN (duE (eE S)) k := fun k hk2 => by rw [h30]; exact gP_S (le15_of hap) hn hk2
  have eDue : dueG (gP (I 30)) (eN S) 0 = dueS (eN S) (duE (eE S)) := dueG_congr hg _ 0 (by omega)
  have eMay : ∀ z, mayG (gP (I 30)) (F 7) (eN S) z = mayS (eN S) (eK S) (duE (eE S)) z := fun z => mayG_congr hg (fun k q => (hk k q).1) z
  have hdp : dueP (I 30) (nI a) = nI (duE (eE S) a) := hg a ha
  rcases (show w = 0 ∨ w = 1 ∨ w = 2 ∨ w = 3 by omega) with rfl | rfl | rfl | rfl
  · refine am_ev 3 (some .int) false [] ok_T_ofThing am_mP_41 (by rw [am_m_41]) (by rw [am_m_41]) (fun h => by cases h) (Nat.le_of_ble_eq_true rfl) (fun Go hG => ?_)
    refine hG 200 _ _ _ _ _ _ ?_
    refine And.intro (fun h => absurd h (by decide)) (And.intro (fun h => ?_) (And.intro (fun h => absurd h (by decide)) (And.intro (fun h => absurd h (by decide)) (trivial))))
    refine Exists.intro a ⟨by omega, rfl, ?_⟩
    exact ⟨by rw [(hk a ha).1]; rfl, rfl, rfl, rfl⟩
  · refine am_ev 3 (some .int) false [] ok_T_ofThing am_mP_41 (by rw [am_m_41]) (by rw [am_m_41]) (fun h => by cases h) (Nat.le_of_ble_eq_true rfl) (fun Go hG => ?_)
    refine hG 200 _ _ _ _ _ _ ?_
    refine And.intro (fun h => absurd h (by decide)) (And.intro (fun h => absurd h (by decide)) (And.intro (fun h => ?_) (And.intro (fun h => absurd h (by decide)) (trivial))))
    refine Exists.intro 0 (Exists.intro _ (Exists.intro _ ⟨by decide, c_P_due _ _ _, ?_⟩))
    exact ⟨by rw [hdp]; rfl, rfl, rfl, rfl⟩
  · have hc := c_K_heightsOf (cH I F u v) (eK S a) (hk a ha).2
    rw [← (hk a ha).1] at hc
    refine am_ev 3 (some .int) false [] ok_T_ofThing am_mP_41 (by rw [am_m_41]) (by rw [am_m_41]) (fun h => by cases h) (Nat.le_of_ble_eq_true rfl) (fun Go hG => ?_)
    refine hG 200 _ _ _ _ _ _ ?_
    refine And.intro (fun h => absurd h (by decide)) (And.intro (fun h => absurd h (by decide)) (And.intro (fun h => absurd h (by decide)) (And.intro (fun h => ?_) (trivial))))
    refine Exists.intro a ⟨by omega, rfl, ?_⟩
    refine Exists.intro 0 (Exists.intro _ (Exists.intro _ ⟨by decide, hc, ?_⟩))
    exact ⟨by rw [(hk a ha).1]; rfl, rfl, rfl, rfl⟩
  · refine am_ev 3 (some .int) false [] ok_T_ofThing am_mP_41 (by rw [am_m_41]) (by rw [am_m_41]) (fun h => by cases h) (Nat.le_of_ble_eq_true rfl) (fun Go hG => ?_)
    refine hG 200 _ _ _ _ _ _ ?_
    refine And.intro (fun h => ?_) (And.intro (fun h => absurd h (by decide)) (And.intro (fun h => absurd h (by decide)) (And.intro (fun h => absurd h (by decide)) trivial)))
    refine Exists.intro a ⟨by omega, rfl, ?_⟩
    exact ⟨by rw [v5 a (by omega)]; rfl, rfl, rfl, rfl⟩

theorem pc_T_thing (S : Sta) (hp : List Am_C) (hRM : RC S hp) (i w : Int32) : ∃ hp', Am_Ev false 6 0 0 39 [.ref 0, .int i, .int w] hp (some (.int (spThing S i w).1)) hp' ∧ RC (spThing S i w).2 hp' := by
  obtain ⟨I, F, rfl, hx⟩ := hRM
  obtain ⟨hs, hr, ht, hl⟩ := id hx
  have hI : I 22 = nI (eN S) := hs.1
  have hn : eN S ≤ 6 := hs.2.1
  unfold spThing
  have hc1 := c_T_isThing I F S.2.2.2.2.2.2.1 S.2.2.2.2.2.2.2 (eN S) hI hn i
  cases ho : okI S i with
  | false =>
    rw [if_pos rfl]
    rw [show in3 i (nI 0) (nI (eN S) - nI 1) = false from ho] at hc1
    refine ⟨_, am_ev 3 (some .int) false [] ok_T_thing am_mP_39 (by rw [am_m_39]) (by rw [am_m_39]) (fun h => by cases h) (Nat.le_of_ble_eq_true rfl) (fun Go hG => ?_), RC_of hx⟩
    refine hG 200 _ _ _ _ _ _ ?_
    refine Exists.intro 0 (Exists.intro _ (Exists.intro _ ⟨by decide, hc1, ?_⟩))
    refine br_t rfl ?_
    exact ⟨rfl, rfl, rfl, rfl⟩
  | true =>
    rw [if_neg (by decide)]
    rw [show in3 i (nI 0) (nI (eN S) - nI 1) = true from ho] at hc1
    obtain ⟨a, ha, rfl⟩ := in3_nat2 (k := eN S) (by omega) rfl ho
    rw [nat_nI (by omega)]
    cases ho2 : in3 w (nI 0) (nI 3) with
    | false =>
      rw [if_pos rfl]
      refine ⟨_, am_ev 3 (some .int) false [] ok_T_thing am_mP_39 (by rw [am_m_39]) (by rw [am_m_39]) (fun h => by cases h) (Nat.le_of_ble_eq_true rfl) (fun Go hG => ?_), RC_of hx⟩
      refine hG 200 _ _ _ _ _ _ ?_
      refine Exists.intro 0 (Exists.intro _ (Exists.intro _ ⟨by decide, hc1, ?_⟩))
      refine br_f (by decide) ?_
      refine And.intro (fun h1 => ?_) (fun h1 => And.intro (fun h2 => ?_) (fun h2 => ?_))
      · exact ⟨rfl, rfl, rfl, rfl⟩
      · have h9 := in3_true (x := w) (a := 0) (b := 3) (by decide) (by decide) (by have : ¬ w.toInt < 0 := fun q => h1 (lt0.mpr q); omega) (by have := (ltN (by decide)).mp h2; omega)
        rw [ho2] at h9
        cases h9
      · exact ⟨rfl, rfl, rfl, rfl⟩
    | true =>
      rw [if_neg (by decide)]
      obtain ⟨z, -, hz, rfl⟩ := in3_nat (by decide) (by decide) ho2
      rw [nat_nI (by omega)]
      have hc2 := c_T_ofThing S.2.2.2.2.2.2.1 S.2.2.2.2.2.2.2 hx a z ha hz
      refine ⟨_, am_ev 3 (some .int) false [] ok_T_thing am_mP_39 (by rw [am_m_39]) (by rw [am_m_39]) (fun h => by cases h) (Nat.le_of_ble_eq_true rfl) (fun Go hG => ?_), RC_tell hx _⟩
      refine hG 200 _ _ _ _ _ _ ?_
      refine Exists.intro 0 (Exists.intro _ (Exists.intro _ ⟨by decide, hc1, ?_⟩))
      refine br_f (by decide) ?_
      refine br_f (nI_pos (by omega)) ?_
      refine br_t (nI_lt (by omega) (by decide)) ?_
      refine Exists.intro 1 (Exists.intro _ (Exists.intro _ ⟨by decide, hc2, ?_⟩))
      refine Exists.intro 0 (Exists.intro _ (Exists.intro _ ⟨by decide, c_T_tell I F S.2.2.2.2.2.2.1 S.2.2.2.2.2.2.2 _, ?_⟩))
      exact ⟨rfl, rfl, rfl, rfl⟩

theorem pc_T_mark (S : Sta) (hp : List Am_C) (hRM : RC S hp) (i w : Int32) : ∃ hp', Am_Ev false 6 0 0 43 [.ref 0, .int i, .int w] hp (some (.int (spMark S i w).1)) hp' ∧ RC (spMark S i w).2 hp' := by
  obtain ⟨I, F, rfl, hx⟩ := hRM
  obtain ⟨hs, hr, ht, hl⟩ := id hx
  obtain ⟨g1, g2, g3, g4, g5, g6⟩ := hs
  have hI : I 22 = nI (eN S) := g1
  have hn : eN S ≤ 6 := g2
  have hk : ∀ i, i < eN S → F 7 i = nI (eK S i) ∧ eK S i < 6 := g3
  have hE : evC (I 30) (I 31) (I 32) (F 9) (F 10) (F 11) (F 12) (eN S) (eE S) := g4
  have hG5 : gdE (eN S) (eE S) := g5
  have hap : apart (eN S) (duE (eE S)) := hG5 _ (Nat.le_refl _)
  obtain ⟨v1, v2, v3, v4, v5, v6, v7⟩ := id hE
  have h30 : I 30 = nI (pkN (duE (eE S)) (eN S)) := v3
  have hg : ∀ k, k < eN S → gP (I 30) k = gN (duE (eE S)) k := fun k hk2 => by rw [h30]; exact gP_S (le15_of hap) hn hk2
  have eDue : dueG (gP (I 30)) (eN S) 0 = dueS (eN S) (duE (eE S)) := dueG_congr hg _ 0 (by omega)
  have eMay : ∀ z, mayG (gP (I 30)) (F 7) (eN S) z = mayS (eN S) (eK S) (duE (eE S)) z := fun z => mayG_congr hg (fun k q => (hk k q).1) z
  unfold spMark
  have hc1 := c_T_isThing I F S.2.2.2.2.2.2.1 S.2.2.2.2.2.2.2 (eN S) hI hn i
  cases ho : okI S i with
  | false =>
    rw [if_pos rfl]
    rw [show in3 i (nI 0) (nI (eN S) - nI 1) = false from ho] at hc1
    refine ⟨_, am_ev 4 (some .int) false [] ok_T_mark am_mP_43 (by rw [am_m_43]) (by rw [am_m_43]) (fun h => by cases h) (Nat.le_of_ble_eq_true rfl) (fun Go hG => ?_), RC_of hx⟩
    refine hG 200 _ _ _ _ _ _ ?_
    refine Exists.intro 0 (Exists.intro _ (Exists.intro _ ⟨by decide, hc1, ?_⟩))
    refine br_t rfl ?_
    exact ⟨rfl, rfl, rfl, rfl⟩
  | true =>
    rw [if_neg (by decide)]
    rw [show in3 i (nI 0) (nI (eN S) - nI 1) = true from ho] at hc1
    obtain ⟨a, ha, rfl⟩ := in3_nat2 (k := eN S) (by omega) rfl ho
    rw [nat_nI (by omega)]
    have hdp : dueP (I 30) (nI a) = nI (duE (eE S) a) := hg a ha
    cases ho2 : in3 w (nI 1) (nI 5) with
    | false =>
      rw [if_pos rfl]
      refine ⟨_, am_ev 4 (some .int) false [] ok_T_mark am_mP_43 (by rw [am_m_43]) (by rw [am_m_43]) (fun h => by cases h) (Nat.le_of_ble_eq_true rfl) (fun Go hG => ?_), RC_of hx⟩
      refine hG 200 _ _ _ _ _ _ ?_
      refine Exists.intro 0 (Exists.intro _ (Exists.intro _ ⟨by decide, hc1, ?_⟩))
      refine br_f (by decide) ?_
      refine And.intro (fun h1 => ?_) (fun h1 => And.intro (fun h2 => ?_) (fun h2 => ?_))
      · exact ⟨rfl, rfl, rfl, rfl⟩
      · have h9 := in3_true (x := w) (a := 1) (b := 5) (by decide) (by decide) (by
          have h3 : ¬ w.toInt ≤ 0 := fun q => h1 (Int32.le_iff_toInt_le.mpr q)
          omega) (by have := (ltN (by decide)).mp h2; omega)
        rw [ho2] at h9
        cases h9
      · exact ⟨rfl, rfl, rfl, rfl⟩
    | true =>
      rw [if_neg (by decide)]
      obtain ⟨z, hz1, hz, rfl⟩ := in3_nat (by decide) (by decide) ho2
      rw [nat_nI (by omega)]
      have hka := (hk a ha).1
      have hkb := (hk a ha).2
      have hc2 := c_K_isOf (cH I F S.2.2.2.2.2.2.1 S.2.2.2.2.2.2.2) (eK S a) z hkb (by omega)
      rw [← hka] at hc2
      cases hio : isOfB (eK S a) z with
      | false =>
        rw [if_pos rfl]
        rw [hio] at hc2
        refine ⟨_, am_ev 4 (some .int) false [] ok_T_mark am_mP_43 (by rw [am_m_43]) (by rw [am_m_43]) (fun h => by cases h) (Nat.le_of_ble_eq_true rfl) (fun Go hG => ?_), RC_fnd hx (by decide)⟩
        refine hG 200 _ _ _ _ _ _ ?_
        refine Exists.intro 0 (Exists.intro _ (Exists.intro _ ⟨by decide, hc1, ?_⟩))
        refine br_f (by decide) ?_
        refine br_f (nI_nle (by omega) (by omega)) ?_
        refine br_t (nI_lt (by omega) (by decide)) ?_
        refine Exists.intro a ⟨by omega, rfl, ?_⟩
        refine Exists.intro 0 (Exists.intro _ (Exists.intro _ ⟨by decide, hc2, ?_⟩))
        refine bn_f rfl ?_
        refine Exists.intro 0 (Exists.intro _ (Exists.intro _ ⟨by decide, c_T_found I F S.2.2.2.2.2.2.1 S.2.2.2.2.2.2.2 3 (by decide), ?_⟩))
        exact ⟨rfl, rfl, rfl, rfl⟩
      | true =>
        rw [if_neg (by decide)]
        rw [hio] at hc2
        rcases (show z = 1 ∨ z = 2 ∨ z = 3 ∨ z = 4 ∨ z = 5 by omega) with rfl | rfl | rfl | rfl | rfl
        · have hc4 := c_K_heightsLater (cH I F S.2.2.2.2.2.2.1 S.2.2.2.2.2.2.2) (eK S a) hkb
          rw [← hka] at hc4
          refine ⟨_, am_ev 4 (some .int) false [] ok_T_mark am_mP_43 (by rw [am_m_43]) (by rw [am_m_43]) (fun h => by cases h) (Nat.le_of_ble_eq_true rfl) (fun Go hG => ?_), RC_of hx⟩
          refine hG 200 _ _ _ _ _ _ ?_
          refine Exists.intro 0 (Exists.intro _ (Exists.intro _ ⟨by decide, hc1, ?_⟩))
          refine br_f (by decide) ?_
          refine br_f (by decide) ?_
          refine br_t (by decide) ?_
          refine Exists.intro a ⟨by omega, rfl, ?_⟩
          refine Exists.intro 0 (Exists.intro _ (Exists.intro _ ⟨by decide, hc2, ?_⟩))
          refine bn_t (by decide) ?_
          refine And.intro (fun h => absurd h (by decide)) (And.intro (fun h => ?_) (And.intro (fun h => absurd h (by decide)) (And.intro (fun h => absurd h (by decide)) (And.intro (fun h => absurd h (by decide)) (trivial)))))
          refine Exists.intro 2 (Exists.intro _ (Exists.intro _ ⟨by decide, hc4, ?_⟩))
          exact ⟨by rw [hka]; rfl, rfl, rfl, rfl⟩
        · refine ⟨_, am_ev 4 (some .int) false [] ok_T_mark am_mP_43 (by rw [am_m_43]) (by rw [am_m_43]) (fun h => by cases h) (Nat.le_of_ble_eq_true rfl) (fun Go hG => ?_), RC_of hx⟩
          refine hG 200 _ _ _ _ _ _ ?_
          refine Exists.intro 0 (Exists.intro _ (Exists.intro _ ⟨by decide, hc1, ?_⟩))
          refine br_f (by decide) ?_
          refine br_f (by decide) ?_
          refine br_t (by decide) ?_
          refine Exists.intro a ⟨by omega, rfl, ?_⟩
          refine Exists.intro 0 (Exists.intro _ (Exists.intro _ ⟨by decide, hc2, ?_⟩))
          refine bn_t (by decide) ?_
          refine And.intro (fun h => absurd h (by decide)) (And.intro (fun h => absurd h (by decide)) (And.intro (fun h => ?_) (And.intro (fun h => absurd h (by decide)) (And.intro (fun h => absurd h (by decide)) (trivial)))))
          refine Exists.intro 0 (Exists.intro _ (Exists.intro _ ⟨by decide, c_P_due _ _ _, ?_⟩))
          refine And.intro (by decide) ?_
          exact ⟨by rw [hdp]; rfl, rfl, rfl, rfl⟩
        · have hc4 := c_K_heightsSooner (cH I F S.2.2.2.2.2.2.1 S.2.2.2.2.2.2.2) (eK S a) hkb
          rw [← hka] at hc4
          refine ⟨_, am_ev 4 (some .int) false [] ok_T_mark am_mP_43 (by rw [am_m_43]) (by rw [am_m_43]) (fun h => by cases h) (Nat.le_of_ble_eq_true rfl) (fun Go hG => ?_), RC_of hx⟩
          refine hG 200 _ _ _ _ _ _ ?_
          refine Exists.intro 0 (Exists.intro _ (Exists.intro _ ⟨by decide, hc1, ?_⟩))
          refine br_f (by decide) ?_
          refine br_f (by decide) ?_
          refine br_t (by decide) ?_
          refine Exists.intro a ⟨by omega, rfl, ?_⟩
          refine Exists.intro 0 (Exists.intro _ (Exists.intro _ ⟨by decide, hc2, ?_⟩))
          refine bn_t (by decide) ?_
          refine And.intro (fun h => absurd h (by decide)) (And.intro (fun h => absurd h (by decide)) (And.intro (fun h => absurd h (by decide)) (And.intro (fun h => ?_) (And.intro (fun h => absurd h (by decide)) (trivial)))))
          refine Exists.intro 2 (Exists.intro _ (Exists.intro _ ⟨by decide, hc4, ?_⟩))
          exact ⟨by rw [hka]; rfl, rfl, rfl, rfl⟩
        · have hc4 := c_P_torchesAhead (cH I F S.2.2.2.2.2.2.1 S.2.2.2.2.2.2.2) 6 7 (eN S) (by show some _ = some _; rw [hI]) hn (eK S) (F 7) rfl hk (I 30) a
          rw [show cntG (trB (F 7) (gP (I 30)) a) (eN S) = cntG (trB (gN (eK S)) (gN (duE (eE S))) a) (eN S) from cntG_congr (fun k q => by unfold trB; rw [(hk k q).1, hg k q, hg a ha]; rfl)] at hc4
          refine ⟨_, am_ev 4 (some .int) false [] ok_T_mark am_mP_43 (by rw [am_m_43]) (by rw [am_m_43]) (fun h => by cases h) (Nat.le_of_ble_eq_true rfl) (fun Go hG => ?_), RC_of hx⟩
          refine hG 200 _ _ _ _ _ _ ?_
          refine Exists.intro 0 (Exists.intro _ (Exists.intro _ ⟨by decide, hc1, ?_⟩))
          refine br_f (by decide) ?_
          refine br_f (by decide) ?_
          refine br_t (by decide) ?_
          refine Exists.intro a ⟨by omega, rfl, ?_⟩
          refine Exists.intro 0 (Exists.intro _ (Exists.intro _ ⟨by decide, hc2, ?_⟩))
          refine bn_t (by decide) ?_
          refine And.intro (fun h => absurd h (by decide)) (And.intro (fun h => absurd h (by decide)) (And.intro (fun h => absurd h (by decide)) (And.intro (fun h => absurd h (by decide)) (And.intro (fun h => ?_) (trivial)))))
          refine Exists.intro 1 (Exists.intro _ (Exists.intro _ ⟨by decide, hc4, ?_⟩))
          exact ⟨rfl, rfl, rfl, rfl⟩
        · have hc4 := c_P_thingsBehind (cH I F S.2.2.2.2.2.2.1 S.2.2.2.2.2.2.2) 6 7 (eN S) (by show some _ = some _; rw [hI]) hn (I 30) a
          rw [show cntG (bhB (gP (I 30)) a) (eN S) = cntG (bhB (gN (duE (eE S))) a) (eN S) from cntG_congr (fun k q => by unfold bhB; rw [hg k q, hg a ha])] at hc4
          refine ⟨_, am_ev 4 (some .int) false [] ok_T_mark am_mP_43 (by rw [am_m_43]) (by rw [am_m_43]) (fun h => by cases h) (Nat.le_of_ble_eq_true rfl) (fun Go hG => ?_), RC_of hx⟩
          refine hG 200 _ _ _ _ _ _ ?_
          refine Exists.intro 0 (Exists.intro _ (Exists.intro _ ⟨by decide, hc1, ?_⟩))
          refine br_f (by decide) ?_
          refine br_f (by decide) ?_
          refine br_t (by decide) ?_
          refine Exists.intro a ⟨by omega, rfl, ?_⟩
          refine Exists.intro 0 (Exists.intro _ (Exists.intro _ ⟨by decide, hc2, ?_⟩))
          refine bn_t (by decide) ?_
          refine And.intro (fun h => ?_) (And.intro (fun h => absurd h (by decide)) (And.intro (fun h => absurd h (by decide)) (And.intro (fun h => absurd h (by decide)) (And.intro (fun h => absurd h (by decide)) trivial))))
          refine Exists.intro 1 (Exists.intro _ (Exists.intro _ ⟨by decide, hc4, ?_⟩))
          exact ⟨rfl, rfl, rfl, rfl⟩

