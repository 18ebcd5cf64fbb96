/-! ===== the class: count ===== -/
theorem c_T_sheetsThere_r (I : Nat → Int32) (F : Nat → Nat → Int32) (u v : Int64) : Am_Ev false 1 0 0 125 [.ref 1] (cH I F u v) (some (.int (cntG (thrB (fun r => I (60 + r))) 6))) (cH I F u v) := by
  refine am_ev 3 (some .int) false [4] ok_T_sheetsThere am_mP_125 (by rw [am_m_125]) (by rw [am_m_125]) (fun h => by cases h) (Nat.le_of_ble_eq_true rfl) ?_
  intro Go hG
  have L : ∀ (j k : Nat), k + j = 6 → Go 4 [some (.ref 1), some (.int (cntG (thrB (fun r => I (60 + r))) k)), some (.int (nI k))] [] (cH I F u v) 0 0 := by
    intro j
    induction j with
    | zero =>
      intro k hk
      refine hG 200 _ _ _ _ _ _ ?_
      refine br_t (nI_le (by omega) (by omega)) ?_
      exact ⟨by rw [show k = 6 by omega], rfl, rfl, rfl⟩
    | succ j ih =>
      intro k hk
      have h9 := ih (k + 1) (by omega)
      rw [← nI_s1 k] at h9
      have hm := c_S_isMissing (cH I F u v) (18 + 2 * k) _ _ (cH_row (by omega))
      refine hG 200 _ _ _ _ _ _ ?_
      refine br_f (nI_ge (by omega) (by omega)) ?_
      refine Exists.intro k (Exists.intro (18 + 2 * k) ⟨by omega, rfl, rfR_at (by omega), ?_⟩)
      refine am_vt (cH_row (by omega)) rfl ?_
      refine Exists.intro 0 (Exists.intro _ (Exists.intro _ ⟨by decide, hm, ?_⟩))
      refine b2_nz (fun h1 => ?_) (fun h1 => ?_)
      · rw [cntG_f (p := thrB (fun r => I (60 + r))) (decide_eq_false (fun q => q (of_decide_eq_true h1))), add0] at h9
        exact h9
      · rw [cntG_t (p := thrB (fun r => I (60 + r))) (decide_eq_true (of_decide_eq_false h1))] at h9
        exact h9
  refine hG 200 _ _ _ _ _ _ ?_
  exact L 6 0 (by omega)

theorem c_T_sheetsThere_t (I : Nat → Int32) (F : Nat → Nat → Int32) (u v : Int64) : Am_Ev false 1 0 0 125 [.ref 2] (cH I F u v) (some (.int (cntG (thrB (fun r => I (70 + r))) 4))) (cH I F u v) := by
  refine am_ev 3 (some .int) false [4] ok_T_sheetsThere am_mP_125 (by rw [am_m_125]) (by rw [am_m_125]) (fun h => by cases h) (Nat.le_of_ble_eq_true rfl) ?_
  intro Go hG
  have L : ∀ (j k : Nat), k + j = 4 → Go 4 [some (.ref 2), some (.int (cntG (thrB (fun r => I (70 + r))) k)), some (.int (nI k))] [] (cH I F u v) 0 0 := by
    intro j
    induction j with
    | zero =>
      intro k hk
      refine hG 200 _ _ _ _ _ _ ?_
      refine br_t (nI_le (by omega) (by omega)) ?_
      exact ⟨by rw [show k = 4 by omega], rfl, rfl, rfl⟩
    | succ j ih =>
      intro k hk
      have h9 := ih (k + 1) (by omega)
      rw [← nI_s1 k] at h9
      have hm := c_S_isMissing (cH I F u v) (30 + 2 * k) _ _ (cH_txt (by omega))
      refine hG 200 _ _ _ _ _ _ ?_
      refine br_f (nI_ge (by omega) (by omega)) ?_
      refine Exists.intro k (Exists.intro (30 + 2 * k) ⟨by omega, rfl, rfT_at (by omega), ?_⟩)
      refine am_vt (cH_txt (by omega)) rfl ?_
      refine Exists.intro 0 (Exists.intro _ (Exists.intro _ ⟨by decide, hm, ?_⟩))
      refine b2_nz (fun h1 => ?_) (fun h1 => ?_)
      · rw [cntG_f (p := thrB (fun r => I (70 + r))) (decide_eq_false (fun q => q (of_decide_eq_true h1))), add0] at h9
        exact h9
      · rw [cntG_t (p := thrB (fun r => I (70 + r))) (decide_eq_true (of_decide_eq_false h1))] at h9
        exact h9
  refine hG 200 _ _ _ _ _ _ ?_
  exact L 4 0 (by omega)

theorem c_T_skiesKept (I : Nat → Int32) (F : Nat → Nat → Int32) (u v : Int64) : Am_Ev false 1 0 0 126 [.ref 0] (cH I F u v) (some (.int (cntG (thrB (fun r => I (42 + 3 * r))) 3))) (cH I F u v) := by
  refine am_ev 3 (some .int) false [4] ok_T_skiesKept am_mP_126 (by rw [am_m_126]) (by rw [am_m_126]) (fun h => by cases h) (Nat.le_of_ble_eq_true rfl) ?_
  intro Go hG
  have L : ∀ (j k : Nat), k + j = 3 → Go 4 [some (.ref 0), some (.int (cntG (thrB (fun r => I (42 + 3 * r))) k)), some (.int (nI k))] [] (cH I F u v) 0 0 := by
    intro j
    induction j with
    | zero =>
      intro k hk
      refine hG 200 _ _ _ _ _ _ ?_
      refine br_t (nI_le (by omega) (by omega)) ?_
      exact ⟨by rw [show k = 3 by omega], rfl, rfl, rfl⟩
    | succ j ih =>
      intro k hk
      have h9 := ih (k + 1) (by omega)
      rw [← nI_s1 k] at h9
      have hm := c_E_isForgotten (cH I F u v) (38 + 5 * k) _ _ _ _ _ _ _ (cH_kp (by omega))
      refine hG 200 _ _ _ _ _ _ ?_
      refine br_f (nI_ge (by omega) (by omega)) ?_
      refine Exists.intro k (Exists.intro (38 + 5 * k) ⟨by omega, rfl, rfE_at (by omega), ?_⟩)
      refine am_vt (cH_kp (by omega)).1 rfl ?_
      refine Exists.intro 0 (Exists.intro _ (Exists.intro _ ⟨by decide, hm, ?_⟩))
      refine b2_nz (fun h1 => ?_) (fun h1 => ?_)
      · rw [cntG_f (p := thrB (fun r => I (42 + 3 * r))) (decide_eq_false (fun q => q (of_decide_eq_true h1))), add0] at h9
        exact h9
      · rw [cntG_t (p := thrB (fun r => I (42 + 3 * r))) (decide_eq_true (of_decide_eq_false h1))] at h9
        exact h9
  refine hG 200 _ _ _ _ _ _ ?_
  exact L 3 0 (by omega)

theorem sumG_z {f : Nat → Int32} {n : Nat} : ∀ (j : Nat), (∀ i, n ≤ i → i < n + j → f i = nI 0) → sumG f (n + j) = sumG f n
  | 0, _ => rfl
  | j + 1, h => by
    have e : sumG f (n + j + 1) = sumG f (n + j) + f (n + j) := rfl
    rw [show n + (j + 1) = n + j + 1 by omega, e, h (n + j) (by omega) (by omega), add0]
    exact sumG_z j (fun i h1 h2 => h i h1 (by omega))
theorem isOf_ok {k : Nat} (hk : k < 6) : isOfB k 1 = (decide (nI k = nI 1) || decide (nI k = nI 4)) ∧ isOfB k 3 = (decide (nI k = nI 3) || decide (nI k = nI 5)) := by
  rcases lt6 hk with rfl | rfl | rfl | rfl | rfl | rfl <;> decide +kernel
theorem kpC_C {I : Nat → Int32} {F : Nat → Nat → Int32} {S : Sta} (hx : RCx I F S) {q : Nat} (hq : q < 3) : I (42 + 3 * q) = kpC S q := by
  obtain ⟨⟨g1, g2, g3, g4, g5, g6⟩, hr, ht, hl⟩ := hx
  have g8 : match eP S q with
    | none => I (42 + 3 * q) = -nI 1
    | some E => evC (I (40 + 3 * q)) (I (41 + 3 * q)) (I (42 + 3 * q)) (F (39 + 5 * q)) (F (40 + 5 * q)) (F (41 + 5 * q)) (F (42 + 5 * q)) (eN S) E ∧ gdE (eN S) E := g6 q hq
  unfold kpC
  cases he : eP S q with
  | none => rw [he] at g8; exact g8
  | some E2 => rw [he] at g8; exact g8.1.2.1

theorem c_T_countS {I : Nat → Int32} {F : Nat → Nat → Int32} {S : Sta} (hx : RCx I F S) (w : Int32) : Am_Ev false 6 0 0 122 [.ref 0, .int w] (cH I F S.2.2.2.2.2.2.1 S.2.2.2.2.2.2.2) (some (.int ((spCount S w).1))) (cH I F S.2.2.2.2.2.2.1 S.2.2.2.2.2.2.2) := by
  obtain ⟨hs, hr, ht, hl⟩ := id hx
  obtain ⟨g1, g2, g3, g4, g5, g6⟩ := hs
  have hI : I 22 = nI (eN S) := g1
  have hn : eN S ≤ 6 := g2
  have hk : ∀ i, i < eN S → F 7 i = nI (eK S i) ∧ eK S i < 6 := g3
  have hE : evC (I 30) (I 31) (I 32) (F 9) (F 10) (F 11) (F 12) (eN S) (eE S) := g4
  have hG5 : gdE (eN S) (eE S) := g5
  have hap : apart (eN S) (duE (eE S)) := hG5 _ (Nat.le_refl _)
  obtain ⟨v1, v2, v3, v4, v5, v6, v7⟩ := id hE
  have h30 : I 30 = nI (pkN (duE (eE S)) (eN S)) := v3
  have hg : ∀ k, k < eN S → gP (I 30) k = gN (duE (eE S)) k := fun k hk2 => by rw [h30]; exact gP_S (le15_of hap) hn hk2
  have eDue : dueG (gP (I 30)) (eN S) 0 = dueS (eN S) (duE (eE S)) := dueG_congr hg _ 0 (by omega)
  have eMay : ∀ z, mayG (gP (I 30)) (F 7) (eN S) z = mayS (eN S) (eK S) (duE (eE S)) z := fun z => mayG_congr hg (fun k q => (hk k q).1) z
  unfold spCount
  cases ho : in3 w (nI 0) (nI 11) with
  | false =>
    rw [if_pos rfl]
    refine am_ev 2 (some .int) false [] ok_T_count am_mP_122 (by rw [am_m_122]) (by rw [am_m_122]) (fun h => by cases h) (Nat.le_of_ble_eq_true rfl) (fun Go hG => ?_)
    refine hG 200 _ _ _ _ _ _ ?_
    refine And.intro (fun h => ?_) (And.intro (fun h => (by have h9 := in3_true (x := w) (a := 0) (b := 11) (by decide) (by decide) (by omega) (by omega); rw [ho] at h9; cases h9)) (And.intro (fun h => (by have h9 := in3_true (x := w) (a := 0) (b := 11) (by decide) (by decide) (by omega) (by omega); rw [ho] at h9; cases h9)) (And.intro (fun h => (by have h9 := in3_true (x := w) (a := 0) (b := 11) (by decide) (by decide) (by omega) (by omega); rw [ho] at h9; cases h9)) (And.intro (fun h => (by have h9 := in3_true (x := w) (a := 0) (b := 11) (by decide) (by decide) (by omega) (by omega); rw [ho] at h9; cases h9)) (And.intro (fun h => (by have h9 := in3_true (x := w) (a := 0) (b := 11) (by decide) (by decide) (by omega) (by omega); rw [ho] at h9; cases h9)) (And.intro (fun h => (by have h9 := in3_true (x := w) (a := 0) (b := 11) (by decide) (by decide) (by omega) (by omega); rw [ho] at h9; cases h9)) (And.intro (fun h => (by have h9 := in3_true (x := w) (a := 0) (b := 11) (by decide) (by decide) (by omega) (by omega); rw [ho] at h9; cases h9)) (And.intro (fun h => (by have h9 := in3_true (x := w) (a := 0) (b := 11) (by decide) (by decide) (by omega) (by omega); rw [ho] at h9; cases h9)) (And.intro (fun h => (by have h9 := in3_true (x := w) (a := 0) (b := 11) (by decide) (by decide) (by omega) (by omega); rw [ho] at h9; cases h9)) (And.intro (fun h => (by have h9 := in3_true (x := w) (a := 0) (b := 11) (by decide) (by decide) (by omega) (by omega); rw [ho] at h9; cases h9)) (And.intro (fun h => (by have h9 := in3_true (x := w) (a := 0) (b := 11) (by decide) (by decide) (by omega) (by omega); rw [ho] at h9; cases h9)) (And.intro (fun h => (by have h9 := in3_true (x := w) (a := 0) (b := 11) (by decide) (by decide) (by omega) (by omega); rw [ho] at h9; cases h9)) (trivial)))))))))))))
    exact ⟨rfl, rfl, rfl, rfl⟩
  | true =>
    rw [if_neg (by decide)]
    obtain ⟨z, -, hz, rfl⟩ := in3_nat (by decide) (by decide) ho
    rw [nat_nI (by omega)]
    rcases (show z = 0 ∨ z = 1 ∨ z = 2 ∨ z = 3 ∨ z = 4 ∨ z = 5 ∨ z = 6 ∨ z = 7 ∨ z = 8 ∨ z = 9 ∨ z = 10 ∨ z = 11 by omega) with rfl | rfl | rfl | rfl | rfl | rfl | rfl | rfl | rfl | rfl | rfl | rfl
    · refine am_ev 2 (some .int) false [] ok_T_count am_mP_122 (by rw [am_m_122]) (by rw [am_m_122]) (fun h => by cases h) (Nat.le_of_ble_eq_true rfl) (fun Go hG => ?_)
      refine hG 200 _ _ _ _ _ _ ?_
      refine And.intro (fun h => absurd h (by decide)) (And.intro (fun h => ?_) (And.intro (fun h => absurd h (by decide)) (And.intro (fun h => absurd h (by decide)) (And.intro (fun h => absurd h (by decide)) (And.intro (fun h => absurd h (by decide)) (And.intro (fun h => absurd h (by decide)) (And.intro (fun h => absurd h (by decide)) (And.intro (fun h => absurd h (by decide)) (And.intro (fun h => absurd h (by decide)) (And.intro (fun h => absurd h (by decide)) (And.intro (fun h => absurd h (by decide)) (And.intro (fun h => absurd h (by decide)) (trivial)))))))))))))
      exact ⟨by rw [hI]; rfl, rfl, rfl, rfl⟩
    · refine am_ev 2 (some .int) false [] ok_T_count am_mP_122 (by rw [am_m_122]) (by rw [am_m_122]) (fun h => by cases h) (Nat.le_of_ble_eq_true rfl) (fun Go hG => ?_)
      refine hG 200 _ _ _ _ _ _ ?_
      refine And.intro (fun h => absurd h (by decide)) (And.intro (fun h => absurd h (by decide)) (And.intro (fun h => ?_) (And.intro (fun h => absurd h (by decide)) (And.intro (fun h => absurd h (by decide)) (And.intro (fun h => absurd h (by decide)) (And.intro (fun h => absurd h (by decide)) (And.intro (fun h => absurd h (by decide)) (And.intro (fun h => absurd h (by decide)) (And.intro (fun h => absurd h (by decide)) (And.intro (fun h => absurd h (by decide)) (And.intro (fun h => absurd h (by decide)) (And.intro (fun h => absurd h (by decide)) (trivial)))))))))))))
      exact ⟨by rw [v4]; rfl, rfl, rfl, rfl⟩
    · refine am_ev 2 (some .int) false [] ok_T_count am_mP_122 (by rw [am_m_122]) (by rw [am_m_122]) (fun h => by cases h) (Nat.le_of_ble_eq_true rfl) (fun Go hG => ?_)
      refine hG 200 _ _ _ _ _ _ ?_
      refine And.intro (fun h => absurd h (by decide)) (And.intro (fun h => absurd h (by decide)) (And.intro (fun h => absurd h (by decide)) (And.intro (fun h => ?_) (And.intro (fun h => absurd h (by decide)) (And.intro (fun h => absurd h (by decide)) (And.intro (fun h => absurd h (by decide)) (And.intro (fun h => absurd h (by decide)) (And.intro (fun h => absurd h (by decide)) (And.intro (fun h => absurd h (by decide)) (And.intro (fun h => absurd h (by decide)) (And.intro (fun h => absurd h (by decide)) (And.intro (fun h => absurd h (by decide)) (trivial)))))))))))))
      exact ⟨by rw [v2]; rfl, rfl, rfl, rfl⟩
    · refine am_ev 2 (some .int) false [] ok_T_count am_mP_122 (by rw [am_m_122]) (by rw [am_m_122]) (fun h => by cases h) (Nat.le_of_ble_eq_true rfl) (fun Go hG => ?_)
      refine hG 200 _ _ _ _ _ _ ?_
      refine And.intro (fun h => absurd h (by decide)) (And.intro (fun h => absurd h (by decide)) (And.intro (fun h => absurd h (by decide)) (And.intro (fun h => absurd h (by decide)) (And.intro (fun h => ?_) (And.intro (fun h => absurd h (by decide)) (And.intro (fun h => absurd h (by decide)) (And.intro (fun h => absurd h (by decide)) (And.intro (fun h => absurd h (by decide)) (And.intro (fun h => absurd h (by decide)) (And.intro (fun h => absurd h (by decide)) (And.intro (fun h => absurd h (by decide)) (And.intro (fun h => absurd h (by decide)) (trivial)))))))))))))
      have hc := c_T_skyNow I F S.2.2.2.2.2.2.1 S.2.2.2.2.2.2.2 (eN S) (duE (eE S)) hI hn (le15_of hap) h30
      refine Exists.intro 2 (Exists.intro _ (Exists.intro _ ⟨by decide, hc, ?_⟩))
      exact ⟨rfl, rfl, rfl, rfl⟩
    · refine am_ev 2 (some .int) false [] ok_T_count am_mP_122 (by rw [am_m_122]) (by rw [am_m_122]) (fun h => by cases h) (Nat.le_of_ble_eq_true rfl) (fun Go hG => ?_)
      refine hG 200 _ _ _ _ _ _ ?_
      refine And.intro (fun h => absurd h (by decide)) (And.intro (fun h => absurd h (by decide)) (And.intro (fun h => absurd h (by decide)) (And.intro (fun h => absurd h (by decide)) (And.intro (fun h => absurd h (by decide)) (And.intro (fun h => ?_) (And.intro (fun h => absurd h (by decide)) (And.intro (fun h => absurd h (by decide)) (And.intro (fun h => absurd h (by decide)) (And.intro (fun h => absurd h (by decide)) (And.intro (fun h => absurd h (by decide)) (And.intro (fun h => absurd h (by decide)) (And.intro (fun h => absurd h (by decide)) (trivial)))))))))))))
      have hc := c_P_dueNow (cH I F S.2.2.2.2.2.2.1 S.2.2.2.2.2.2.2) 6 7 (eN S) (by show some _ = some _; rw [hI]) hn (I 30)
      rw [eDue] at hc
      refine Exists.intro 1 (Exists.intro _ (Exists.intro _ ⟨by decide, hc, ?_⟩))
      exact ⟨rfl, rfl, rfl, rfl⟩
    · refine am_ev 2 (some .int) false [] ok_T_count am_mP_122 (by rw [am_m_122]) (by rw [am_m_122]) (fun h => by cases h) (Nat.le_of_ble_eq_true rfl) (fun Go hG => ?_)
      refine hG 200 _ _ _ _ _ _ ?_
      refine And.intro (fun h => absurd h (by decide)) (And.intro (fun h => absurd h (by decide)) (And.intro (fun h => absurd h (by decide)) (And.intro (fun h => absurd h (by decide)) (And.intro (fun h => absurd h (by decide)) (And.intro (fun h => absurd h (by decide)) (And.intro (fun h => ?_) (And.intro (fun h => absurd h (by decide)) (And.intro (fun h => absurd h (by decide)) (And.intro (fun h => absurd h (by decide)) (And.intro (fun h => absurd h (by decide)) (And.intro (fun h => absurd h (by decide)) (And.intro (fun h => absurd h (by decide)) (trivial)))))))))))))
      have hc := c_P_dueTogether (cH I F S.2.2.2.2.2.2.1 S.2.2.2.2.2.2.2) 6 7 (eN S) (by show some _ = some _; rw [hI]) hn (I 30)
      rw [show sumG (gP (I 30)) (eN S) = sumS (eN S) (duE (eE S)) from sumG_congr hg] at hc
      refine Exists.intro 1 (Exists.intro _ (Exists.intro _ ⟨by decide, hc, ?_⟩))
      exact ⟨rfl, rfl, rfl, rfl⟩
    · refine am_ev 2 (some .int) false [] ok_T_count am_mP_122 (by rw [am_m_122]) (by rw [am_m_122]) (fun h => by cases h) (Nat.le_of_ble_eq_true rfl) (fun Go hG => ?_)
      refine hG 200 _ _ _ _ _ _ ?_
      refine And.intro (fun h => absurd h (by decide)) (And.intro (fun h => absurd h (by decide)) (And.intro (fun h => absurd h (by decide)) (And.intro (fun h => absurd h (by decide)) (And.intro (fun h => absurd h (by decide)) (And.intro (fun h => absurd h (by decide)) (And.intro (fun h => absurd h (by decide)) (And.intro (fun h => ?_) (And.intro (fun h => absurd h (by decide)) (And.intro (fun h => absurd h (by decide)) (And.intro (fun h => absurd h (by decide)) (And.intro (fun h => absurd h (by decide)) (And.intro (fun h => absurd h (by decide)) (trivial)))))))))))))
      have hc := c_E_throwsMade (cH I F S.2.2.2.2.2.2.1 S.2.2.2.2.2.2.2) 8 _ _ _ _ _ _ _ cH_ev
      have e6 : sumG (F 9) 6 = sumG (gN (thE (eE S))) (eN S) := by
        rw [sumG_congr (n := 6) (h := gN (thE (eE S))) (fun k q => v5 k q)]
        have e7 := sumG_z (f := gN (thE (eE S))) (n := eN S) (6 - eN S) (fun i h1 h2 => by show nI (thE (eE S) i) = nI 0; rw [show thE (eE S) i = 0 from v6 _ (Nat.le_refl _) i h1 (by omega)])
        rw [show eN S + (6 - eN S) = 6 by omega] at e7
        exact e7
      rw [e6] at hc
      refine Exists.intro 0 (Exists.intro _ (Exists.intro _ ⟨by decide, hc, ?_⟩))
      exact ⟨rfl, rfl, rfl, rfl⟩
    · refine am_ev 2 (some .int) false [] ok_T_count am_mP_122 (by rw [am_m_122]) (by rw [am_m_122]) (fun h => by cases h) (Nat.le_of_ble_eq_true rfl) (fun Go hG => ?_)
      refine hG 200 _ _ _ _ _ _ ?_
      refine And.intro (fun h => absurd h (by decide)) (And.intro (fun h => absurd h (by decide)) (And.intro (fun h => absurd h (by decide)) (And.intro (fun h => absurd h (by decide)) (And.intro (fun h => absurd h (by decide)) (And.intro (fun h => absurd h (by decide)) (And.intro (fun h => absurd h (by decide)) (And.intro (fun h => absurd h (by decide)) (And.intro (fun h => ?_) (And.intro (fun h => absurd h (by decide)) (And.intro (fun h => absurd h (by decide)) (And.intro (fun h => absurd h (by decide)) (And.intro (fun h => absurd h (by decide)) (trivial)))))))))))))
      have hc := c_P_howManyOf (cH I F S.2.2.2.2.2.2.1 S.2.2.2.2.2.2.2) 6 7 (eN S) (by show some _ = some _; rw [hI]) hn (eK S) (F 7) rfl hk 1 (by decide)
      rw [show cntG (fun k => isOfB (eK S k) 1) (eN S) = cntG (okB (gN (eK S)) (nI 1) (nI 4)) (eN S) from cntG_congr (fun k q => (isOf_ok (hk k q).2).1)] at hc
      refine Exists.intro 1 (Exists.intro _ (Exists.intro _ ⟨by decide, hc, ?_⟩))
      exact ⟨rfl, rfl, rfl, rfl⟩
    · refine am_ev 2 (some .int) false [] ok_T_count am_mP_122 (by rw [am_m_122]) (by rw [am_m_122]) (fun h => by cases h) (Nat.le_of_ble_eq_true rfl) (fun Go hG => ?_)
      refine hG 200 _ _ _ _ _ _ ?_
      refine And.intro (fun h => absurd h (by decide)) (And.intro (fun h => absurd h (by decide)) (And.intro (fun h => absurd h (by decide)) (And.intro (fun h => absurd h (by decide)) (And.intro (fun h => absurd h (by decide)) (And.intro (fun h => absurd h (by decide)) (And.intro (fun h => absurd h (by decide)) (And.intro (fun h => absurd h (by decide)) (And.intro (fun h => absurd h (by decide)) (And.intro (fun h => ?_) (And.intro (fun h => absurd h (by decide)) (And.intro (fun h => absurd h (by decide)) (And.intro (fun h => absurd h (by decide)) (trivial)))))))))))))
      have hc := c_P_howManyOf (cH I F S.2.2.2.2.2.2.1 S.2.2.2.2.2.2.2) 6 7 (eN S) (by show some _ = some _; rw [hI]) hn (eK S) (F 7) rfl hk 3 (by decide)
      rw [show cntG (fun k => isOfB (eK S k) 3) (eN S) = cntG (okB (gN (eK S)) (nI 3) (nI 5)) (eN S) from cntG_congr (fun k q => (isOf_ok (hk k q).2).2)] at hc
      refine Exists.intro 1 (Exists.intro _ (Exists.intro _ ⟨by decide, hc, ?_⟩))
      exact ⟨rfl, rfl, rfl, rfl⟩
    · refine am_ev 2 (some .int) false [] ok_T_count am_mP_122 (by rw [am_m_122]) (by rw [am_m_122]) (fun h => by cases h) (Nat.le_of_ble_eq_true rfl) (fun Go hG => ?_)
      refine hG 200 _ _ _ _ _ _ ?_
      refine And.intro (fun h => absurd h (by decide)) (And.intro (fun h => absurd h (by decide)) (And.intro (fun h => absurd h (by decide)) (And.intro (fun h => absurd h (by decide)) (And.intro (fun h => absurd h (by decide)) (And.intro (fun h => absurd h (by decide)) (And.intro (fun h => absurd h (by decide)) (And.intro (fun h => absurd h (by decide)) (And.intro (fun h => absurd h (by decide)) (And.intro (fun h => absurd h (by decide)) (And.intro (fun h => ?_) (And.intro (fun h => absurd h (by decide)) (And.intro (fun h => absurd h (by decide)) (trivial)))))))))))))
      have hc := c_T_sheetsThere_r I F S.2.2.2.2.2.2.1 S.2.2.2.2.2.2.2
      rw [show cntG (thrB (fun r => I (60 + r))) 6 = cntG (thrB (rz S)) 6 from cntG_congr (fun k q => by show decide (¬ I (60 + k) < 0) = _; rw [(hr k q).1]; rfl)] at hc
      refine Exists.intro 1 (Exists.intro _ (Exists.intro _ ⟨by decide, hc, ?_⟩))
      exact ⟨rfl, rfl, rfl, rfl⟩
    · refine am_ev 2 (some .int) false [] ok_T_count am_mP_122 (by rw [am_m_122]) (by rw [am_m_122]) (fun h => by cases h) (Nat.le_of_ble_eq_true rfl) (fun Go hG => ?_)
      refine hG 200 _ _ _ _ _ _ ?_
      refine And.intro (fun h => absurd h (by decide)) (And.intro (fun h => absurd h (by decide)) (And.intro (fun h => absurd h (by decide)) (And.intro (fun h => absurd h (by decide)) (And.intro (fun h => absurd h (by decide)) (And.intro (fun h => absurd h (by decide)) (And.intro (fun h => absurd h (by decide)) (And.intro (fun h => absurd h (by decide)) (And.intro (fun h => absurd h (by decide)) (And.intro (fun h => absurd h (by decide)) (And.intro (fun h => absurd h (by decide)) (And.intro (fun h => ?_) (And.intro (fun h => absurd h (by decide)) (trivial)))))))))))))
      have hc := c_T_sheetsThere_t I F S.2.2.2.2.2.2.1 S.2.2.2.2.2.2.2
      rw [show cntG (thrB (fun r => I (70 + r))) 4 = cntG (thrB (tz S)) 4 from cntG_congr (fun k q => by show decide (¬ I (70 + k) < 0) = _; rw [(ht k q).1]; rfl)] at hc
      refine Exists.intro 1 (Exists.intro _ (Exists.intro _ ⟨by decide, hc, ?_⟩))
      exact ⟨rfl, rfl, rfl, rfl⟩
    · refine am_ev 2 (some .int) false [] ok_T_count am_mP_122 (by rw [am_m_122]) (by rw [am_m_122]) (fun h => by cases h) (Nat.le_of_ble_eq_true rfl) (fun Go hG => ?_)
      refine hG 200 _ _ _ _ _ _ ?_
      refine And.intro (fun h => absurd h (by decide)) (And.intro (fun h => absurd h (by decide)) (And.intro (fun h => absurd h (by decide)) (And.intro (fun h => absurd h (by decide)) (And.intro (fun h => absurd h (by decide)) (And.intro (fun h => absurd h (by decide)) (And.intro (fun h => absurd h (by decide)) (And.intro (fun h => absurd h (by decide)) (And.intro (fun h => absurd h (by decide)) (And.intro (fun h => absurd h (by decide)) (And.intro (fun h => absurd h (by decide)) (And.intro (fun h => absurd h (by decide)) (And.intro (fun h => ?_) (trivial)))))))))))))
      have hc := c_T_skiesKept I F S.2.2.2.2.2.2.1 S.2.2.2.2.2.2.2
      rw [show cntG (thrB (fun r => I (42 + 3 * r))) 3 = cntG (thrB (kpC S)) 3 from cntG_congr (fun k q => by show decide (¬ I (42 + 3 * k) < 0) = _; rw [kpC_C hx q]; rfl)] at hc
      refine Exists.intro 1 (Exists.intro _ (Exists.intro _ ⟨by decide, hc, ?_⟩))
      exact ⟨rfl, rfl, rfl, rfl⟩

theorem pc_T_count (S : Sta) (hp : List Am_C) (hRM : RC S hp) (w : Int32) : ∃ hp', Am_Ev false 6 0 0 122 [.ref 0, .int w] hp (some (.int (spCount S w).1)) hp' ∧ RC (spCount S w).2 hp' := by
  obtain ⟨I, F, rfl, hx⟩ := hRM
  exact ⟨_, c_T_countS hx w, by rw [spCount_2]; exact RC_of hx⟩

