/-! ===== the class: duel ===== -/
theorem y_bestFrom {I : Nat → Int32} {F : Nat → Nat → Int32} {n : Nat} {kd : Nat → Nat} (hb : CBs I F n kd) (u v : Int64) : ∀ (j : Nat) (d : Nat → Nat), j ≤ 4 → apart n d → Am_Ev false (4 + j) 0 0 107 [.ref 14, .int (nI (pkN d n)), .int (nI j)] (cH I F u v) (some (.int (bfS n kd j d))) (cH I F u v) := by
  have hkd : kdok n kd := fun i q => (hb.2.2.2 i q).2
  intro j
  induction j with
  | zero =>
    intro d hj ha
    refine am_ev 9 (some .int) false [24, 89] ok_O_bestFrom am_mP_107 (by rw [am_m_107]) (by rw [am_m_107]) (fun h => by cases h) (Nat.le_of_ble_eq_true rfl) (fun Go hG => ?_)
    refine hG 200 _ _ _ _ _ _ ?_
    refine br_f (by decide) ?_
    refine Exists.intro (1) (Exists.intro _ (Exists.intro _ ⟨by omega, y_sum hb u v ha, ?_⟩))
    exact ⟨rfl, rfl, rfl, rfl⟩
  | succ j ihj =>
    intro d hj ha
    have har := apart_rst ha
    have ej : nI (j + 1) - nI 1 = nI j := pk_sub (by omega)
    have e : bfS n kd (j + 1) d = if hgtS n kd (rstS n d) = 0 then sumS n (rstS n d) + pmI (evB (j + 1)) else bst (fun a => mayS n kd (rstS n d) (nI (a + 1))) (fun a => bfS n kd j (tosS n kd (rstS n d) (a + 1))) (evB (j + 1)) 7 := rfl
    have hht := y_heights hb u v har
    have hsm := y_sum hb u v har
    rw [e]
    refine am_ev 9 (some .int) false [24, 89] ok_O_bestFrom am_mP_107 (by rw [am_m_107]) (by rw [am_m_107]) (fun h => by cases h) (Nat.le_of_ble_eq_true rfl) (fun Go hG => ?_)
    cases ev : evB (j + 1) with
    | true =>
      have hev : nI (j + 1) - nI (j + 1) / nI 2 * nI 2 = 0 := by
        rw [rmk2 (j + 1) (by omega), of_decide_eq_true ev]
        rfl
      rw [ev] at hG
      have L : ¬ hgtS n kd (rstS n d) = 0 → ∀ (i a : Nat) (y : Option Value), a + i = 7 → Go 89 [some (.ref 14), some (.int (nI (pkN d n))), some (.int (nI (j + 1))), some (.int (nI 1)), some (.int (nI (pkN (rstS n d) n))), some (.int (hgtS n kd (rstS n d))), some (.int (bst (fun a => mayS n kd (rstS n d) (nI (a + 1))) (fun a => bfS n kd j (tosS n kd (rstS n d) (a + 1))) true a)), some (.int (nI (a + 1))), y] [] (cH I F u v) 0 0 := by
        intro h0 i
        induction i with
        | zero =>
          intro a y ha7
          refine hG 200 _ _ _ _ _ _ ?_
          refine br_t (nI_lt (by omega) (by omega)) ?_
          exact ⟨by rw [show a = 7 by omega, if_neg h0], rfl, rfl, rfl⟩
        | succ i ih =>
          intro a y ha7
          have e2 : (bst (fun a => mayS n kd (rstS n d) (nI (a + 1))) (fun a => bfS n kd j (tosS n kd (rstS n d) (a + 1))) true (a + 1)) = if mayS n kd (rstS n d) (nI (a + 1)) = true then mxI (bst (fun a => mayS n kd (rstS n d) (nI (a + 1))) (fun a => bfS n kd j (tosS n kd (rstS n d) (a + 1))) true a) (bfS n kd j (tosS n kd (rstS n d) (a + 1))) else (bst (fun a => mayS n kd (rstS n d) (nI (a + 1))) (fun a => bfS n kd j (tosS n kd (rstS n d) (a + 1))) true a) := rfl
          refine hG 200 _ _ _ _ _ _ ?_
          refine br_f (nI_nlt (by omega) (by omega)) ?_
          rcases bit_hgt (p := mayS n kd (rstS n d)) (h := a + 1) (by omega) with ⟨m1, m2⟩ | ⟨m1, m2⟩
          · have h9 := ih (a + 1) y (by omega)
            rw [e2, ← nI_s1 (a + 1), if_neg (c := mayS n kd (rstS n d) (nI (a + 1)) = true) (by rw [m2]; decide)] at h9
            refine br_t m1 ?_
            exact h9
          · have h9 := ih (a + 1) (some (.int (bfS n kd j (tosS n kd (rstS n d) (a + 1))))) (by omega)
            rw [e2, ← nI_s1 (a + 1), if_pos (c := mayS n kd (rstS n d) (nI (a + 1)) = true) m2] at h9
            have hct := y_thrown hb u v har (a + 1) (by omega) m2
            have hrec := ihj (tosS n kd (rstS n d) (a + 1)) (by omega) (apart_tos har hkd (by omega) m2)
            rw [← ej] at hrec
            refine br_f m1 ?_
            refine Exists.intro (2) (Exists.intro _ (Exists.intro _ ⟨by omega, hct, ?_⟩))
            refine Exists.intro (4 + j) (Exists.intro _ (Exists.intro _ ⟨by omega, hrec, ?_⟩))
            refine br_f (by decide) ?_
            exact h9
      refine hG 200 _ _ _ _ _ _ ?_
      refine br_t (show nI 0 < nI (j + 1) from nI_lt (by omega) (by omega)) ?_
      refine And.intro (by decide) ?_
      refine bn_f hev ?_
      refine hG 200 _ _ _ _ _ _ ?_
      refine Exists.intro (2) (Exists.intro _ (Exists.intro _ ⟨by omega, y_rested hb u v ha, ?_⟩))
      refine Exists.intro (2) (Exists.intro _ (Exists.intro _ ⟨by omega, hht, ?_⟩))
      by_cases h0 : hgtS n kd (rstS n d) = 0
      · refine bn_f h0 ?_
        refine Exists.intro (1) (Exists.intro _ (Exists.intro _ ⟨by omega, hsm, ?_⟩))
        refine br_f (by decide) ?_
        exact ⟨by rw [if_pos h0]; rfl, rfl, rfl, rfl⟩
      · refine bn_t h0 ?_
        refine br_f (by decide) ?_
        exact L h0 7 0 none (by omega)
    | false =>
      have hev : ¬ nI (j + 1) - nI (j + 1) / nI 2 * nI 2 = 0 := by
        rw [rmk2 (j + 1) (by omega), nI_z (by omega)]
        exact of_decide_eq_false ev
      rw [ev] at hG
      have L : ¬ hgtS n kd (rstS n d) = 0 → ∀ (i a : Nat) (y : Option Value), a + i = 7 → Go 89 [some (.ref 14), some (.int (nI (pkN d n))), some (.int (nI (j + 1))), some (.int (nI 0)), some (.int (nI (pkN (rstS n d) n))), some (.int (hgtS n kd (rstS n d))), some (.int (bst (fun a => mayS n kd (rstS n d) (nI (a + 1))) (fun a => bfS n kd j (tosS n kd (rstS n d) (a + 1))) false a)), some (.int (nI (a + 1))), y] [] (cH I F u v) 0 0 := by
        intro h0 i
        induction i with
        | zero =>
          intro a y ha7
          refine hG 200 _ _ _ _ _ _ ?_
          refine br_t (nI_lt (by omega) (by omega)) ?_
          exact ⟨by rw [show a = 7 by omega, if_neg h0], rfl, rfl, rfl⟩
        | succ i ih =>
          intro a y ha7
          have e2 : (bst (fun a => mayS n kd (rstS n d) (nI (a + 1))) (fun a => bfS n kd j (tosS n kd (rstS n d) (a + 1))) false (a + 1)) = if mayS n kd (rstS n d) (nI (a + 1)) = true then mnI (bst (fun a => mayS n kd (rstS n d) (nI (a + 1))) (fun a => bfS n kd j (tosS n kd (rstS n d) (a + 1))) false a) (bfS n kd j (tosS n kd (rstS n d) (a + 1))) else (bst (fun a => mayS n kd (rstS n d) (nI (a + 1))) (fun a => bfS n kd j (tosS n kd (rstS n d) (a + 1))) false a) := rfl
          refine hG 200 _ _ _ _ _ _ ?_
          refine br_f (nI_nlt (by omega) (by omega)) ?_
          rcases bit_hgt (p := mayS n kd (rstS n d)) (h := a + 1) (by omega) with ⟨m1, m2⟩ | ⟨m1, m2⟩
          · have h9 := ih (a + 1) y (by omega)
            rw [e2, ← nI_s1 (a + 1), if_neg (c := mayS n kd (rstS n d) (nI (a + 1)) = true) (by rw [m2]; decide)] at h9
            refine br_t m1 ?_
            exact h9
          · have h9 := ih (a + 1) (some (.int (bfS n kd j (tosS n kd (rstS n d) (a + 1))))) (by omega)
            rw [e2, ← nI_s1 (a + 1), if_pos (c := mayS n kd (rstS n d) (nI (a + 1)) = true) m2] at h9
            have hct := y_thrown hb u v har (a + 1) (by omega) m2
            have hrec := ihj (tosS n kd (rstS n d) (a + 1)) (by omega) (apart_tos har hkd (by omega) m2)
            rw [← ej] at hrec
            refine br_f m1 ?_
            refine Exists.intro (2) (Exists.intro _ (Exists.intro _ ⟨by omega, hct, ?_⟩))
            refine Exists.intro (4 + j) (Exists.intro _ (Exists.intro _ ⟨by omega, hrec, ?_⟩))
            refine br_t rfl ?_
            exact h9
      refine hG 200 _ _ _ _ _ _ ?_
      refine br_t (show nI 0 < nI (j + 1) from nI_lt (by omega) (by omega)) ?_
      refine And.intro (by decide) ?_
      refine bn_t hev ?_
      refine hG 200 _ _ _ _ _ _ ?_
      refine Exists.intro (2) (Exists.intro _ (Exists.intro _ ⟨by omega, y_rested hb u v ha, ?_⟩))
      refine Exists.intro (2) (Exists.intro _ (Exists.intro _ ⟨by omega, hht, ?_⟩))
      by_cases h0 : hgtS n kd (rstS n d) = 0
      · refine bn_f h0 ?_
        refine Exists.intro (1) (Exists.intro _ (Exists.intro _ ⟨by omega, hsm, ?_⟩))
        refine br_t rfl ?_
        exact ⟨by rw [if_pos h0]; rfl, rfl, rfl, rfl⟩
      · refine bn_t h0 ?_
        refine br_t rfl ?_
        exact L h0 7 0 none (by omega)
theorem y_bestByTurns {I : Nat → Int32} {F : Nat → Nat → Int32} {n : Nat} {kd : Nat → Nat} (hb : CBs I F n kd) (u v : Int64) {d : Nat → Nat} (ha : apart n d) (q : Nat) (hq : q ≤ 2) : Am_Ev false 9 0 0 106 [.ref 14, .int (nI (pkN d n)), .int (nI q)] (cH I F u v) (some (.int (bfS n kd (2 * q) d))) (cH I F u v) := by
  have h := y_bestFrom hb u v (2 * q) d (by omega) ha
  rw [show nI (2 * q) = nI 2 * nI q by rw [pk_mul]] at h
  refine am_ev 3 (some .int) false [] ok_O_bestByTurns am_mP_106 (by rw [am_m_106]) (by rw [am_m_106]) (fun h => by cases h) (Nat.le_of_ble_eq_true rfl) (fun Go hG => ?_)
  refine hG 200 _ _ _ _ _ _ ?_
  refine Exists.intro (4 + 2 * q) (Exists.intro _ (Exists.intro _ ⟨by omega, h, ?_⟩))
  exact ⟨rfl, rfl, rfl, rfl⟩

theorem pc_T_duel (S : Sta) (hp : List Am_C) (hRM : RC S hp) (q : Int32) : ∃ hp', Am_Ev false 10 0 0 105 [.ref 0, .int q] hp (some (.int (spDuel S q).1)) hp' ∧ RC (spDuel S q).2 hp' := by
  obtain ⟨I, F, rfl, hx⟩ := hRM
  obtain ⟨hs, hr, ht, hl⟩ := id hx
  have hI : I 22 = nI (eN S) := hs.1
  have hn : eN S ≤ 6 := hs.2.1
  unfold spDuel
  by_cases hn0 : eN S = 0
  · rw [if_pos hn0]
    refine ⟨_, am_ev 2 (some .int) false [] ok_T_duel am_mP_105 (by rw [am_m_105]) (by rw [am_m_105]) (fun h => by cases h) (Nat.le_of_ble_eq_true rfl) (fun Go hG => ?_), RC_of hx⟩
    refine hG 200 _ _ _ _ _ _ ?_
    refine bn_f (by rw [hI, hn0]; rfl) ?_
    exact ⟨rfl, rfl, rfl, rfl⟩
  · rw [if_neg hn0]
    have hI0 : ¬ I 22 = 0 := by rw [hI]; exact fun q => hn0 ((nI_z (by omega)).mp q)
    have hb := CBs_of hx hn0
    have hap : apart (eN S) (duE (eE S)) := hs.2.2.2.2.1 _ (Nat.le_refl _)
    have h30 : I 30 = nI (pkN (duE (eE S)) (eN S)) := hs.2.2.2.1.2.2.1
    cases ho : in3 q (nI 0) (nI 2) with
    | false =>
      rw [if_pos rfl]
      refine ⟨_, am_ev 2 (some .int) false [] ok_T_duel am_mP_105 (by rw [am_m_105]) (by rw [am_m_105]) (fun h => by cases h) (Nat.le_of_ble_eq_true rfl) (fun Go hG => ?_), RC_of hx⟩
      refine hG 200 _ _ _ _ _ _ ?_
      refine bn_t hI0 ?_
      refine And.intro (fun h1 => ?_) (fun h1 => And.intro (fun h2 => ?_) (fun h2 => ?_))
      · exact ⟨rfl, rfl, rfl, rfl⟩
      · unfold in3 at ho
        rw [decide_eq_true (show nI 0 ≤ q from Int32.not_lt.mp h1), decide_eq_true h2] at ho
        cases ho
      · exact ⟨rfl, rfl, rfl, rfl⟩
    | true =>
      rw [if_neg (by decide)]
      obtain ⟨j, h1, hj, rfl⟩ := in3_nat (by decide) (by decide) ho
      rw [nat_nI (by omega)]
      have hwb := y_bestByTurns hb S.2.2.2.2.2.2.1 S.2.2.2.2.2.2.2 hap j (by omega)
      rw [← h30] at hwb
      refine ⟨_, am_ev 2 (some .int) false [] ok_T_duel am_mP_105 (by rw [am_m_105]) (by rw [am_m_105]) (fun h => by cases h) (Nat.le_of_ble_eq_true rfl) (fun Go hG => ?_), RC_tell hx _⟩
      refine hG 200 _ _ _ _ _ _ ?_
      refine bn_t hI0 ?_
      refine br_f (show ¬ nI j < nI 0 from nI_nlt (by omega) (by omega)) ?_
      refine br_t (nI_le (by omega) (by omega)) ?_
      refine Exists.intro 9 (Exists.intro _ (Exists.intro _ ⟨by decide, hwb, ?_⟩))
      refine Exists.intro 0 (Exists.intro _ (Exists.intro _ ⟨by decide, c_T_tell I F S.2.2.2.2.2.2.1 S.2.2.2.2.2.2.2 _, ?_⟩))
      exact ⟨rfl, rfl, rfl, rfl⟩

