/-! ===== the reference: mark, count ===== -/
theorem c_M_countS {I : Nat → Int32} {F : Nat → Nat → Int32} {S : Sta} (hx : RMx I F S) (w : Int32) : Am_Ev false 4 0 0 216 [.ref 0, .int w] (mH I F S.2.2.2.2.2.2.1 S.2.2.2.2.2.2.2) (some (.int ((spCount S w).1))) (mH I F S.2.2.2.2.2.2.1 S.2.2.2.2.2.2.2) := by
  obtain ⟨hs, hr, ht, hl⟩ := id hx
  obtain ⟨g1, g2, g3, g4, g5, g6⟩ := hs
  have hI : I 2 = nI (eN S) := g1
  have hn : eN S ≤ 6 := g2
  have hk : ∀ i, i < eN S → F 2 i = nI (eK S i) ∧ eK S i < 6 := g3
  have hE : evM (F 1) 0 (eN S) (eE S) := g4
  have hG5 : gdE (eN S) (eE S) := g5
  have hap : apart (eN S) (duE (eE S)) := hG5 _ (Nat.le_refl _)
  obtain ⟨v1, v2, v3, v4, v5⟩ := id hE
  have hw : ∀ k, k < eN S → F 1 (0 + k) = nI (duE (eE S) k) := fun k q => (v3 k q).1
  have hw2 : ∀ k, k < eN S → F 1 k = nI (duE (eE S) k) := fun k q => by have := hw k q; rw [Nat.zero_add] at this; exact this
  have hm33 : F 1 533 = nI (eE S).1 := by have := v2; rw [Nat.zero_add] at this; exact this
  have eSky : skyG (fun i => F 1 (0 + i)) (eN S) = skyS (eN S) (duE (eE S)) := skyG_congr hw
  have eDue : dueG (fun i => F 1 (0 + i)) (eN S) 0 = dueS (eN S) (duE (eE S)) := dueG_congr hw _ 0 (by omega)
  have eMay : ∀ z, mayG (fun i => F 1 (0 + i)) (F 2) (eN S) z = mayS (eN S) (eK S) (duE (eE S)) z := fun z => mayG_congr hw (fun k q => (hk k q).1) z
  have hkp : ∀ q, q < 3 → F 3 q = kpC S q := by
    intro q hq
    have g8 : match eP S q with
      | none => F 3 q = -nI 1
      | some E => F 3 q = nI E.1 ∧ evM (F 1) (534 * (q + 1)) (eN S) E ∧ gdE (eN S) E := g6 q hq
    unfold kpC
    cases he : eP S q with
    | none => rw [he] at g8; exact g8
    | some E2 => rw [he] at g8; exact g8.1
  have hb12 : F 1 12 = nI (btE (eE S)) := by have := v4; rw [Nat.zero_add] at this; exact this
  unfold spCount
  cases ho : in3 w (nI 0) (nI 11) with
  | false =>
    rw [if_pos rfl]
    refine am_ev 2 (some .int) false [] ok_M_count am_mP_216 (by rw [am_m_216]) (by rw [am_m_216]) (fun h => by cases h) (Nat.le_of_ble_eq_true rfl) (fun Go hG => ?_)
    refine hG 200 _ _ _ _ _ _ ?_
    refine And.intro (fun h => ?_) (And.intro (fun h => (by have h9 := in3_true (x := w) (a := 0) (b := 11) (by decide) (by decide) (by omega) (by omega); rw [ho] at h9; cases h9)) (And.intro (fun h => (by have h9 := in3_true (x := w) (a := 0) (b := 11) (by decide) (by decide) (by omega) (by omega); rw [ho] at h9; cases h9)) (And.intro (fun h => (by have h9 := in3_true (x := w) (a := 0) (b := 11) (by decide) (by decide) (by omega) (by omega); rw [ho] at h9; cases h9)) (And.intro (fun h => (by have h9 := in3_true (x := w) (a := 0) (b := 11) (by decide) (by decide) (by omega) (by omega); rw [ho] at h9; cases h9)) (And.intro (fun h => (by have h9 := in3_true (x := w) (a := 0) (b := 11) (by decide) (by decide) (by omega) (by omega); rw [ho] at h9; cases h9)) (And.intro (fun h => (by have h9 := in3_true (x := w) (a := 0) (b := 11) (by decide) (by decide) (by omega) (by omega); rw [ho] at h9; cases h9)) (And.intro (fun h => (by have h9 := in3_true (x := w) (a := 0) (b := 11) (by decide) (by decide) (by omega) (by omega); rw [ho] at h9; cases h9)) (And.intro (fun h => (by have h9 := in3_true (x := w) (a := 0) (b := 11) (by decide) (by decide) (by omega) (by omega); rw [ho] at h9; cases h9)) (And.intro (fun h => (by have h9 := in3_true (x := w) (a := 0) (b := 11) (by decide) (by decide) (by omega) (by omega); rw [ho] at h9; cases h9)) (And.intro (fun h => (by have h9 := in3_true (x := w) (a := 0) (b := 11) (by decide) (by decide) (by omega) (by omega); rw [ho] at h9; cases h9)) (And.intro (fun h => (by have h9 := in3_true (x := w) (a := 0) (b := 11) (by decide) (by decide) (by omega) (by omega); rw [ho] at h9; cases h9)) (And.intro (fun h => (by have h9 := in3_true (x := w) (a := 0) (b := 11) (by decide) (by decide) (by omega) (by omega); rw [ho] at h9; cases h9)) (trivial)))))))))))))
    exact ⟨rfl, rfl, rfl, rfl⟩
  | true =>
    rw [if_neg (by decide)]
    obtain ⟨z, -, hz, rfl⟩ := in3_nat (by decide) (by decide) ho
    rw [nat_nI (by omega)]
    rcases (show z = 0 ∨ z = 1 ∨ z = 2 ∨ z = 3 ∨ z = 4 ∨ z = 5 ∨ z = 6 ∨ z = 7 ∨ z = 8 ∨ z = 9 ∨ z = 10 ∨ z = 11 by omega) with rfl | rfl | rfl | rfl | rfl | rfl | rfl | rfl | rfl | rfl | rfl | rfl
    · refine am_ev 2 (some .int) false [] ok_M_count am_mP_216 (by rw [am_m_216]) (by rw [am_m_216]) (fun h => by cases h) (Nat.le_of_ble_eq_true rfl) (fun Go hG => ?_)
      refine hG 200 _ _ _ _ _ _ ?_
      refine And.intro (fun h => absurd h (by decide)) (And.intro (fun h => ?_) (And.intro (fun h => absurd h (by decide)) (And.intro (fun h => absurd h (by decide)) (And.intro (fun h => absurd h (by decide)) (And.intro (fun h => absurd h (by decide)) (And.intro (fun h => absurd h (by decide)) (And.intro (fun h => absurd h (by decide)) (And.intro (fun h => absurd h (by decide)) (And.intro (fun h => absurd h (by decide)) (And.intro (fun h => absurd h (by decide)) (And.intro (fun h => absurd h (by decide)) (And.intro (fun h => absurd h (by decide)) (trivial)))))))))))))
      exact ⟨by rw [hI]; rfl, rfl, rfl, rfl⟩
    · refine am_ev 2 (some .int) false [] ok_M_count am_mP_216 (by rw [am_m_216]) (by rw [am_m_216]) (fun h => by cases h) (Nat.le_of_ble_eq_true rfl) (fun Go hG => ?_)
      refine hG 200 _ _ _ _ _ _ ?_
      refine And.intro (fun h => absurd h (by decide)) (And.intro (fun h => absurd h (by decide)) (And.intro (fun h => ?_) (And.intro (fun h => absurd h (by decide)) (And.intro (fun h => absurd h (by decide)) (And.intro (fun h => absurd h (by decide)) (And.intro (fun h => absurd h (by decide)) (And.intro (fun h => absurd h (by decide)) (And.intro (fun h => absurd h (by decide)) (And.intro (fun h => absurd h (by decide)) (And.intro (fun h => absurd h (by decide)) (And.intro (fun h => absurd h (by decide)) (And.intro (fun h => absurd h (by decide)) (trivial)))))))))))))
      refine Exists.intro 12 ⟨by omega, rfl, ?_⟩
      exact ⟨by rw [hb12]; rfl, rfl, rfl, rfl⟩
    · refine am_ev 2 (some .int) false [] ok_M_count am_mP_216 (by rw [am_m_216]) (by rw [am_m_216]) (fun h => by cases h) (Nat.le_of_ble_eq_true rfl) (fun Go hG => ?_)
      refine hG 200 _ _ _ _ _ _ ?_
      refine And.intro (fun h => absurd h (by decide)) (And.intro (fun h => absurd h (by decide)) (And.intro (fun h => absurd h (by decide)) (And.intro (fun h => ?_) (And.intro (fun h => absurd h (by decide)) (And.intro (fun h => absurd h (by decide)) (And.intro (fun h => absurd h (by decide)) (And.intro (fun h => absurd h (by decide)) (And.intro (fun h => absurd h (by decide)) (And.intro (fun h => absurd h (by decide)) (And.intro (fun h => absurd h (by decide)) (And.intro (fun h => absurd h (by decide)) (And.intro (fun h => absurd h (by decide)) (trivial)))))))))))))
      refine Exists.intro 533 ⟨by omega, rfl, ?_⟩
      exact ⟨by rw [hm33]; rfl, rfl, rfl, rfl⟩
    · refine am_ev 2 (some .int) false [] ok_M_count am_mP_216 (by rw [am_m_216]) (by rw [am_m_216]) (fun h => by cases h) (Nat.le_of_ble_eq_true rfl) (fun Go hG => ?_)
      refine hG 200 _ _ _ _ _ _ ?_
      refine And.intro (fun h => absurd h (by decide)) (And.intro (fun h => absurd h (by decide)) (And.intro (fun h => absurd h (by decide)) (And.intro (fun h => absurd h (by decide)) (And.intro (fun h => ?_) (And.intro (fun h => absurd h (by decide)) (And.intro (fun h => absurd h (by decide)) (And.intro (fun h => absurd h (by decide)) (And.intro (fun h => absurd h (by decide)) (And.intro (fun h => absurd h (by decide)) (And.intro (fun h => absurd h (by decide)) (And.intro (fun h => absurd h (by decide)) (And.intro (fun h => absurd h (by decide)) (trivial)))))))))))))
      have hc := c_M_skyAt I F S.2.2.2.2.2.2.1 S.2.2.2.2.2.2.2 (eN S) 0 hI hn (by omega)
      rw [eSky] at hc
      refine Exists.intro 0 (Exists.intro _ (Exists.intro _ ⟨by decide, hc, ?_⟩))
      exact ⟨rfl, rfl, rfl, rfl⟩
    · refine am_ev 2 (some .int) false [] ok_M_count am_mP_216 (by rw [am_m_216]) (by rw [am_m_216]) (fun h => by cases h) (Nat.le_of_ble_eq_true rfl) (fun Go hG => ?_)
      refine hG 200 _ _ _ _ _ _ ?_
      refine And.intro (fun h => absurd h (by decide)) (And.intro (fun h => absurd h (by decide)) (And.intro (fun h => absurd h (by decide)) (And.intro (fun h => absurd h (by decide)) (And.intro (fun h => absurd h (by decide)) (And.intro (fun h => ?_) (And.intro (fun h => absurd h (by decide)) (And.intro (fun h => absurd h (by decide)) (And.intro (fun h => absurd h (by decide)) (And.intro (fun h => absurd h (by decide)) (And.intro (fun h => absurd h (by decide)) (And.intro (fun h => absurd h (by decide)) (And.intro (fun h => absurd h (by decide)) (trivial)))))))))))))
      have hc := c_M_dueAt I F S.2.2.2.2.2.2.1 S.2.2.2.2.2.2.2 (eN S) 0 hI hn (by omega)
      rw [eDue] at hc
      refine Exists.intro 0 (Exists.intro _ (Exists.intro _ ⟨by decide, hc, ?_⟩))
      exact ⟨rfl, rfl, rfl, rfl⟩
    · refine am_ev 2 (some .int) false [] ok_M_count am_mP_216 (by rw [am_m_216]) (by rw [am_m_216]) (fun h => by cases h) (Nat.le_of_ble_eq_true rfl) (fun Go hG => ?_)
      refine hG 200 _ _ _ _ _ _ ?_
      refine And.intro (fun h => absurd h (by decide)) (And.intro (fun h => absurd h (by decide)) (And.intro (fun h => absurd h (by decide)) (And.intro (fun h => absurd h (by decide)) (And.intro (fun h => absurd h (by decide)) (And.intro (fun h => absurd h (by decide)) (And.intro (fun h => ?_) (And.intro (fun h => absurd h (by decide)) (And.intro (fun h => absurd h (by decide)) (And.intro (fun h => absurd h (by decide)) (And.intro (fun h => absurd h (by decide)) (And.intro (fun h => absurd h (by decide)) (And.intro (fun h => absurd h (by decide)) (trivial)))))))))))))
      have hc := c_M_sumAt I F S.2.2.2.2.2.2.1 S.2.2.2.2.2.2.2 (eN S) 0 hI hn (by omega)
      rw [show sumG (fun i => F 1 (0 + i)) (eN S) = sumS (eN S) (duE (eE S)) from sumG_congr hw] at hc
      refine Exists.intro 0 (Exists.intro _ (Exists.intro _ ⟨by decide, hc, ?_⟩))
      exact ⟨rfl, rfl, rfl, rfl⟩
    · refine am_ev 2 (some .int) false [] ok_M_count am_mP_216 (by rw [am_m_216]) (by rw [am_m_216]) (fun h => by cases h) (Nat.le_of_ble_eq_true rfl) (fun Go hG => ?_)
      refine hG 200 _ _ _ _ _ _ ?_
      refine And.intro (fun h => absurd h (by decide)) (And.intro (fun h => absurd h (by decide)) (And.intro (fun h => absurd h (by decide)) (And.intro (fun h => absurd h (by decide)) (And.intro (fun h => absurd h (by decide)) (And.intro (fun h => absurd h (by decide)) (And.intro (fun h => absurd h (by decide)) (And.intro (fun h => ?_) (And.intro (fun h => absurd h (by decide)) (And.intro (fun h => absurd h (by decide)) (And.intro (fun h => absurd h (by decide)) (And.intro (fun h => absurd h (by decide)) (And.intro (fun h => absurd h (by decide)) (trivial)))))))))))))
      have hc := c_M_throwsMade I F S.2.2.2.2.2.2.1 S.2.2.2.2.2.2.2 (eN S) hI hn
      rw [show sumG (fun k => F 1 (6 + k)) (eN S) = sumG (gN (thE (eE S))) (eN S) from sumG_congr (fun k q => by have h7 := (v3 k q).2; rw [Nat.zero_add] at h7; exact h7)] at hc
      refine Exists.intro 0 (Exists.intro _ (Exists.intro _ ⟨by decide, hc, ?_⟩))
      exact ⟨rfl, rfl, rfl, rfl⟩
    · refine am_ev 2 (some .int) false [] ok_M_count am_mP_216 (by rw [am_m_216]) (by rw [am_m_216]) (fun h => by cases h) (Nat.le_of_ble_eq_true rfl) (fun Go hG => ?_)
      refine hG 200 _ _ _ _ _ _ ?_
      refine And.intro (fun h => absurd h (by decide)) (And.intro (fun h => absurd h (by decide)) (And.intro (fun h => absurd h (by decide)) (And.intro (fun h => absurd h (by decide)) (And.intro (fun h => absurd h (by decide)) (And.intro (fun h => absurd h (by decide)) (And.intro (fun h => absurd h (by decide)) (And.intro (fun h => absurd h (by decide)) (And.intro (fun h => ?_) (And.intro (fun h => absurd h (by decide)) (And.intro (fun h => absurd h (by decide)) (And.intro (fun h => absurd h (by decide)) (And.intro (fun h => absurd h (by decide)) (trivial)))))))))))))
      have hc := c_M_ofKinds I F S.2.2.2.2.2.2.1 S.2.2.2.2.2.2.2 (eN S) hI hn (nI 1) (nI 4)
      rw [show cntG (okB (F 2) (nI 1) (nI 4)) (eN S) = cntG (okB (gN (eK S)) (nI 1) (nI 4)) (eN S) from cntG_congr (fun k q => by unfold okB; rw [(hk k q).1]; rfl)] at hc
      refine Exists.intro 0 (Exists.intro _ (Exists.intro _ ⟨by decide, hc, ?_⟩))
      exact ⟨rfl, rfl, rfl, rfl⟩
    · refine am_ev 2 (some .int) false [] ok_M_count am_mP_216 (by rw [am_m_216]) (by rw [am_m_216]) (fun h => by cases h) (Nat.le_of_ble_eq_true rfl) (fun Go hG => ?_)
      refine hG 200 _ _ _ _ _ _ ?_
      refine And.intro (fun h => absurd h (by decide)) (And.intro (fun h => absurd h (by decide)) (And.intro (fun h => absurd h (by decide)) (And.intro (fun h => absurd h (by decide)) (And.intro (fun h => absurd h (by decide)) (And.intro (fun h => absurd h (by decide)) (And.intro (fun h => absurd h (by decide)) (And.intro (fun h => absurd h (by decide)) (And.intro (fun h => absurd h (by decide)) (And.intro (fun h => ?_) (And.intro (fun h => absurd h (by decide)) (And.intro (fun h => absurd h (by decide)) (And.intro (fun h => absurd h (by decide)) (trivial)))))))))))))
      have hc := c_M_ofKinds I F S.2.2.2.2.2.2.1 S.2.2.2.2.2.2.2 (eN S) hI hn (nI 3) (nI 5)
      rw [show cntG (okB (F 2) (nI 3) (nI 5)) (eN S) = cntG (okB (gN (eK S)) (nI 3) (nI 5)) (eN S) from cntG_congr (fun k q => by unfold okB; rw [(hk k q).1]; rfl)] at hc
      refine Exists.intro 0 (Exists.intro _ (Exists.intro _ ⟨by decide, hc, ?_⟩))
      exact ⟨rfl, rfl, rfl, rfl⟩
    · refine am_ev 2 (some .int) false [] ok_M_count am_mP_216 (by rw [am_m_216]) (by rw [am_m_216]) (fun h => by cases h) (Nat.le_of_ble_eq_true rfl) (fun Go hG => ?_)
      refine hG 200 _ _ _ _ _ _ ?_
      refine And.intro (fun h => absurd h (by decide)) (And.intro (fun h => absurd h (by decide)) (And.intro (fun h => absurd h (by decide)) (And.intro (fun h => absurd h (by decide)) (And.intro (fun h => absurd h (by decide)) (And.intro (fun h => absurd h (by decide)) (And.intro (fun h => absurd h (by decide)) (And.intro (fun h => absurd h (by decide)) (And.intro (fun h => absurd h (by decide)) (And.intro (fun h => absurd h (by decide)) (And.intro (fun h => ?_) (And.intro (fun h => absurd h (by decide)) (And.intro (fun h => absurd h (by decide)) (trivial)))))))))))))
      have hc := c_M_thereAre I F S.2.2.2.2.2.2.1 S.2.2.2.2.2.2.2 5 6 (by omega)
      rw [show cntG (thrB (F 5)) 6 = cntG (thrB (rz S)) 6 from cntG_congr (fun k q => by unfold thrB; rw [(hr k q).1]; rfl)] at hc
      refine Exists.intro 0 (Exists.intro _ (Exists.intro _ ⟨by decide, hc, ?_⟩))
      exact ⟨rfl, rfl, rfl, rfl⟩
    · refine am_ev 2 (some .int) false [] ok_M_count am_mP_216 (by rw [am_m_216]) (by rw [am_m_216]) (fun h => by cases h) (Nat.le_of_ble_eq_true rfl) (fun Go hG => ?_)
      refine hG 200 _ _ _ _ _ _ ?_
      refine And.intro (fun h => absurd h (by decide)) (And.intro (fun h => absurd h (by decide)) (And.intro (fun h => absurd h (by decide)) (And.intro (fun h => absurd h (by decide)) (And.intro (fun h => absurd h (by decide)) (And.intro (fun h => absurd h (by decide)) (And.intro (fun h => absurd h (by decide)) (And.intro (fun h => absurd h (by decide)) (And.intro (fun h => absurd h (by decide)) (And.intro (fun h => absurd h (by decide)) (And.intro (fun h => absurd h (by decide)) (And.intro (fun h => ?_) (And.intro (fun h => absurd h (by decide)) (trivial)))))))))))))
      have hc := c_M_thereAre I F S.2.2.2.2.2.2.1 S.2.2.2.2.2.2.2 7 4 (by omega)
      rw [show cntG (thrB (F 7)) 4 = cntG (thrB (tz S)) 4 from cntG_congr (fun k q => by unfold thrB; rw [(ht k q).1]; rfl)] at hc
      refine Exists.intro 0 (Exists.intro _ (Exists.intro _ ⟨by decide, hc, ?_⟩))
      exact ⟨rfl, rfl, rfl, rfl⟩
    · refine am_ev 2 (some .int) false [] ok_M_count am_mP_216 (by rw [am_m_216]) (by rw [am_m_216]) (fun h => by cases h) (Nat.le_of_ble_eq_true rfl) (fun Go hG => ?_)
      refine hG 200 _ _ _ _ _ _ ?_
      refine And.intro (fun h => absurd h (by decide)) (And.intro (fun h => absurd h (by decide)) (And.intro (fun h => absurd h (by decide)) (And.intro (fun h => absurd h (by decide)) (And.intro (fun h => absurd h (by decide)) (And.intro (fun h => absurd h (by decide)) (And.intro (fun h => absurd h (by decide)) (And.intro (fun h => absurd h (by decide)) (And.intro (fun h => absurd h (by decide)) (And.intro (fun h => absurd h (by decide)) (And.intro (fun h => absurd h (by decide)) (And.intro (fun h => absurd h (by decide)) (And.intro (fun h => ?_) (trivial)))))))))))))
      have hc := c_M_thereAre I F S.2.2.2.2.2.2.1 S.2.2.2.2.2.2.2 3 3 (by omega)
      rw [show cntG (thrB (F 3)) 3 = cntG (thrB (kpC S)) 3 from cntG_congr (fun k q => by unfold thrB; rw [hkp k q])] at hc
      refine Exists.intro 0 (Exists.intro _ (Exists.intro _ ⟨by decide, hc, ?_⟩))
      exact ⟨rfl, rfl, rfl, rfl⟩

theorem spCount_2 (S : Sta) (w : Int32) : (spCount S w).2 = S := by
  unfold spCount
  split <;> rfl
theorem pm_M_count (S : Sta) (hp : List Am_C) (hRM : RM S hp) (w : Int32) : ∃ hp', Am_Ev false 4 0 0 216 [.ref 0, .int w] hp (some (.int (spCount S w).1)) hp' ∧ RM (spCount S w).2 hp' := by
  obtain ⟨I, F, rfl, hx⟩ := hRM
  exact ⟨_, c_M_countS hx w, by rw [spCount_2]; exact RM_of hx⟩

theorem pm_M_mark (S : Sta) (hp : List Am_C) (hRM : RM S hp) (i w : Int32) : ∃ hp', Am_Ev false 4 0 0 157 [.ref 0, .int i, .int w] hp (some (.int (spMark S i w).1)) hp' ∧ RM (spMark S i w).2 hp' := by
  obtain ⟨I, F, rfl, hx⟩ := hRM
  obtain ⟨hs, hr, ht, hl⟩ := id hx
  obtain ⟨g1, g2, g3, g4, g5, g6⟩ := hs
  have hI : I 2 = nI (eN S) := g1
  have hn : eN S ≤ 6 := g2
  have hk : ∀ i, i < eN S → F 2 i = nI (eK S i) ∧ eK S i < 6 := g3
  have hE : evM (F 1) 0 (eN S) (eE S) := g4
  have hG5 : gdE (eN S) (eE S) := g5
  have hap : apart (eN S) (duE (eE S)) := hG5 _ (Nat.le_refl _)
  obtain ⟨v1, v2, v3, v4, v5⟩ := id hE
  have hw : ∀ k, k < eN S → F 1 (0 + k) = nI (duE (eE S) k) := fun k q => (v3 k q).1
  have hw2 : ∀ k, k < eN S → F 1 k = nI (duE (eE S) k) := fun k q => by have := hw k q; rw [Nat.zero_add] at this; exact this
  have hm33 : F 1 533 = nI (eE S).1 := by have := v2; rw [Nat.zero_add] at this; exact this
  have eSky : skyG (fun i => F 1 (0 + i)) (eN S) = skyS (eN S) (duE (eE S)) := skyG_congr hw
  have eDue : dueG (fun i => F 1 (0 + i)) (eN S) 0 = dueS (eN S) (duE (eE S)) := dueG_congr hw _ 0 (by omega)
  have eMay : ∀ z, mayG (fun i => F 1 (0 + i)) (F 2) (eN S) z = mayS (eN S) (eK S) (duE (eE S)) z := fun z => mayG_congr hw (fun k q => (hk k q).1) z
  unfold spMark
  have hc1 := c_M_isThing I F S.2.2.2.2.2.2.1 S.2.2.2.2.2.2.2 i
  rw [hI] at hc1
  cases ho : okI S i with
  | false =>
    rw [if_pos rfl]
    rw [show in3 i (nI 0) (nI (eN S) - nI 1) = false from ho] at hc1
    refine ⟨_, am_ev 4 (some .int) false [64] ok_M_mark am_mP_157 (by rw [am_m_157]) (by rw [am_m_157]) (fun h => by cases h) (Nat.le_of_ble_eq_true rfl) (fun Go hG => ?_), RM_of hx⟩
    refine hG 200 _ _ _ _ _ _ ?_
    refine Exists.intro 1 (Exists.intro _ (Exists.intro _ ⟨by decide, hc1, ?_⟩))
    refine br_t rfl ?_
    exact ⟨rfl, rfl, rfl, rfl⟩
  | true =>
    rw [if_neg (by decide)]
    rw [show in3 i (nI 0) (nI (eN S) - nI 1) = true from ho] at hc1
    obtain ⟨a, ha, rfl⟩ := in3_nat2 (k := eN S) (by omega) rfl ho
    rw [nat_nI (by omega)]
    have hc2 := c_M_in (mH I F S.2.2.2.2.2.2.1 S.2.2.2.2.2.2.2) w (nI 1) (nI 5)
    cases ho2 : in3 w (nI 1) (nI 5) with
    | false =>
      rw [if_pos rfl]
      rw [ho2] at hc2
      refine ⟨_, am_ev 4 (some .int) false [64] ok_M_mark am_mP_157 (by rw [am_m_157]) (by rw [am_m_157]) (fun h => by cases h) (Nat.le_of_ble_eq_true rfl) (fun Go hG => ?_), RM_of hx⟩
      refine hG 200 _ _ _ _ _ _ ?_
      refine Exists.intro 1 (Exists.intro _ (Exists.intro _ ⟨by decide, hc1, ?_⟩))
      refine br_f (by decide) ?_
      refine Exists.intro 0 (Exists.intro _ (Exists.intro _ ⟨by decide, hc2, ?_⟩))
      refine bn_f rfl ?_
      exact ⟨rfl, rfl, rfl, rfl⟩
    | true =>
      rw [if_neg (by decide)]
      rw [ho2] at hc2
      obtain ⟨z, hz1, hz, rfl⟩ := in3_nat (by decide) (by decide) ho2
      rw [nat_nI (by omega)]
      have hka := (hk a ha).1
      have hkb := (hk a ha).2
      have key : ∀ Go : Am_K, ∀ (rr : Option Value) (hh : List Am_C), (∀ (n pc : Nat) (loc : List (Option Value)) (st : List Value) (hp : List Am_C) (nc ns : Nat), am_blk cd_M_mark [64] 4 0 0 false false (some .int) (am_post rr hh 0 0) Go n pc loc st hp nc ns → Go pc loc st hp nc ns) → Go 64 [some (.ref 0), some (.int (nI a)), some (.int (nI z)), none] [.int (b2 (isOfB (eK S a) z))] (mH I F S.2.2.2.2.2.2.1 S.2.2.2.2.2.2.2) 0 0 → Go 0 (am_loc 4 [.ref 0, .int (nI a), .int (nI z)]) [] (mH I F S.2.2.2.2.2.2.1 S.2.2.2.2.2.2.2) 0 0 := by
        intro Go rr hh hG hgo
        refine hG 200 _ _ _ _ _ _ ?_
        refine Exists.intro 1 (Exists.intro _ (Exists.intro _ ⟨by decide, hc1, ?_⟩))
        refine br_f (by decide) ?_
        refine Exists.intro 0 (Exists.intro _ (Exists.intro _ ⟨by decide, hc2, ?_⟩))
        refine bn_t (by decide) ?_
        refine Exists.intro a ⟨by omega, rfl, ?_⟩
        have hka' : F 2 a = nI (eK S a) := hka
        clear hka
        generalize eK S a = kk at hka' hkb hgo
        rcases lt6 hkb with rfl | rfl | rfl | rfl | rfl | rfl
        · rcases (show z = 1 ∨ z = 2 ∨ z = 3 ∨ z = 4 ∨ z = 5 by omega) with rfl | rfl | rfl | rfl | rfl
          · refine br_f (by rw [hka']; decide) ?_
            refine bn_f rfl ?_
            refine Exists.intro a ⟨by omega, rfl, ?_⟩
            refine br_f (by rw [hka']; decide) ?_
            refine bn_t (by decide) ?_
            exact hgo
          · refine br_f (by rw [hka']; decide) ?_
            refine bn_t (by decide) ?_
            refine bn_t (by decide) ?_
            exact hgo
          · refine br_f (by rw [hka']; decide) ?_
            refine bn_t (by decide) ?_
            refine bn_f rfl ?_
            refine Exists.intro a ⟨by omega, rfl, ?_⟩
            refine bn_t (by rw [hka']; decide) ?_
            exact hgo
          · refine br_f (by rw [hka']; decide) ?_
            refine bn_t (by decide) ?_
            refine bn_t (by decide) ?_
            exact hgo
          · refine br_f (by rw [hka']; decide) ?_
            refine bn_t (by decide) ?_
            refine bn_t (by decide) ?_
            exact hgo
        · rcases (show z = 1 ∨ z = 2 ∨ z = 3 ∨ z = 4 ∨ z = 5 by omega) with rfl | rfl | rfl | rfl | rfl
          · refine br_t hka' ?_
            exact hgo
          · refine br_f (by rw [hka']; decide) ?_
            refine bn_t (by decide) ?_
            refine bn_t (by decide) ?_
            exact hgo
          · refine br_f (by rw [hka']; decide) ?_
            refine bn_t (by decide) ?_
            refine bn_f rfl ?_
            refine Exists.intro a ⟨by omega, rfl, ?_⟩
            refine bn_t (by rw [hka']; decide) ?_
            exact hgo
          · refine br_f (by rw [hka']; decide) ?_
            refine bn_t (by decide) ?_
            refine bn_t (by decide) ?_
            exact hgo
          · refine br_f (by rw [hka']; decide) ?_
            refine bn_t (by decide) ?_
            refine bn_t (by decide) ?_
            exact hgo
        · rcases (show z = 1 ∨ z = 2 ∨ z = 3 ∨ z = 4 ∨ z = 5 by omega) with rfl | rfl | rfl | rfl | rfl
          · refine br_f (by rw [hka']; decide) ?_
            refine bn_f rfl ?_
            refine Exists.intro a ⟨by omega, rfl, ?_⟩
            refine br_f (by rw [hka']; decide) ?_
            refine bn_t (by decide) ?_
            exact hgo
          · refine br_t hka' ?_
            exact hgo
          · refine br_f (by rw [hka']; decide) ?_
            refine bn_t (by decide) ?_
            refine bn_f rfl ?_
            refine Exists.intro a ⟨by omega, rfl, ?_⟩
            refine bn_t (by rw [hka']; decide) ?_
            exact hgo
          · refine br_f (by rw [hka']; decide) ?_
            refine bn_t (by decide) ?_
            refine bn_t (by decide) ?_
            exact hgo
          · refine br_f (by rw [hka']; decide) ?_
            refine bn_t (by decide) ?_
            refine bn_t (by decide) ?_
            exact hgo
        · rcases (show z = 1 ∨ z = 2 ∨ z = 3 ∨ z = 4 ∨ z = 5 by omega) with rfl | rfl | rfl | rfl | rfl
          · refine br_f (by rw [hka']; decide) ?_
            refine bn_f rfl ?_
            refine Exists.intro a ⟨by omega, rfl, ?_⟩
            refine br_f (by rw [hka']; decide) ?_
            refine bn_t (by decide) ?_
            exact hgo
          · refine br_f (by rw [hka']; decide) ?_
            refine bn_t (by decide) ?_
            refine bn_t (by decide) ?_
            exact hgo
          · refine br_t hka' ?_
            exact hgo
          · refine br_f (by rw [hka']; decide) ?_
            refine bn_t (by decide) ?_
            refine bn_t (by decide) ?_
            exact hgo
          · refine br_f (by rw [hka']; decide) ?_
            refine bn_t (by decide) ?_
            refine bn_t (by decide) ?_
            exact hgo
        · rcases (show z = 1 ∨ z = 2 ∨ z = 3 ∨ z = 4 ∨ z = 5 by omega) with rfl | rfl | rfl | rfl | rfl
          · refine br_f (by rw [hka']; decide) ?_
            refine bn_f rfl ?_
            refine Exists.intro a ⟨by omega, rfl, ?_⟩
            refine br_t hka' ?_
            exact hgo
          · refine br_f (by rw [hka']; decide) ?_
            refine bn_t (by decide) ?_
            refine bn_t (by decide) ?_
            exact hgo
          · refine br_f (by rw [hka']; decide) ?_
            refine bn_t (by decide) ?_
            refine bn_f rfl ?_
            refine Exists.intro a ⟨by omega, rfl, ?_⟩
            refine bn_t (by rw [hka']; decide) ?_
            exact hgo
          · refine br_t hka' ?_
            exact hgo
          · refine br_f (by rw [hka']; decide) ?_
            refine bn_t (by decide) ?_
            refine bn_t (by decide) ?_
            exact hgo
        · rcases (show z = 1 ∨ z = 2 ∨ z = 3 ∨ z = 4 ∨ z = 5 by omega) with rfl | rfl | rfl | rfl | rfl
          · refine br_f (by rw [hka']; decide) ?_
            refine bn_f rfl ?_
            refine Exists.intro a ⟨by omega, rfl, ?_⟩
            refine br_f (by rw [hka']; decide) ?_
            refine bn_t (by decide) ?_
            exact hgo
          · refine br_f (by rw [hka']; decide) ?_
            refine bn_t (by decide) ?_
            refine bn_t (by decide) ?_
            exact hgo
          · refine br_f (by rw [hka']; decide) ?_
            refine bn_t (by decide) ?_
            refine bn_f rfl ?_
            refine Exists.intro a ⟨by omega, rfl, ?_⟩
            refine bn_f hka' ?_
            exact hgo
          · refine br_f (by rw [hka']; decide) ?_
            refine bn_t (by decide) ?_
            refine bn_t (by decide) ?_
            exact hgo
          · refine br_t hka' ?_
            exact hgo
      cases hio : isOfB (eK S a) z with
      | false =>
        rw [if_pos rfl]
        refine ⟨_, am_ev 4 (some .int) false [64] ok_M_mark am_mP_157 (by rw [am_m_157]) (by rw [am_m_157]) (fun h => by cases h) (Nat.le_of_ble_eq_true rfl) (fun Go hG => ?_), RM_fnd hx (by decide)⟩
        refine key Go _ _ hG ?_
        rw [hio]
        refine hG 200 _ _ _ _ _ _ ?_
        refine bn_f rfl ?_
        refine Exists.intro 0 (Exists.intro _ (Exists.intro _ ⟨by decide, c_M_found I F S.2.2.2.2.2.2.1 S.2.2.2.2.2.2.2 3 (by decide), ?_⟩))
        exact ⟨rfl, rfl, rfl, rfl⟩
      | true =>
        rw [if_neg (by decide)]
        rcases (show z = 1 ∨ z = 2 ∨ z = 3 ∨ z = 4 ∨ z = 5 by omega) with rfl | rfl | rfl | rfl | rfl
        · refine ⟨_, am_ev 4 (some .int) false [64] ok_M_mark am_mP_157 (by rw [am_m_157]) (by rw [am_m_157]) (fun h => by cases h) (Nat.le_of_ble_eq_true rfl) (fun Go hG => ?_), RM_of hx⟩
          refine key Go _ _ hG ?_
          rw [hio]
          refine hG 200 _ _ _ _ _ _ ?_
          refine bn_t (by decide) ?_
          refine And.intro (fun h => absurd h (by decide)) (And.intro (fun h => ?_) (And.intro (fun h => absurd h (by decide)) (And.intro (fun h => absurd h (by decide)) (And.intro (fun h => absurd h (by decide)) (trivial)))))
          refine Exists.intro a ⟨by omega, rfl, ?_⟩
          refine Exists.intro 1 (Exists.intro _ (Exists.intro _ ⟨by decide, c_M_unlikeBall_true _ _, ?_⟩))
          exact ⟨by rw [hka]; rfl, rfl, rfl, rfl⟩
        · refine ⟨_, am_ev 4 (some .int) false [64] ok_M_mark am_mP_157 (by rw [am_m_157]) (by rw [am_m_157]) (fun h => by cases h) (Nat.le_of_ble_eq_true rfl) (fun Go hG => ?_), RM_of hx⟩
          refine key Go _ _ hG ?_
          rw [hio]
          refine hG 200 _ _ _ _ _ _ ?_
          refine bn_t (by decide) ?_
          refine And.intro (fun h => absurd h (by decide)) (And.intro (fun h => absurd h (by decide)) (And.intro (fun h => ?_) (And.intro (fun h => absurd h (by decide)) (And.intro (fun h => absurd h (by decide)) (trivial)))))
          refine Exists.intro a ⟨by omega, rfl, ?_⟩
          refine And.intro (by decide) ?_
          exact ⟨by rw [hw2 a ha]; rfl, rfl, rfl, rfl⟩
        · refine ⟨_, am_ev 4 (some .int) false [64] ok_M_mark am_mP_157 (by rw [am_m_157]) (by rw [am_m_157]) (fun h => by cases h) (Nat.le_of_ble_eq_true rfl) (fun Go hG => ?_), RM_of hx⟩
          refine key Go _ _ hG ?_
          rw [hio]
          refine hG 200 _ _ _ _ _ _ ?_
          refine bn_t (by decide) ?_
          refine And.intro (fun h => absurd h (by decide)) (And.intro (fun h => absurd h (by decide)) (And.intro (fun h => absurd h (by decide)) (And.intro (fun h => ?_) (And.intro (fun h => absurd h (by decide)) (trivial)))))
          refine Exists.intro a ⟨by omega, rfl, ?_⟩
          refine Exists.intro 1 (Exists.intro _ (Exists.intro _ ⟨by decide, c_M_unlikeBall_false _ _, ?_⟩))
          exact ⟨by rw [hka]; rfl, rfl, rfl, rfl⟩
        · have hc3 := c_M_torchesAhead I F S.2.2.2.2.2.2.1 S.2.2.2.2.2.2.2 (eN S) a hI hn ha
          rw [show cntG (trB (F 2) (F 1) a) (eN S) = cntG (trB (gN (eK S)) (gN (duE (eE S))) a) (eN S) from cntG_congr (fun k q => by unfold trB; rw [(hk k q).1, hw2 k q, hw2 a ha]; rfl)] at hc3
          refine ⟨_, am_ev 4 (some .int) false [64] ok_M_mark am_mP_157 (by rw [am_m_157]) (by rw [am_m_157]) (fun h => by cases h) (Nat.le_of_ble_eq_true rfl) (fun Go hG => ?_), RM_of hx⟩
          refine key Go _ _ hG ?_
          rw [hio]
          refine hG 200 _ _ _ _ _ _ ?_
          refine bn_t (by decide) ?_
          refine And.intro (fun h => absurd h (by decide)) (And.intro (fun h => absurd h (by decide)) (And.intro (fun h => absurd h (by decide)) (And.intro (fun h => absurd h (by decide)) (And.intro (fun h => ?_) (trivial)))))
          refine Exists.intro 0 (Exists.intro _ (Exists.intro _ ⟨by decide, hc3, ?_⟩))
          exact ⟨rfl, rfl, rfl, rfl⟩
        · have hc3 := c_M_thingsBehind I F S.2.2.2.2.2.2.1 S.2.2.2.2.2.2.2 (eN S) a hI hn ha
          rw [show cntG (bhB (F 1) a) (eN S) = cntG (bhB (gN (duE (eE S))) a) (eN S) from cntG_congr (fun k q => by unfold bhB; rw [hw2 k q, hw2 a ha]; rfl)] at hc3
          refine ⟨_, am_ev 4 (some .int) false [64] ok_M_mark am_mP_157 (by rw [am_m_157]) (by rw [am_m_157]) (fun h => by cases h) (Nat.le_of_ble_eq_true rfl) (fun Go hG => ?_), RM_of hx⟩
          refine key Go _ _ hG ?_
          rw [hio]
          refine hG 200 _ _ _ _ _ _ ?_
          refine bn_t (by decide) ?_
          refine And.intro (fun h => ?_) (And.intro (fun h => absurd h (by decide)) (And.intro (fun h => absurd h (by decide)) (And.intro (fun h => absurd h (by decide)) (And.intro (fun h => absurd h (by decide)) trivial))))
          refine Exists.intro 0 (Exists.intro _ (Exists.intro _ ⟨by decide, hc3, ?_⟩))
          exact ⟨rfl, rfl, rfl, rfl⟩

