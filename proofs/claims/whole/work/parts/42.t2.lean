/-! ===== the reference: run, rounds ===== -/
def hsN (c : Nat → Int32) (i : Nat) : Nat := nat (c i)
theorem okH_nat {x : Int32} (h : okH x = true) : x = nI (nat x) ∧ 1 ≤ nat x ∧ nat x ≤ 7 := by
  obtain ⟨j, h1, h2, rfl⟩ := in3_nat (by decide) (by decide) h
  rw [nat_nI (by omega)]
  exact ⟨rfl, h1, h2⟩
theorem wrHc_0 {S : Sta} {r : Int32} {lo hi : Nat} (h : wrHc S r lo hi = 0) (hlo : lo < 2 ^ 31) (hhi : hi < 2 ^ 31) : okR r = true ∧ ¬ rz S (nat r) < 0 ∧ in3 (rz S (nat r)) (nI lo) (nI hi) = true ∧ allH (rc S (nat r)) (nat (rz S (nat r))) = true := by
  unfold wrHc at h
  by_cases h1 : okR r = false
  · rw [if_pos h1] at h; omega
  · rw [if_neg h1] at h
    by_cases h2 : rz S (nat r) < 0
    · rw [if_pos h2] at h; omega
    · rw [if_neg h2] at h
      by_cases h3 : in3 (rz S (nat r)) (nI lo) (nI hi) = false
      · rw [if_pos h3] at h; omega
      · rw [if_neg h3] at h
        by_cases h4 : allH (rc S (nat r)) (nat (rz S (nat r))) = false
        · rw [if_pos h4] at h; omega
        · exact ⟨by cases q : okR r with | true => rfl | false => exact absurd q h1, h2, by cases q : in3 (rz S (nat r)) (nI lo) (nI hi) with | true => rfl | false => exact absurd q h3, by cases q : allH (rc S (nat r)) (nat (rz S (nat r))) with | true => rfl | false => exact absurd q h4⟩
theorem wrHc_sz {S : Sta} {r : Int32} {lo hi : Nat} (h : in3 (rz S (nat r)) (nI lo) (nI hi) = true) (hlo : lo < 2 ^ 31) (hhi : hi < 2 ^ 31) : lo ≤ nat (rz S (nat r)) ∧ nat (rz S (nat r)) ≤ hi ∧ rz S (nat r) = nI (nat (rz S (nat r))) := by
  obtain ⟨j, h1, h2, e⟩ := in3_nat hhi hlo h
  rw [e, nat_nI (by omega)]
  exact ⟨h1, h2, rfl⟩
def spTh (S : Sta) (r : Int32) : Nat × (Nat → Nat) := thS (eN S) (eK S) (hsN (rc S (nat r))) (nat (rz S (nat r))) 0 (duE (eE S))
def spRun (S : Sta) (r : Int32) : Int32 × Sta := if eN S = 0 then (-nI 4, S) else refS S (wrHc S r 0 20) (nI (spTh S r).1, tellS S (skyS (eN S) (spTh S r).2))

theorem l_M_run {I : Nat → Int32} {F : Nat → Nat → Int32} {n : Nat} {kd du hs : Nat → Nat} (hb : MBs I F n kd du) (u v : Int64) (r z : Nat) (hr6 : r ≤ 5) (hz : F 5 r = nI z) (hz40 : z ≤ 40) (hc : ∀ i, i < z → F 4 (40 * r + i) = nI (hs i)) (hh : ∀ i, i < z → 1 ≤ hs i ∧ hs i ≤ 7) (y : Int32) : ∀ (j k : Nat) (w : Nat → Int32) (d : Nat → Nat), k + j = z → TW n d (F 1) w → apart n d → ∀ x : Option Value, ∃ w', TW n (thS n kd hs j k d).2 (F 1) w' ∧ Rch cd_M_run [34] 4 (some .int) 34 [some (.ref 0), some (.int (nI r)), some (.int y), some (.int (nI k)), some (.int (nI 1)), x] [] (mH I (va_up F 1 w) u v) (some (.int (nI (thS n kd hs j k d).1))) (mH (upd I 8 (skyS n (thS n kd hs j k d).2)) (va_up F 1 w') u v) := by
  intro j
  induction j with
  | zero =>
    intro k w d hk hw ha x
    refine ⟨w, hw, fun Go hG => ?_⟩
    refine hG 200 _ _ _ _ _ _ ?_
    refine br_f (by decide) ?_
    refine Exists.intro r ⟨by omega, rfl, ?_⟩
    refine br_t (by show F 5 r ≤ nI k; rw [hz]; exact nI_le (by omega) (by omega)) ?_
    refine Exists.intro 0 (Exists.intro _ (Exists.intro _ ⟨by decide, x_sky hb u v hw, ?_⟩))
    exact ⟨rfl, rfl, rfl, rfl⟩
  | succ j ih =>
    intro k w d hk hw ha x
    obtain ⟨w1, hc1, hw1⟩ := x_rests hb u v hw ha
    have hcm := x_may hb u v hw1 (nI (hs k))
    have hck := hc k (by omega)
    unfold thS
    cases hm : mayS n kd (rstS n d) (nI (hs k)) with
    | false =>
      rw [if_neg (by decide)]
      rw [hm, ← hck] at hcm
      refine ⟨w1, hw1, fun Go hG => ?_⟩
      refine hG 200 _ _ _ _ _ _ ?_
      refine br_f (by decide) ?_
      refine Exists.intro r ⟨by omega, rfl, ?_⟩
      refine br_f (by show ¬ F 5 r ≤ nI k; rw [hz]; exact nI_ge (by omega) (by omega)) ?_
      refine Exists.intro 1 (Exists.intro _ (Exists.intro _ ⟨by decide, hc1, ?_⟩))
      refine Exists.intro (40 * r + k) ⟨by omega, nI_idx _ _ _, ?_⟩
      refine Exists.intro 1 (Exists.intro _ (Exists.intro _ ⟨by decide, hcm, ?_⟩))
      refine br_t rfl ?_
      refine hG 200 _ _ _ _ _ _ ?_
      refine br_t rfl ?_
      refine Exists.intro 0 (Exists.intro _ (Exists.intro _ ⟨by decide, x_sky hb u v hw1, ?_⟩))
      exact ⟨rfl, rfl, rfl, rfl⟩
    | true =>
      rw [if_pos rfl]
      obtain ⟨w2, hc2, hw2⟩ := x_toss hb u v hw1 (apart_rst ha) (hs k) (hh k (by omega)) hm
      rw [hm, ← hck] at hcm
      rw [← hck] at hc2
      obtain ⟨w3, hw3, hR⟩ := ih (k + 1) w2 _ (by omega) hw2 (apart_tos (apart_rst ha) (fun i q => (hb.2.2.2.1 i q).2) (hh k (by omega)) hm) (some (.int (F 4 (40 * r + k))))
      refine ⟨w3, hw3, fun Go hG => ?_⟩
      have h9 := hR Go hG
      rw [← nI_s1 k] at h9
      refine hG 200 _ _ _ _ _ _ ?_
      refine br_f (by decide) ?_
      refine Exists.intro r ⟨by omega, rfl, ?_⟩
      refine br_f (by show ¬ F 5 r ≤ nI k; rw [hz]; exact nI_ge (by omega) (by omega)) ?_
      refine Exists.intro 1 (Exists.intro _ (Exists.intro _ ⟨by decide, hc1, ?_⟩))
      refine Exists.intro (40 * r + k) ⟨by omega, nI_idx _ _ _, ?_⟩
      refine Exists.intro 1 (Exists.intro _ (Exists.intro _ ⟨by decide, hcm, ?_⟩))
      refine br_f (by decide) ?_
      refine Exists.intro 1 (Exists.intro _ (Exists.intro _ ⟨by decide, hc2, ?_⟩))
      exact h9

theorem pm_M_run (S : Sta) (hp : List Am_C) (hRM : RM S hp) (r : Int32) : ∃ hp', Am_Ev false 4 0 0 180 [.ref 0, .int r] hp (some (.int (spRun S r).1)) hp' ∧ RM (spRun S r).2 hp' := by
  obtain ⟨I, F, rfl, hx⟩ := hRM
  obtain ⟨hs, hr, ht, hl⟩ := id hx
  obtain ⟨g1, g2, g3, g4, g5, g6⟩ := hs
  have hI : I 2 = nI (eN S) := g1
  have hn : eN S ≤ 6 := g2
  unfold spRun
  by_cases hn0 : eN S = 0
  · rw [if_pos hn0]
    refine ⟨_, am_ev 6 (some .int) false [34] ok_M_run am_mP_180 (by rw [am_m_180]) (by rw [am_m_180]) (fun h => by cases h) (Nat.le_of_ble_eq_true rfl) (fun Go hG => ?_), RM_of hx⟩
    refine hG 200 _ _ _ _ _ _ ?_
    refine bn_f (by rw [hI, hn0]; rfl) ?_
    exact ⟨rfl, rfl, rfl, rfl⟩
  · rw [if_neg hn0]
    have hI0 : ¬ I 2 = 0 := by rw [hI]; exact fun q => hn0 ((nI_z (by omega)).mp q)
    have hwr := c_M_wrongHeights hx r 0 20 (by decide) (by decide)
    have hor := wrHc_or S r 0 20
    unfold refS
    by_cases hc0 : wrHc S r 0 20 = 0
    · rw [if_pos hc0]
      obtain ⟨c1, c2, c3, c4⟩ := wrHc_0 hc0 (by decide) (by decide)
      obtain ⟨z1, z2, z3⟩ := wrHc_sz c3 (by decide) (by decide)
      rw [hc0] at hwr
      obtain ⟨j, -, hj, rfl⟩ := in3_nat (by decide) (by decide) c1
      rw [nat_nI (by omega)] at c2 c3 c4 z1 z2 z3
      obtain ⟨q1, q2, q3⟩ := hr j (by omega)
      have q1' : F 5 j = rz S j := q1
      have hb := MBs_of hx hn0
      have hcc : ∀ i, i < nat (rz S j) → F 4 (40 * j + i) = nI (hsN (rc S j) i) := fun i hi => by
        rw [q3 i hi]
        exact (okH_nat (allH_at c4 hi)).1
      have hhh : ∀ i, i < nat (rz S j) → 1 ≤ hsN (rc S j) i ∧ hsN (rc S j) i ≤ 7 := fun i hi => (okH_nat (allH_at c4 hi)).2
      have hz : F 5 j = nI (nat (rz S j)) := by rw [q1']; exact z3
      obtain ⟨w1, hb1, hw1⟩ := x_begin hb S.2.2.2.2.2.2.1 S.2.2.2.2.2.2.2 (w := F 1) (fun _ _ => rfl)
      rw [va_up_same] at hb1
      have hsp : spTh S (nI j) = thS (eN S) (eK S) (hsN (rc S j)) (nat (rz S j)) 0 (duE (eE S)) := by unfold spTh; rw [nat_nI (by omega)]
      obtain ⟨w2, hw2, hR⟩ := l_M_run hb S.2.2.2.2.2.2.1 S.2.2.2.2.2.2.2 j (nat (rz S j)) hj hz (by omega) hcc hhh (nI 0) (nat (rz S j)) 0 w1 _ (by omega) hw1 hb.2.2.2.2.2 none
      rw [hsp]
      refine ⟨_, am_ev 6 (some .int) false [34] ok_M_run am_mP_180 (by rw [am_m_180]) (by rw [am_m_180]) (fun h => by cases h) (Nat.le_of_ble_eq_true rfl) (fun Go hG => ?_), RM_tell (RMx_try hx hw2.2) _⟩
      refine hG 200 _ _ _ _ _ _ ?_
      refine bn_t hI0 ?_
      refine Exists.intro 2 (Exists.intro _ (Exists.intro _ ⟨by decide, hwr, ?_⟩))
      refine br_t (by decide) ?_
      refine Exists.intro 1 (Exists.intro _ (Exists.intro _ ⟨by decide, hb1, ?_⟩))
      exact hR Go hG
    · rw [if_neg hc0]
      refine ⟨_, am_ev 6 (some .int) false [34] ok_M_run am_mP_180 (by rw [am_m_180]) (by rw [am_m_180]) (fun h => by cases h) (Nat.le_of_ble_eq_true rfl) (fun Go hG => ?_), RM_fd hx hc0 hor⟩
      refine hG 200 _ _ _ _ _ _ ?_
      refine bn_t hI0 ?_
      refine Exists.intro 2 (Exists.intro _ (Exists.intro _ ⟨by decide, hwr, ?_⟩))
      refine br_f (wrV_neg hc0).1 ?_
      exact ⟨rfl, rfl, rfl, rfl⟩

