/-! ===== the reference: odds, mid ===== -/
theorem c_M_wrongChance {I : Nat → Int32} {F : Nat → Nat → Int32} {S : Sta} (hx : RMx I F S) (r p : Int32) : Am_Ev false 3 0 0 206 [.ref 0, .int r, .int p] (mH I F S.2.2.2.2.2.2.1 S.2.2.2.2.2.2.2) (some (.int (wrV (wrCc S r p)))) (mFd I F S.2.2.2.2.2.2.1 S.2.2.2.2.2.2.2 (wrCc S r p)) := by
  unfold wrCc
  have hc := c_M_in (mH I F S.2.2.2.2.2.2.1 S.2.2.2.2.2.2.2) p (nI 0) (nI 12)
  cases ho : in3 p (nI 0) (nI 12) with
  | false =>
    rw [ho] at hc
    rw [if_pos rfl]
    refine am_ev 3 (some .int) false [] ok_M_wrongChance am_mP_206 (by rw [am_m_206]) (by rw [am_m_206]) (fun h => by cases h) (Nat.le_of_ble_eq_true rfl) (fun Go hG => ?_)
    refine hG 200 _ _ _ _ _ _ ?_
    refine Exists.intro 0 (Exists.intro _ (Exists.intro _ ⟨by decide, hc, ?_⟩))
    refine bn_f rfl ?_
    exact ⟨rfl, rfl, rfl, rfl⟩
  | true =>
    rw [ho] at hc
    rw [if_neg (by decide)]
    refine am_ev 3 (some .int) false [] ok_M_wrongChance am_mP_206 (by rw [am_m_206]) (by rw [am_m_206]) (fun h => by cases h) (Nat.le_of_ble_eq_true rfl) (fun Go hG => ?_)
    refine hG 200 _ _ _ _ _ _ ?_
    refine Exists.intro 0 (Exists.intro _ (Exists.intro _ ⟨by decide, hc, ?_⟩))
    refine bn_t (by decide) ?_
    refine Exists.intro 2 (Exists.intro _ (Exists.intro _ ⟨by decide, c_M_wrongHeights hx r 1 6 (by decide) (by decide), ?_⟩))
    exact ⟨rfl, rfl, rfl, rfl⟩
def alI (each : Bool) : Int32 := bif each then nI 0 else nI 1

theorem l_M_chances {I : Nat → Int32} {F : Nat → Nat → Int32} {n : Nat} {kd du hs : Nat → Nat} (hb : MBs I F n kd du) (u v : Int64) (r z : Nat) (hr6 : r ≤ 5) (hz : F 5 r = nI z) (hz6 : z ≤ 6) (hc : ∀ i, i < z → F 4 (40 * r + i) = nI (hs i)) (hh : ∀ i, i < z → 1 ≤ hs i ∧ hs i ≤ 7) (p : Nat) (hp : p ≤ 12) (each : Bool) (y : Int32) : ∀ (j m : Nat) (w : Nat → Int32), m + j = 2 ^ z → (∀ i, i < 2136 → w i = F 1 i) → ∀ x : Option Value, ∃ w', (∀ i, i < 2136 → w' i = F 1 i) ∧ Rch cd_M_chances [35, 63] 4 (some .int) 63 [some (.ref 0), some (.int (nI r)), some (.int (nI p)), some (.int (alI each)), some (.int y), some (.long (lN (sumN (fun m => chN p z m * vlN each (thC n kd (hq hs 0 m) z 0 du) z) m))), none, some (.long (lN (12 ^ z))), none, some (.int (nI m)), x] [] (mH I (va_up F 1 w) u v) (some (.int (nI 1))) (mH I (va_up F 1 w') (lN ((wtS n kd hs p each z 0 du) / Nat.gcd (wtS n kd hs p each z 0 du) (12 ^ z))) (lN ((12 ^ z) / Nat.gcd (wtS n kd hs p each z 0 du) (12 ^ z)))) := by
  have h2z : 2 ^ z ≤ 2 ^ 6 := Nat.pow_le_pow_right (by decide) hz6
  have h64 : (2 : Nat) ^ 6 = 64 := by decide
  have hsh : nI 1 <<< (F 5 r &&& 31) = nI (2 ^ z) := by rw [hz]; exact nI_one_shl (by omega)
  intro j
  induction j with
  | zero =>
    intro m w hm hl x
    have hs2 := wt_sum (n := n) (kd := kd) (hs := hs) (each := each) hp z 0 du (fun i _ h2 => (hh i (by omega)).2)
    have htp := c_M_tellPart I (va_up F 1 w) u v (wtS n kd hs p each z 0 du) (12 ^ z) (wt_lt hp hz6 du) (pw_lt hz6).2 (pw_lt hz6).1
    refine ⟨w, hl, fun Go hG => ?_⟩
    refine hG 200 _ _ _ _ _ _ ?_
    refine Exists.intro r ⟨by omega, rfl, ?_⟩
    refine br_t (by show nI 1 <<< (F 5 r &&& 31) ≤ nI m; rw [hsh]; exact nI_le (by omega) (by omega)) ?_
    rw [show m = 2 ^ z by omega, hs2]
    refine Exists.intro 0 (Exists.intro _ (Exists.intro _ ⟨by decide, htp, ?_⟩))
    exact ⟨rfl, rfl, rfl, rfl⟩
  | succ j ih =>
    intro m w hm hl x
    obtain ⟨w1, hl1, hmd⟩ := x_made hb u v r z hr6 hz hz6 hc hh m (by omega) hl
    have hch := c_M_chanceOf I (va_up F 1 w1) u v r z p m hr6 hz hz6 hp (by omega)
    obtain ⟨w2, hl2, hR⟩ := ih (m + 1) w1 (by omega) hl1 (some (.int (nI (thC n kd (hq hs 0 m) z 0 du))))
    have hle := thC_le (n := n) (kd := kd) (hs := hq hs 0 m) z 0 du
    refine ⟨w2, hl2, fun Go hG => ?_⟩
    have h9 := hR Go hG
    have e : sumN (fun m => chN p z m * vlN each (thC n kd (hq hs 0 m) z 0 du) z) (m + 1) = sumN (fun m => chN p z m * vlN each (thC n kd (hq hs 0 m) z 0 du) z) m + chN p z m * vlN each (thC n kd (hq hs 0 m) z 0 du) z := rfl
    rw [e, ← lN_add, ← lN_mul, ← nI_s1 m] at h9
    refine hG 200 _ _ _ _ _ _ ?_
    refine Exists.intro r ⟨by omega, rfl, ?_⟩
    refine br_f (by show ¬ nI 1 <<< (F 5 r &&& 31) ≤ nI m; rw [hsh]; exact nI_ge (by omega) (by omega)) ?_
    refine Exists.intro 2 (Exists.intro _ (Exists.intro _ ⟨by decide, hmd, ?_⟩))
    refine Exists.intro 1 (Exists.intro _ (Exists.intro _ ⟨by decide, hch, ?_⟩))
    cases each with
    | true =>
      refine br_t rfl ?_
      rw [show vlN true (thC n kd (hq hs 0 m) z 0 du) z = thC n kd (hq hs 0 m) z 0 du from rfl, ← nI_l (n := thC n kd (hq hs 0 m) z 0 du) (by omega)] at h9
      exact h9
    | false =>
      refine br_f (by decide) ?_
      refine Exists.intro r ⟨by omega, rfl, ?_⟩
      have ev : vlN false (thC n kd (hq hs 0 m) z 0 du) z = if thC n kd (hq hs 0 m) z 0 du = z then 1 else 0 := rfl
      by_cases he : thC n kd (hq hs 0 m) z 0 du = z
      · rw [ev, if_pos he, ← nI_l (n := 1) (by omega)] at h9
        refine bn_f (by show nI (thC n kd (hq hs 0 m) z 0 du) = F 5 r; rw [hz, he]) ?_
        exact h9
      · rw [ev, if_neg he, ← nI_l (n := 0) (by omega)] at h9
        refine bn_t (by show ¬ nI (thC n kd (hq hs 0 m) z 0 du) = F 5 r; rw [hz]; exact fun q => he ((nI_eqd (by omega) (by omega)).mp q)) ?_
        exact h9

theorem c_M_chances {I : Nat → Int32} {F : Nat → Nat → Int32} {S : Sta} (hx : RMx I F S) (r p : Int32) (each : Bool) : ∃ hp', Am_Ev false 4 0 0 205 [.ref 0, .int r, .int p, .int (alI each)] (mH I F S.2.2.2.2.2.2.1 S.2.2.2.2.2.2.2) (some (.int (spChance S r p each).1)) hp' ∧ RM (spChance S r p each).2 hp' := by
  obtain ⟨hs, hr, ht, hl⟩ := id hx
  obtain ⟨g1, g2, g3, g4, g5, g6⟩ := hs
  have hI : I 2 = nI (eN S) := g1
  have hn : eN S ≤ 6 := g2
  unfold spChance
  by_cases hn0 : eN S = 0
  · rw [if_pos hn0]
    refine ⟨_, am_ev 11 (some .int) false [35, 63] ok_M_chances am_mP_205 (by rw [am_m_205]) (by rw [am_m_205]) (fun h => by cases h) (Nat.le_of_ble_eq_true rfl) (fun Go hG => ?_), RM_of hx⟩
    refine hG 200 _ _ _ _ _ _ ?_
    refine bn_f (by rw [hI, hn0]; rfl) ?_
    exact ⟨rfl, rfl, rfl, rfl⟩
  rw [if_neg hn0]
  have hI0 : ¬ I 2 = 0 := by rw [hI]; exact fun q => hn0 ((nI_z (by omega)).mp q)
  have hwr := c_M_wrongChance hx r p
  have hor := wrCc_or S r p
  unfold refS
  by_cases hc0 : wrCc S r p = 0
  · rw [if_pos hc0]
    rw [hc0] at hwr
    unfold wrCc at hc0
    by_cases hpo : in3 p (nI 0) (nI 12) = false
    · rw [if_pos hpo] at hc0; omega
    rw [if_neg hpo] at hc0
    obtain ⟨p, hp0, hp12, rfl⟩ := in3_nat (by decide) (by decide) (bt hpo)
    obtain ⟨c1, c2, c3, c4⟩ := wrHc_0 hc0 (by decide) (by decide)
    obtain ⟨z1, z2, z3⟩ := wrHc_sz c3 (by decide) (by decide)
    obtain ⟨j, -, hj, rfl⟩ := in3_nat (by decide) (by decide) c1
    rw [nat_nI (by omega)] at c2 c3 c4 z1 z2 z3
    rw [nat_nI (by omega), nat_nI (by omega)]
    obtain ⟨q1, q2, q3⟩ := hr j (by omega)
    have q1' : F 5 j = rz S j := q1
    have hb := MBs_of hx hn0
    have hcc : ∀ i, i < nat (rz S j) → F 4 (40 * j + i) = nI (hsN (rc S j) i) := fun i hi => by
      rw [q3 i hi]
      exact (okH_nat (allH_at c4 hi)).1
    have hhh : ∀ i, i < nat (rz S j) → 1 ≤ hsN (rc S j) i ∧ hsN (rc S j) i ≤ 7 := fun i hi => (okH_nat (allH_at c4 hi)).2
    have hz : F 5 j = nI (nat (rz S j)) := by rw [q1']; exact z3
    obtain ⟨w', hl', hR⟩ := l_M_chances hb S.2.2.2.2.2.2.1 S.2.2.2.2.2.2.2 j (nat (rz S j)) hj hz z2 hcc hhh p hp12 each (nI 0) (2 ^ nat (rz S j)) 0 (F 1) (by omega) (fun _ _ => rfl) none
    rw [va_up_same] at hR
    refine ⟨_, am_ev 11 (some .int) false [35, 63] ok_M_chances am_mP_205 (by rw [am_m_205]) (by rw [am_m_205]) (fun h => by cases h) (Nat.le_of_ble_eq_true rfl) (fun Go hG => ?_), (⟨I, va_up F 1 w', rfl, RMx_try hx hl'⟩ : RM (raS S _ _) _)⟩
    have L : ∀ (i k : Nat), k + i = nat (rz S j) → Go 35 [some (.ref 0), some (.int (nI j)), some (.int (nI p)), some (.int (alI each)), some (.int (nI 0)), some (.long (lN 0)), none, some (.long (lN (12 ^ k))), none, some (.int (nI k)), none] [] (mH I F S.2.2.2.2.2.2.1 S.2.2.2.2.2.2.2) 0 0 := by
      intro i
      induction i with
      | zero =>
        intro k hk
        have h9 := hR Go hG
        refine hG 200 _ _ _ _ _ _ ?_
        refine Exists.intro j ⟨by omega, rfl, ?_⟩
        refine br_t (by rw [hz]; exact nI_le (by omega) (by omega)) ?_
        rw [show k = nat (rz S j) by omega]
        exact h9
      | succ i ih =>
        intro k hk
        have h9 := ih (k + 1) (by omega)
        rw [← nI_s1 k, Nat.pow_succ, ← lN_mul] at h9
        refine hG 200 _ _ _ _ _ _ ?_
        refine Exists.intro j ⟨by omega, rfl, ?_⟩
        refine br_f (by rw [hz]; exact nI_ge (by omega) (by omega)) ?_
        exact h9
    refine hG 200 _ _ _ _ _ _ ?_
    refine bn_t hI0 ?_
    refine Exists.intro 3 (Exists.intro _ (Exists.intro _ ⟨by decide, hwr, ?_⟩))
    refine br_t (by decide) ?_
    exact L (nat (rz S j)) 0 (by omega)
  · rw [if_neg hc0]
    refine ⟨_, am_ev 11 (some .int) false [35, 63] ok_M_chances am_mP_205 (by rw [am_m_205]) (by rw [am_m_205]) (fun h => by cases h) (Nat.le_of_ble_eq_true rfl) (fun Go hG => ?_), RM_fd hx hc0 hor⟩
    refine hG 200 _ _ _ _ _ _ ?_
    refine bn_t hI0 ?_
    refine Exists.intro 3 (Exists.intro _ (Exists.intro _ ⟨by decide, hwr, ?_⟩))
    refine br_f (wrV_neg hc0).1 ?_
    exact ⟨rfl, rfl, rfl, rfl⟩

theorem pm_M_odds (S : Sta) (hp : List Am_C) (hRM : RM S hp) (r p : Int32) : ∃ hp', Am_Ev false 5 0 0 204 [.ref 0, .int r, .int p] hp (some (.int (spChance S r p false).1)) hp' ∧ RM (spChance S r p false).2 hp' := by
  obtain ⟨I, F, rfl, hx⟩ := hRM
  obtain ⟨hp', hc, hR⟩ := c_M_chances hx r p false
  refine ⟨hp', am_ev 3 (some .int) false [] ok_M_odds am_mP_204 (by rw [am_m_204]) (by rw [am_m_204]) (fun h => by cases h) (Nat.le_of_ble_eq_true rfl) (fun Go hG => ?_), hR⟩
  refine hG 200 _ _ _ _ _ _ ?_
  refine Exists.intro 4 (Exists.intro _ (Exists.intro _ ⟨by decide, hc, ?_⟩))
  exact ⟨rfl, rfl, rfl, rfl⟩

theorem pm_M_mid (S : Sta) (hp : List Am_C) (hRM : RM S hp) (r p : Int32) : ∃ hp', Am_Ev false 5 0 0 210 [.ref 0, .int r, .int p] hp (some (.int (spChance S r p true).1)) hp' ∧ RM (spChance S r p true).2 hp' := by
  obtain ⟨I, F, rfl, hx⟩ := hRM
  obtain ⟨hp', hc, hR⟩ := c_M_chances hx r p true
  refine ⟨hp', am_ev 3 (some .int) false [] ok_M_mid am_mP_210 (by rw [am_m_210]) (by rw [am_m_210]) (fun h => by cases h) (Nat.le_of_ble_eq_true rfl) (fun Go hG => ?_), hR⟩
  refine hG 200 _ _ _ _ _ _ ?_
  refine Exists.intro 4 (Exists.intro _ (Exists.intro _ ⟨by decide, hc, ?_⟩))
  exact ⟨rfl, rfl, rfl, rfl⟩

