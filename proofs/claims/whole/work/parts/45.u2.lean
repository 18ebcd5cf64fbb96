/-! ===== the class: run, rounds ===== -/
theorem pk_eqD {n : Nat} {a b : Nat → Nat} (hn : n ≤ 6) (h1 : le15 n a) (h2 : le15 n b) : nI (pkN a n) = nI (pkN b n) ↔ eqD a b n = true := by
  rw [eqD_iff]
  constructor
  · intro h
    have l1 := pkN_24 h1 hn
    have l2 := pkN_24 h2 hn
    have := congrArg Int32.toInt h
    rw [nI_toInt (by omega), nI_toInt (by omega)] at this
    exact pkN_inj h1 h2 (by omega)
  · intro h
    rw [pkN_congr h]

theorem y_comesToDues {I : Nat → Int32} {F : Nat → Nat → Int32} {n : Nat} {kd : Nat → Nat} (hb : CBs I F n kd) (u v : Int64) {d : Nat → Nat} (ha : apart n d) {du : Nat → Nat} (ha0 : apart n du) : Am_Ev false 2 0 0 83 [.ref 14, .int (nI (pkN d n)), .int (nI (pkN du n))] (cH I F u v) (some (.int (b2 (cmS n d du)))) (cH I F u v) := by
  refine am_ev 5 (some .boolean) false [12] ok_O_comesToDues am_mP_83 (by rw [am_m_83]) (by rw [am_m_83]) (fun h => by cases h) (Nat.le_of_ble_eq_true rfl) (fun Go hG => ?_)
  have hm14 : mnS d n ≤ 15 := mnS_15 n
  have L : ∀ (i b : Nat), b + i = mnS d n + 1 → (∀ b', b' < b → eqD (latS b' d) du n = false) → Go 12 [some (.ref 14), some (.int (nI (pkN d n))), some (.int (nI (pkN du n))), some (.int (nI (mnS d n))), some (.int (nI b))] [] (cH I F u v) 0 0 := by
    intro i
    induction i with
    | zero =>
      intro b hbi hno
      refine hG 200 _ _ _ _ _ _ ?_
      refine br_t (nI_lt (by omega) (by omega)) ?_
      have e : cmS n d du = false := anyN_no (fun k hk => hno k (by omega))
      exact ⟨Or.inl rfl, by rw [e]; rfl, rfl, rfl, rfl⟩
    | succ i ih =>
      intro b hbi hno
      have hlat : ∀ k, k < n → b ≤ d k := fun k hk => by have := mnS_le (du := d) hk; omega
      have hcl := y_later hb u v b hlat
      have hiff := pk_eqD hb.2.1 (le15_of (apart_lat ha hlat)) (le15_of ha0)
      refine hG 200 _ _ _ _ _ _ ?_
      refine br_f (nI_nlt (by omega) (by omega)) ?_
      refine Exists.intro 0 (Exists.intro _ (Exists.intro _ ⟨by decide, hcl, ?_⟩))
      refine And.intro (fun h1 => ?_) (fun h1 => ?_)
      · have h9 := ih (b + 1) (by omega) (fun b' hb' => by
          by_cases e : b' = b
          · rw [e]
            cases q : eqD (latS b d) du n with
            | false => rfl
            | true => exact absurd (hiff.mpr q) h1
          · exact hno b' (by omega))
        rw [← nI_s1 b] at h9
        exact h9
      · have e : cmS n d du = true := anyN_iff.mpr ⟨b, by omega, hiff.mp h1⟩
        exact ⟨Or.inr rfl, by rw [e]; rfl, rfl, rfl, rfl⟩
  refine hG 200 _ _ _ _ _ _ ?_
  refine Exists.intro 1 (Exists.intro _ (Exists.intro _ ⟨by decide, y_rests hb u v ha, ?_⟩))
  exact L (mnS d n + 1) 0 (by omega) (fun b' hb' => absurd hb' (Nat.not_lt_zero _))

theorem l_O_rounds {I : Nat → Int32} {F : Nat → Nat → Int32} {n : Nat} {kd : Nat → Nat} (hb : CBs I F n kd) (u v : Int64) {hs : Nat → Nat} (r z : Nat) (hr6 : r ≤ 5) (hz : I (60 + r) = nI z) (hz40 : z ≤ 40) (hc : ∀ i, i < z → F (19 + 2 * r) i = nI (hs i)) (hh : ∀ i, i < z → 1 ≤ hs i ∧ hs i ≤ 7) {du : Nat → Nat} (ha0 : apart n du) : ∀ (j q : Nat) (x : Int32) (d : Nat → Nat), q + j = 101 → apart n d → ∃ x', Rch cd_O_roundsBack [5, 45] 4 (some .int) 5 [some (.ref 14), some (.int (nI (pkN du n))), some (.ref (18 + 2 * r)), some (.int (nI (pkN d n))), some (.int (nI q))] [] (cH (upd I 23 x) F u v) (some (.int (rdS n kd hs z du j q d))) (cH (upd I 23 x') F u v) := by
  have hkd : kdok n kd := fun i q => (hb.2.2.2 i q).2
  have E1 : ∀ x, (cH (upd I 23 x) F u v)[18 + 2 * r]? = some (.inr (4, [.ref (19 + 2 * r), .int (nI z)])) := fun x => by rw [cH_row (by omega), pk_un (by omega), hz]
  intro j
  induction j with
  | zero =>
    intro q x d hq ha
    refine ⟨x, fun Go hG => ?_⟩
    refine hG 200 _ _ _ _ _ _ ?_
    refine br_t (nI_lt (by omega) (by omega)) ?_
    exact ⟨rfl, rfl, rfl, rfl⟩
  | succ j ih =>
    intro q x d hq ha
    have hb1 : CBs (upd I 23 x) F n kd := hb
    have hth := y_throwsMade hb1 u v r z hr6 (by rw [pk_un (by omega)]; exact hz) hz40 hc hh ha _ rfl
    obtain ⟨ha1, l1, l2⟩ := thS_ok hkd z 0 d (fun i h1 h2 => hh i (by omega)) ha
    unfold rdS
    generalize hT : thS n kd hs z 0 d = T at hth ha1 l1 l2 ⊢
    obtain ⟨m, d1⟩ := T
    have l2' : m ≤ z := by have : m ≤ 0 + z := l2; omega
    by_cases hall : m = z
    · rw [if_pos hall]
      have hb2 : CBs (upd I 23 (nI (pkN d1 n))) F n kd := hb
      have hcm := y_comesToDues hb2 u v ha1 ha0
      cases hcc : cmS n d1 du with
      | true =>
        rw [if_pos rfl]
        rw [hcc] at hcm
        refine ⟨(nI (pkN d1 n)), fun Go hG => ?_⟩
        refine hG 200 _ _ _ _ _ _ ?_
        refine br_f (nI_nlt (by omega) (by omega)) ?_
        refine Exists.intro 3 (Exists.intro _ (Exists.intro _ ⟨by decide, hth, ?_⟩))
        refine am_ob_of (E1 (nI (pkN d1 n))) ?_
        refine br_t (by show nI z ≤ nI m; exact nI_le (by omega) (by omega)) ?_
        refine Exists.intro 2 (Exists.intro _ (Exists.intro _ ⟨by decide, hcm, ?_⟩))
        refine br_f (by decide) ?_
        exact ⟨rfl, rfl, rfl, rfl⟩
      | false =>
        rw [if_neg (by decide)]
        rw [hcc] at hcm
        obtain ⟨x', hR⟩ := ih (q + 1) (nI (pkN d1 n)) d1 (by omega) ha1
        refine ⟨x', fun Go hG => ?_⟩
        have h9 := hR Go hG
        rw [← nI_s1 q] at h9
        refine hG 200 _ _ _ _ _ _ ?_
        refine br_f (nI_nlt (by omega) (by omega)) ?_
        refine Exists.intro 3 (Exists.intro _ (Exists.intro _ ⟨by decide, hth, ?_⟩))
        refine am_ob_of (E1 (nI (pkN d1 n))) ?_
        refine br_t (by show nI z ≤ nI m; exact nI_le (by omega) (by omega)) ?_
        refine Exists.intro 2 (Exists.intro _ (Exists.intro _ ⟨by decide, hcm, ?_⟩))
        refine br_t rfl ?_
        refine hG 200 _ _ _ _ _ _ ?_
        exact h9
    · rw [if_neg hall]
      refine ⟨(nI (pkN d1 n)), fun Go hG => ?_⟩
      refine hG 200 _ _ _ _ _ _ ?_
      refine br_f (nI_nlt (by omega) (by omega)) ?_
      refine Exists.intro 3 (Exists.intro _ (Exists.intro _ ⟨by decide, hth, ?_⟩))
      refine am_ob_of (E1 (nI (pkN d1 n))) ?_
      refine br_f (by show ¬ nI z ≤ nI m; exact nI_ge (by omega) (by omega)) ?_
      exact ⟨rfl, rfl, rfl, rfl⟩

theorem pc_T_run (S : Sta) (hp : List Am_C) (hRM : RC S hp) (r : Int32) : ∃ hp', Am_Ev false 6 0 0 76 [.ref 0, .int r] hp (some (.int (spRun S r).1)) hp' ∧ RC (spRun S r).2 hp' := by
  obtain ⟨I, F, rfl, hx⟩ := hRM
  obtain ⟨hs, hr, ht, hl⟩ := id hx
  unfold spRun
  by_cases hn0 : eN S = 0
  · rw [if_pos hn0]
    have hI : I 22 = nI (eN S) := hs.1
    have hrf : Am_Ev false 2 0 0 77 [.ref 0, .int r, .int (nI 0), .int (nI 20)] (cH I F S.2.2.2.2.2.2.1 S.2.2.2.2.2.2.2) (some (.int (-nI 4))) (cH I F S.2.2.2.2.2.2.1 S.2.2.2.2.2.2.2) := by
      refine am_ev 7 (some .int) false [63] ok_T_refusalOfThrows am_mP_77 (by rw [am_m_77]) (by rw [am_m_77]) (fun h => by cases h) (Nat.le_of_ble_eq_true rfl) (fun Go hG => ?_)
      refine hG 200 _ _ _ _ _ _ ?_
      refine bn_f (by rw [hI, hn0]; rfl) ?_
      exact ⟨rfl, rfl, rfl, rfl⟩
    refine ⟨_, am_ev 4 (some .int) false [] ok_T_run am_mP_76 (by rw [am_m_76]) (by rw [am_m_76]) (fun h => by cases h) (Nat.le_of_ble_eq_true rfl) (fun Go hG => ?_), RC_of hx⟩
    refine hG 200 _ _ _ _ _ _ ?_
    refine Exists.intro 2 (Exists.intro _ (Exists.intro _ ⟨by decide, hrf, ?_⟩))
    refine br_f (by decide) ?_
    exact ⟨rfl, rfl, rfl, rfl⟩
  · rw [if_neg hn0]
    have hwr := c_T_refusalOfThrows hx hn0 r 0 20 (by decide) (by decide)
    have hor := wrHc_or S r 0 20
    unfold refS
    by_cases hc0 : wrHc S r 0 20 = 0
    · rw [if_pos hc0]
      obtain ⟨c1, c2, c3, c4⟩ := wrHc_0 hc0 (by decide) (by decide)
      obtain ⟨z1, z2, z3⟩ := wrHc_sz c3 (by decide) (by decide)
      rw [hc0] at hwr
      obtain ⟨j, -, hj, rfl⟩ := in3_nat (by decide) (by decide) c1
      rw [nat_nI (by omega)] at c2 c3 c4 z1 z2 z3
      obtain ⟨q1, q2, q3⟩ := hr j (by omega)
      have q1' : I (60 + j) = rz S j := q1
      have hb := CBs_of hx hn0
      have hcc : ∀ i, i < nat (rz S j) → F (19 + 2 * j) i = nI (hsN (rc S j) i) := fun i hi => by
        rw [q3 i hi]
        exact (okH_nat (allH_at c4 hi)).1
      have hhh : ∀ i, i < nat (rz S j) → 1 ≤ hsN (rc S j) i ∧ hsN (rc S j) i ≤ 7 := fun i hi => (okH_nat (allH_at c4 hi)).2
      have hz : I (60 + j) = nI (nat (rz S j)) := by rw [q1']; exact z3
      have hap : apart (eN S) (duE (eE S)) := hs.2.2.2.2.1 _ (Nat.le_refl _)
      have h30 : I 30 = nI (pkN (duE (eE S)) (eN S)) := hs.2.2.2.1.2.2.1
      have hkd : kdok (eN S) (eK S) := fun i q => (hb.2.2.2 i q).2
      have hsp : spTh S (nI j) = thS (eN S) (eK S) (hsN (rc S j)) (nat (rz S j)) 0 (duE (eE S)) := by unfold spTh; rw [nat_nI (by omega)]
      rw [hsp]
      have hth := y_throwsMade hb S.2.2.2.2.2.2.1 S.2.2.2.2.2.2.2 j (nat (rz S j)) hj hz (by omega) hcc hhh hap _ rfl
      rw [← h30] at hth
      have ha1 := (thS_ok hkd (nat (rz S j)) 0 _ (fun i h1 h2 => hhh i (by omega)) hap).1
      generalize hT : thS (eN S) (eK S) (hsN (rc S j)) (nat (rz S j)) 0 (duE (eE S)) = T at hth ha1 ⊢
      have hb2 : CBs (upd I 23 (nI (pkN T.2 (eN S)))) F (eN S) (eK S) := hb
      have hsk := y_sky hb2 S.2.2.2.2.2.2.1 S.2.2.2.2.2.2.2 ha1
      have hx2 : RCx (upd I 23 (nI (pkN T.2 (eN S)))) F S := by
        have h := RCx_try hx (nI (pkN T.2 (eN S))) (I 24) (F 15)
        rw [va_up_same] at h
        have e : upd (upd I 23 (nI (pkN T.2 (eN S)))) 24 (I 24) = upd I 23 (nI (pkN T.2 (eN S))) := by
          funext q
          by_cases e : q = 24
          · rw [e, pk_us, pk_un (by omega)]
          · rw [pk_un e]
        rw [e] at h
        exact h
      refine ⟨_, am_ev 4 (some .int) false [] ok_T_run am_mP_76 (by rw [am_m_76]) (by rw [am_m_76]) (fun h => by cases h) (Nat.le_of_ble_eq_true rfl) (fun Go hG => ?_), RC_tell hx2 _⟩
      refine hG 200 _ _ _ _ _ _ ?_
      refine Exists.intro 2 (Exists.intro _ (Exists.intro _ ⟨by decide, hwr, ?_⟩))
      refine br_t rfl ?_
      refine Exists.intro j (Exists.intro (18 + 2 * j) ⟨by omega, rfl, rfR_at (by omega), ?_⟩)
      refine Exists.intro 3 (Exists.intro _ (Exists.intro _ ⟨by decide, hth, ?_⟩))
      refine Exists.intro 1 (Exists.intro _ (Exists.intro _ ⟨by decide, hsk, ?_⟩))
      refine Exists.intro 0 (Exists.intro _ (Exists.intro _ ⟨by decide, c_T_tell (upd I 23 (nI (pkN T.2 (eN S)))) F S.2.2.2.2.2.2.1 S.2.2.2.2.2.2.2 _, ?_⟩))
      exact ⟨rfl, rfl, rfl, rfl⟩
    · rw [if_neg hc0]
      refine ⟨_, am_ev 4 (some .int) false [] ok_T_run am_mP_76 (by rw [am_m_76]) (by rw [am_m_76]) (fun h => by cases h) (Nat.le_of_ble_eq_true rfl) (fun Go hG => ?_), RC_fd hx hc0 hor⟩
      refine hG 200 _ _ _ _ _ _ ?_
      refine Exists.intro 2 (Exists.intro _ (Exists.intro _ ⟨by decide, hwr, ?_⟩))
      refine br_f (wrV_neg hc0).2 ?_
      exact ⟨rfl, rfl, rfl, rfl⟩

theorem RCx_23 {I : Nat → Int32} {F : Nat → Nat → Int32} {S : Sta} (hx : RCx I F S) (x : Int32) : RCx (upd I 23 x) F S := by
  have h := RCx_try hx x (I 24) (F 15)
  rw [va_up_same] at h
  have e : upd (upd I 23 x) 24 (I 24) = upd I 23 x := by
    funext q
    by_cases e : q = 24
    · rw [e, pk_us, pk_un (by omega)]
    · rw [pk_un e]
  rw [e] at h
  exact h

theorem pc_T_rounds (S : Sta) (hp : List Am_C) (hRM : RC S hp) (r : Int32) : ∃ hp', Am_Ev false 6 0 0 81 [.ref 0, .int r] hp (some (.int (spRounds S r).1)) hp' ∧ RC (spRounds S r).2 hp' := by
  obtain ⟨I, F, rfl, hx⟩ := hRM
  obtain ⟨hs, hr, ht, hl⟩ := id hx
  unfold spRounds
  by_cases hn0 : eN S = 0
  · rw [if_pos hn0]
    have hI : I 22 = nI (eN S) := hs.1
    have hrf : Am_Ev false 2 0 0 77 [.ref 0, .int r, .int (nI 1), .int (nI 20)] (cH I F S.2.2.2.2.2.2.1 S.2.2.2.2.2.2.2) (some (.int (-nI 4))) (cH I F S.2.2.2.2.2.2.1 S.2.2.2.2.2.2.2) := by
      refine am_ev 7 (some .int) false [63] ok_T_refusalOfThrows am_mP_77 (by rw [am_m_77]) (by rw [am_m_77]) (fun h => by cases h) (Nat.le_of_ble_eq_true rfl) (fun Go hG => ?_)
      refine hG 200 _ _ _ _ _ _ ?_
      refine bn_f (by rw [hI, hn0]; rfl) ?_
      exact ⟨rfl, rfl, rfl, rfl⟩
    refine ⟨_, am_ev 3 (some .int) false [] ok_T_rounds am_mP_81 (by rw [am_m_81]) (by rw [am_m_81]) (fun h => by cases h) (Nat.le_of_ble_eq_true rfl) (fun Go hG => ?_), RC_of hx⟩
    refine hG 200 _ _ _ _ _ _ ?_
    refine Exists.intro 2 (Exists.intro _ (Exists.intro _ ⟨by decide, hrf, ?_⟩))
    refine br_f (by decide) ?_
    exact ⟨rfl, rfl, rfl, rfl⟩
  · rw [if_neg hn0]
    have hwr := c_T_refusalOfThrows hx hn0 r 1 20 (by decide) (by decide)
    have hor := wrHc_or S r 1 20
    unfold refS
    by_cases hc0 : wrHc S r 1 20 = 0
    · rw [if_pos hc0]
      obtain ⟨c1, c2, c3, c4⟩ := wrHc_0 hc0 (by decide) (by decide)
      obtain ⟨z1, z2, z3⟩ := wrHc_sz c3 (by decide) (by decide)
      rw [hc0] at hwr
      obtain ⟨j, -, hj, rfl⟩ := in3_nat (by decide) (by decide) c1
      rw [nat_nI (by omega)] at c2 c3 c4 z1 z2 z3
      obtain ⟨q1, q2, q3⟩ := hr j (by omega)
      have q1' : I (60 + j) = rz S j := q1
      have hb := CBs_of hx hn0
      have hcc : ∀ i, i < nat (rz S j) → F (19 + 2 * j) i = nI (hsN (rc S j) i) := fun i hi => by
        rw [q3 i hi]
        exact (okH_nat (allH_at c4 hi)).1
      have hhh : ∀ i, i < nat (rz S j) → 1 ≤ hsN (rc S j) i ∧ hsN (rc S j) i ≤ 7 := fun i hi => (okH_nat (allH_at c4 hi)).2
      have hz : I (60 + j) = nI (nat (rz S j)) := by rw [q1']; exact z3
      have hap : apart (eN S) (duE (eE S)) := hs.2.2.2.2.1 _ (Nat.le_refl _)
      have h30 : I 30 = nI (pkN (duE (eE S)) (eN S)) := hs.2.2.2.1.2.2.1
      have hkd : kdok (eN S) (eK S) := fun i q => (hb.2.2.2 i q).2
      rw [nat_nI (by omega)]
      obtain ⟨x', hR⟩ := l_O_rounds hb S.2.2.2.2.2.2.1 S.2.2.2.2.2.2.2 j (nat (rz S j)) hj hz (by omega) hcc hhh hap 100 1 (I 23) _ (by omega) hap
      have hth : Am_Ev false 4 0 0 82 [.ref 14, .int (nI (pkN (duE (eE S)) (eN S))), .ref (18 + 2 * j)] (cH I F S.2.2.2.2.2.2.1 S.2.2.2.2.2.2.2) (some (.int (rdS (eN S) (eK S) (hsN (rc S j)) (nat (rz S j)) (duE (eE S)) 100 1 (duE (eE S))))) (cH (upd I 23 x') F S.2.2.2.2.2.2.1 S.2.2.2.2.2.2.2) := by
        refine am_ev 5 (some .int) false [5, 45] ok_O_roundsBack am_mP_82 (by rw [am_m_82]) (by rw [am_m_82]) (fun h => by cases h) (Nat.le_of_ble_eq_true rfl) (fun Go hG => ?_)
        refine hG 200 _ _ _ _ _ _ ?_
        exact hR Go hG
      rw [← h30] at hth
      refine ⟨_, am_ev 3 (some .int) false [] ok_T_rounds am_mP_81 (by rw [am_m_81]) (by rw [am_m_81]) (fun h => by cases h) (Nat.le_of_ble_eq_true rfl) (fun Go hG => ?_), RC_of (RCx_23 hx x')⟩
      refine hG 200 _ _ _ _ _ _ ?_
      refine Exists.intro 2 (Exists.intro _ (Exists.intro _ ⟨by decide, hwr, ?_⟩))
      refine br_t rfl ?_
      refine Exists.intro j (Exists.intro (18 + 2 * j) ⟨by omega, rfl, rfR_at (by omega), ?_⟩)
      refine Exists.intro 4 (Exists.intro _ (Exists.intro _ ⟨by decide, hth, ?_⟩))
      exact ⟨rfl, rfl, rfl, rfl⟩
    · rw [if_neg hc0]
      refine ⟨_, am_ev 3 (some .int) false [] ok_T_rounds am_mP_81 (by rw [am_m_81]) (by rw [am_m_81]) (fun h => by cases h) (Nat.le_of_ble_eq_true rfl) (fun Go hG => ?_), RC_fd hx hc0 hor⟩
      refine hG 200 _ _ _ _ _ _ ?_
      refine Exists.intro 2 (Exists.intro _ (Exists.intro _ ⟨by decide, hwr, ?_⟩))
      refine br_f (wrV_neg hc0).2 ?_
      exact ⟨rfl, rfl, rfl, rfl⟩

