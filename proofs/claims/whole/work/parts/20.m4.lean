/-! ===== the reference's public methods: rows, texts ===== -/
def RMx (I : Nat → Int32) (F : Nat → Nat → Int32) (S : Sta) : Prop := skyM I F S.1 ∧ rowM F S.2.1 ∧ txtM F S.2.2.1 ∧ tldM I F S.2.2.2
theorem RM_fnd {I : Nat → Int32} {F : Nat → Nat → Int32} {S : Sta} (h : RMx I F S) {f : Nat} (hf : f < 6) : RM (fndS S f) (mH (upd I 11 (nI f)) (va_up F 8 (upd (F 8) f (F 8 f + nI 1))) S.2.2.2.2.2.2.1 S.2.2.2.2.2.2.2) := by
  obtain ⟨hs, hr, ht, h8, h11, h12⟩ := h
  refine ⟨_, _, rfl, hs, hr, ht, h8, rfl, fun q hq => ?_⟩
  show upd (F 8) f (F 8 f + nI 1) q = upd S.2.2.2.2.2.1 f (S.2.2.2.2.2.1 f + nI 1) q
  unfold upd
  rw [h12 f hf, h12 q hq]
theorem RM_tell {I : Nat → Int32} {F : Nat → Nat → Int32} {S : Sta} (h : RMx I F S) (x : Int32) : RM (tellS S x) (mH (upd I 8 x) F S.2.2.2.2.2.2.1 S.2.2.2.2.2.2.2) := by
  obtain ⟨hs, hr, ht, h8, h11, h12⟩ := h
  exact ⟨_, _, rfl, hs, hr, ht, rfl, h11, h12⟩
theorem RM_of {I : Nat → Int32} {F : Nat → Nat → Int32} {S : Sta} (h : RMx I F S) : RM S (mH I F S.2.2.2.2.2.2.1 S.2.2.2.2.2.2.2) := ⟨I, F, rfl, h⟩
theorem nat_m1 : nat (-nI 1) = 0 := by decide
theorem nI_idx (m r i : Nat) : nI m * nI r + nI i = nI (m * r + i) := by rw [pk_mul, nI_add]
theorem sz_in {z : Int32} {k i : Nat} (hz : z = nI k) (hk : k < 2 ^ 31) (h : in3 (nI i) (nI 0) (z - nI 1) = true) (hi : i < 2 ^ 31) : i < k := by
  subst hz
  unfold in3 at h
  rw [Bool.and_eq_true, decide_eq_true_eq, decide_eq_true_eq] at h
  rcases Nat.eq_zero_or_pos k with h0 | h0
  · subst h0
    exfalso
    have h1 := Int32.le_trans h.1 h.2
    exact absurd h1 (by decide)
  · rw [pk_sub (by omega)] at h
    have h2 := (nI_leI hi (by omega)).mp h.2
    omega
theorem in3_nat2 {x z : Int32} {k : Nat} (hk : k < 2 ^ 31) (hz : z = nI k) (h : in3 x (nI 0) (z - nI 1) = true) : ∃ i, i < k ∧ x = nI i := by
  have h0 : ¬ x < 0 := by
    unfold in3 at h
    rw [Bool.and_eq_true, decide_eq_true_eq, decide_eq_true_eq] at h
    intro q
    exact absurd (Int32.lt_of_lt_of_le q h.1) Int32.lt_irrefl
  obtain ⟨i, hi, rfl⟩ := nI_of h0
  exact ⟨i, sz_in hz hk h hi, rfl⟩

theorem c_M_wrongPlace_a (I : Nat → Int32) (F : Nat → Nat → Int32) (u v : Int64) (r i : Int32) (h1 : in3 r (nI 0) (nI 5) = false) : Am_Ev false 2 0 0 137 [.ref 0, .int r, .int i] (mH I F u v) (some (.int (-nI 1))) (mH I F u v) := by
  refine am_ev 3 (some .int) false [] ok_M_wrongPlace am_mP_137 (by rw [am_m_137]) (by rw [am_m_137]) (fun h => by cases h) (Nat.le_of_ble_eq_true rfl) ?_
  intro Go hG
  refine hG 200 _ _ _ _ _ _ ?_
  have hc := c_M_isRow (mH I F u v) r
  rw [h1] at hc
  refine Exists.intro 1 (Exists.intro _ (Exists.intro _ ⟨by decide, hc, ?_⟩))
  clear hc
  refine bn_f rfl ?_
  exact ⟨rfl, rfl, rfl, rfl⟩

theorem c_M_wrongPlace_b (I : Nat → Int32) (F : Nat → Nat → Int32) (u v : Int64) (r : Nat) (i : Int32) (h1 : r ≤ 5) (h2 : F 5 r < 0) : Am_Ev false 2 0 0 137 [.ref 0, .int (nI r), .int i] (mH I F u v) (some (.int (-nI 3))) (mH (upd I 11 (nI 1)) (va_up F 8 (upd (F 8) 1 (F 8 1 + nI 1))) u v) := by
  refine am_ev 3 (some .int) false [] ok_M_wrongPlace am_mP_137 (by rw [am_m_137]) (by rw [am_m_137]) (fun h => by cases h) (Nat.le_of_ble_eq_true rfl) ?_
  intro Go hG
  refine hG 200 _ _ _ _ _ _ ?_
  have hc := c_M_isRow (mH I F u v) (nI r)
  rw [in3_nI (by omega) (by omega) h1] at hc
  refine Exists.intro 1 (Exists.intro _ (Exists.intro _ ⟨by decide, hc, ?_⟩))
  clear hc
  refine bn_t (by decide) ?_
  refine Exists.intro r ⟨by omega, rfl, ?_⟩
  refine br_f (Int32.not_le.mpr h2) ?_
  refine Exists.intro 0 (Exists.intro _ (Exists.intro _ ⟨by decide, c_M_found I F u v 1 (by decide), ?_⟩))
  exact ⟨rfl, rfl, rfl, rfl⟩

theorem c_M_wrongPlace_c (I : Nat → Int32) (F : Nat → Nat → Int32) (u v : Int64) (r : Nat) (i : Int32) (h1 : r ≤ 5) (h2 : ¬ F 5 r < 0) (h3 : in3 i (nI 0) (F 5 r - nI 1) = false) : Am_Ev false 2 0 0 137 [.ref 0, .int (nI r), .int i] (mH I F u v) (some (.int (-nI 3))) (mH (upd I 11 (nI 2)) (va_up F 8 (upd (F 8) 2 (F 8 2 + nI 1))) u v) := by
  refine am_ev 3 (some .int) false [] ok_M_wrongPlace am_mP_137 (by rw [am_m_137]) (by rw [am_m_137]) (fun h => by cases h) (Nat.le_of_ble_eq_true rfl) ?_
  intro Go hG
  refine hG 200 _ _ _ _ _ _ ?_
  have hc := c_M_isRow (mH I F u v) (nI r)
  rw [in3_nI (by omega) (by omega) h1] at hc
  refine Exists.intro 1 (Exists.intro _ (Exists.intro _ ⟨by decide, hc, ?_⟩))
  clear hc
  refine bn_t (by decide) ?_
  refine Exists.intro r ⟨by omega, rfl, ?_⟩
  refine br_t (Int32.not_lt.mp h2) ?_
  refine Exists.intro r ⟨by omega, rfl, ?_⟩
  have hc := c_M_in (mH I F u v) i (nI 0) (F 5 r - nI 1)
  rw [h3] at hc
  refine Exists.intro 0 (Exists.intro _ (Exists.intro _ ⟨by decide, hc, ?_⟩))
  clear hc
  refine bn_f rfl ?_
  refine Exists.intro 0 (Exists.intro _ (Exists.intro _ ⟨by decide, c_M_found I F u v 2 (by decide), ?_⟩))
  exact ⟨rfl, rfl, rfl, rfl⟩

theorem c_M_wrongPlace_d (I : Nat → Int32) (F : Nat → Nat → Int32) (u v : Int64) (r : Nat) (i : Int32) (h1 : r ≤ 5) (h2 : ¬ F 5 r < 0) (h3 : in3 i (nI 0) (F 5 r - nI 1) = true) : Am_Ev false 2 0 0 137 [.ref 0, .int (nI r), .int i] (mH I F u v) (some (.int (nI 0))) (mH I F u v) := by
  refine am_ev 3 (some .int) false [] ok_M_wrongPlace am_mP_137 (by rw [am_m_137]) (by rw [am_m_137]) (fun h => by cases h) (Nat.le_of_ble_eq_true rfl) ?_
  intro Go hG
  refine hG 200 _ _ _ _ _ _ ?_
  have hc := c_M_isRow (mH I F u v) (nI r)
  rw [in3_nI (by omega) (by omega) h1] at hc
  refine Exists.intro 1 (Exists.intro _ (Exists.intro _ ⟨by decide, hc, ?_⟩))
  clear hc
  refine bn_t (by decide) ?_
  refine Exists.intro r ⟨by omega, rfl, ?_⟩
  refine br_t (Int32.not_lt.mp h2) ?_
  refine Exists.intro r ⟨by omega, rfl, ?_⟩
  have hc := c_M_in (mH I F u v) i (nI 0) (F 5 r - nI 1)
  rw [h3] at hc
  refine Exists.intro 0 (Exists.intro _ (Exists.intro _ ⟨by decide, hc, ?_⟩))
  clear hc
  refine bn_t (by decide) ?_
  exact ⟨rfl, rfl, rfl, rfl⟩

theorem pm_M_at (S : Sta) (hp : List Am_C) (h : RM S hp) (r i : Int32) : ∃ hp', Am_Ev false 4 0 0 139 [.ref 0, .int r, .int i] hp (some (.int (spAt S r i).1)) hp' ∧ RM (spAt S r i).2 hp' := by
  obtain ⟨I, F, rfl, hx⟩ := h
  obtain ⟨hs, hr, ht, hl⟩ := id hx
  unfold spAt wrP wrR
  cases ho : okR r with
  | false =>
    rw [if_pos rfl]
    refine ⟨_, am_ev 4 (some .int) false [] ok_M_at am_mP_139 (by rw [am_m_139]) (by rw [am_m_139]) (fun h => by cases h) (Nat.le_of_ble_eq_true rfl) (fun Go hG => ?_), RM_of hx⟩
    refine hG 200 _ _ _ _ _ _ ?_
    refine Exists.intro 2 (Exists.intro _ (Exists.intro _ ⟨by decide, c_M_wrongPlace_a I F _ _ r i ho, ?_⟩))
    refine br_f (by decide) ?_
    exact ⟨rfl, rfl, rfl, rfl⟩
  | true =>
    rw [if_neg (by decide)]
    obtain ⟨j, -, hj, rfl⟩ := in3_nat (by decide) (by decide) ho
    rw [nat_nI (by omega)]
    obtain ⟨hr1, hr2, hr3⟩ := hr j (by omega)
    have hr1' : F 5 j = rz S j := hr1
    rcases szOk_neg (by decide) hr2 with ⟨e0, e1, e2⟩ | ⟨k, hk, e0, e1, e2⟩
    · have e1' : rz S j < 0 := e1
      rw [if_pos e1']
      refine ⟨_, am_ev 4 (some .int) false [] ok_M_at am_mP_139 (by rw [am_m_139]) (by rw [am_m_139]) (fun h => by cases h) (Nat.le_of_ble_eq_true rfl) (fun Go hG => ?_), RM_fnd hx (by decide)⟩
      refine hG 200 _ _ _ _ _ _ ?_
      refine Exists.intro 2 (Exists.intro _ (Exists.intro _ ⟨by decide, c_M_wrongPlace_b I F _ _ j i hj (by rw [hr1]; exact e1), ?_⟩))
      refine br_f (by decide) ?_
      exact ⟨rfl, rfl, rfl, rfl⟩
    · have e1' : ¬ rz S j < 0 := e1
      rw [if_neg e1']
      cases hi : in3 i (nI 0) (rz S j - nI 1) with
      | false =>
        rw [if_pos rfl]
        refine ⟨_, am_ev 4 (some .int) false [] ok_M_at am_mP_139 (by rw [am_m_139]) (by rw [am_m_139]) (fun h => by cases h) (Nat.le_of_ble_eq_true rfl) (fun Go hG => ?_), RM_fnd hx (by decide)⟩
        refine hG 200 _ _ _ _ _ _ ?_
        refine Exists.intro 2 (Exists.intro _ (Exists.intro _ ⟨by decide, c_M_wrongPlace_c I F _ _ j i hj (by rw [hr1]; exact e1) (by rw [hr1']; exact hi), ?_⟩))
        refine br_f (by decide) ?_
        exact ⟨rfl, rfl, rfl, rfl⟩
      | true =>
        rw [if_neg (by decide)]
        obtain ⟨q, hq, rfl⟩ := in3_nat2 (k := k) (by omega) e0 hi
        rw [nat_nI (by omega)]
        have hnk : nat (S.2.1.1 j) = k := by
          have e0' : S.2.1.1 j = nI k := e0
          rw [e0', nat_nI (by omega)]
        have hq3 := hr3 q (by rw [hnk]; exact hq)
        refine ⟨_, am_ev 4 (some .int) false [] ok_M_at am_mP_139 (by rw [am_m_139]) (by rw [am_m_139]) (fun h => by cases h) (Nat.le_of_ble_eq_true rfl) (fun Go hG => ?_), RM_tell hx (rc S j q)⟩
        refine hG 200 _ _ _ _ _ _ ?_
        refine Exists.intro 2 (Exists.intro _ (Exists.intro _ ⟨by decide, c_M_wrongPlace_d I F _ _ j (nI q) hj (by rw [hr1]; exact e1) (by rw [hr1']; exact hi), ?_⟩))
        refine br_t (by decide) ?_
        refine Exists.intro (40 * j + q) ⟨by omega, nI_idx 40 j q, ?_⟩
        have hq4 : F 4 (40 * j + q) = rc S j q := hq3
        rw [hq4]
        refine Exists.intro 0 (Exists.intro _ (Exists.intro _ ⟨by decide, c_M_tell I F S.2.2.2.2.2.2.1 S.2.2.2.2.2.2.2 (rc S j q), ?_⟩))
        exact ⟨rfl, rfl, rfl, rfl⟩

theorem pm_M_lay (S : Sta) (hp : List Am_C) (h : RM S hp) (r i x : Int32) : ∃ hp', Am_Ev false 4 0 0 136 [.ref 0, .int r, .int i, .int x] hp (some (.int (spLay S r i x).1)) hp' ∧ RM (spLay S r i x).2 hp' := by
  obtain ⟨I, F, rfl, hx⟩ := h
  obtain ⟨hs, hr, ht, hl⟩ := id hx
  unfold spLay wrP wrR
  cases ho : okR r with
  | false =>
    rw [if_pos rfl]
    refine ⟨_, am_ev 6 (some .int) false [] ok_M_lay am_mP_136 (by rw [am_m_136]) (by rw [am_m_136]) (fun h => by cases h) (Nat.le_of_ble_eq_true rfl) (fun Go hG => ?_), RM_of hx⟩
    refine hG 200 _ _ _ _ _ _ ?_
    refine Exists.intro 2 (Exists.intro _ (Exists.intro _ ⟨by decide, c_M_wrongPlace_a I F _ _ r i ho, ?_⟩))
    refine br_f (by decide) ?_
    exact ⟨rfl, rfl, rfl, rfl⟩
  | true =>
    rw [if_neg (by decide)]
    obtain ⟨j, -, hj, rfl⟩ := in3_nat (by decide) (by decide) ho
    rw [nat_nI (by omega)]
    obtain ⟨hr1, hr2, hr3⟩ := hr j (by omega)
    have hr1' : F 5 j = rz S j := hr1
    rcases szOk_neg (by decide) hr2 with ⟨e0, e1, e2⟩ | ⟨k, hk, e0, e1, e2⟩
    · have e1' : rz S j < 0 := e1
      rw [if_pos e1']
      refine ⟨_, am_ev 6 (some .int) false [] ok_M_lay am_mP_136 (by rw [am_m_136]) (by rw [am_m_136]) (fun h => by cases h) (Nat.le_of_ble_eq_true rfl) (fun Go hG => ?_), RM_fnd hx (by decide)⟩
      refine hG 200 _ _ _ _ _ _ ?_
      refine Exists.intro 2 (Exists.intro _ (Exists.intro _ ⟨by decide, c_M_wrongPlace_b I F _ _ j i hj (by rw [hr1]; exact e1), ?_⟩))
      refine br_f (by decide) ?_
      exact ⟨rfl, rfl, rfl, rfl⟩
    · have e1' : ¬ rz S j < 0 := e1
      rw [if_neg e1']
      cases hi : in3 i (nI 0) (rz S j - nI 1) with
      | false =>
        rw [if_pos rfl]
        refine ⟨_, am_ev 6 (some .int) false [] ok_M_lay am_mP_136 (by rw [am_m_136]) (by rw [am_m_136]) (fun h => by cases h) (Nat.le_of_ble_eq_true rfl) (fun Go hG => ?_), RM_fnd hx (by decide)⟩
        refine hG 200 _ _ _ _ _ _ ?_
        refine Exists.intro 2 (Exists.intro _ (Exists.intro _ ⟨by decide, c_M_wrongPlace_c I F _ _ j i hj (by rw [hr1]; exact e1) (by rw [hr1']; exact hi), ?_⟩))
        refine br_f (by decide) ?_
        exact ⟨rfl, rfl, rfl, rfl⟩
      | true =>
        rw [if_neg (by decide)]
        obtain ⟨q, hq, rfl⟩ := in3_nat2 (k := k) (by omega) e0 hi
        rw [nat_nI (by omega)]
        have hnk : nat (S.2.1.1 j) = k := by
          have e0' : S.2.1.1 j = nI k := e0
          rw [e0', nat_nI (by omega)]
        have hq3 := hr3 q (by rw [hnk]; exact hq)
        have hx2 : RMx I (va_up F 4 (upd (F 4) (40 * j + q) x)) (sR S (S.2.1.1, set2 S.2.1.2 j q x)) := by
          refine ⟨hs, fun a ha => ?_, ht, hl⟩
          obtain ⟨g1, g2, g3⟩ := hr a ha
          refine ⟨g1, g2, fun b hb => ?_⟩
          have hb' : b < nat (S.2.1.1 a) := hb
          have h40 : b < 40 := by
            rcases g2 with g2 | ⟨z, hz, g2⟩
            · rw [g2, nat_m1] at hb'
              omega
            · rw [g2, nat_nI (by omega)] at hb'
              omega
          show upd (F 4) (40 * j + q) x (40 * a + b) = set2 S.2.1.2 j q x a b
          unfold upd set2
          by_cases hab : a = j ∧ b = q
          · rw [if_pos hab, if_pos (by omega)]
          · rw [if_neg hab, if_neg (by omega)]
            exact g3 b hb
        refine ⟨_, am_ev 6 (some .int) false [] ok_M_lay am_mP_136 (by rw [am_m_136]) (by rw [am_m_136]) (fun h => by cases h) (Nat.le_of_ble_eq_true rfl) (fun Go hG => ?_), RM_tell hx2 (rc S j q)⟩
        refine hG 200 _ _ _ _ _ _ ?_
        refine Exists.intro 2 (Exists.intro _ (Exists.intro _ ⟨by decide, c_M_wrongPlace_d I F _ _ j (nI q) hj (by rw [hr1]; exact e1) (by rw [hr1']; exact hi), ?_⟩))
        refine br_t (by decide) ?_
        refine Exists.intro (40 * j + q) ⟨by omega, nI_idx 40 j q, ?_⟩
        refine Exists.intro (40 * j + q) ⟨by omega, nI_idx 40 j q, ?_⟩
        have hq4 : F 4 (40 * j + q) = rc S j q := hq3
        rw [hq4]
        refine Exists.intro 0 (Exists.intro _ (Exists.intro _ ⟨by decide, c_M_tell I (va_up F 4 (upd (F 4) (40 * j + q) x)) S.2.2.2.2.2.2.1 S.2.2.2.2.2.2.2 (rc S j q), ?_⟩))
        exact ⟨rfl, rfl, rfl, rfl⟩

theorem pm_M_tear (S : Sta) (hp : List Am_C) (h : RM S hp) (r : Int32) : ∃ hp', Am_Ev false 4 0 0 140 [.ref 0, .int r] hp (some (.int (spTear S r).1)) hp' ∧ RM (spTear S r).2 hp' := by
  obtain ⟨I, F, rfl, hx⟩ := h
  obtain ⟨hs, hr, ht, hl⟩ := id hx
  unfold spTear wrR
  cases ho : okR r with
  | false =>
    rw [if_pos rfl]
    refine ⟨_, am_ev 2 (some .int) false [] ok_M_tear am_mP_140 (by rw [am_m_140]) (by rw [am_m_140]) (fun h => by cases h) (Nat.le_of_ble_eq_true rfl) (fun Go hG => ?_), RM_of hx⟩
    refine hG 200 _ _ _ _ _ _ ?_
    have hc := c_M_isRow (mH I F S.2.2.2.2.2.2.1 S.2.2.2.2.2.2.2) r
    rw [show in3 r (nI 0) (nI 5) = false from ho] at hc
    refine Exists.intro 1 (Exists.intro _ (Exists.intro _ ⟨by decide, hc, ?_⟩))
    clear hc
    refine bn_f rfl ?_
    exact ⟨rfl, rfl, rfl, rfl⟩
  | true =>
    rw [if_neg (by decide)]
    obtain ⟨j, -, hj, rfl⟩ := in3_nat (by decide) (by decide) ho
    rw [nat_nI (by omega)]
    obtain ⟨hr1, hr2, hr3⟩ := hr j (by omega)
    have hr1' : F 5 j = rz S j := hr1
    rcases szOk_neg (by decide) hr2 with ⟨e0, e1, e2⟩ | ⟨k, hk, e0, e1, e2⟩
    · have e1' : rz S j < 0 := e1
      rw [if_pos e1']
      refine ⟨_, am_ev 2 (some .int) false [] ok_M_tear am_mP_140 (by rw [am_m_140]) (by rw [am_m_140]) (fun h => by cases h) (Nat.le_of_ble_eq_true rfl) (fun Go hG => ?_), RM_fnd hx (by decide)⟩
      refine hG 200 _ _ _ _ _ _ ?_
      have hc := c_M_isRow (mH I F S.2.2.2.2.2.2.1 S.2.2.2.2.2.2.2) (nI j)
      rw [in3_nI (by omega) (by omega) hj] at hc
      refine Exists.intro 1 (Exists.intro _ (Exists.intro _ ⟨by decide, hc, ?_⟩))
      clear hc
      refine bn_t (by decide) ?_
      refine Exists.intro j ⟨by omega, rfl, ?_⟩
      refine br_f (by rw [hr1]; exact e2) ?_
      refine Exists.intro 0 (Exists.intro _ (Exists.intro _ ⟨by decide, c_M_found I F S.2.2.2.2.2.2.1 S.2.2.2.2.2.2.2 1 (by decide), ?_⟩))
      exact ⟨rfl, rfl, rfl, rfl⟩
    · have e1' : ¬ rz S j < 0 := e1
      rw [if_neg e1']
      have hx2 : RMx I (va_up F 5 (upd (F 5) j (-nI 1))) (sR S (upd S.2.1.1 j (-nI 1), S.2.1.2)) := by
        refine ⟨hs, fun a ha => ?_, ht, hl⟩
        obtain ⟨g1, g2, g3⟩ := hr a ha
        show upd (F 5) j (-nI 1) a = upd S.2.1.1 j (-nI 1) a ∧ szOk 40 (upd S.2.1.1 j (-nI 1) a) ∧ ∀ i, i < nat (upd S.2.1.1 j (-nI 1) a) → F 4 (40 * a + i) = S.2.1.2 a i
        unfold upd
        by_cases haj : a = j
        · rw [if_pos haj, if_pos haj]
          exact ⟨rfl, Or.inl rfl, fun i hi => by rw [nat_m1] at hi; omega⟩
        · rw [if_neg haj, if_neg haj]
          exact ⟨g1, g2, g3⟩
      refine ⟨_, am_ev 2 (some .int) false [] ok_M_tear am_mP_140 (by rw [am_m_140]) (by rw [am_m_140]) (fun h => by cases h) (Nat.le_of_ble_eq_true rfl) (fun Go hG => ?_), RM_of hx2⟩
      refine hG 200 _ _ _ _ _ _ ?_
      have hc := c_M_isRow (mH I F S.2.2.2.2.2.2.1 S.2.2.2.2.2.2.2) (nI j)
      rw [in3_nI (by omega) (by omega) hj] at hc
      refine Exists.intro 1 (Exists.intro _ (Exists.intro _ ⟨by decide, hc, ?_⟩))
      clear hc
      refine bn_t (by decide) ?_
      refine Exists.intro j ⟨by omega, rfl, ?_⟩
      refine br_t (by rw [hr1]; exact e2) ?_
      refine Exists.intro j ⟨by omega, rfl, ?_⟩
      exact ⟨rfl, rfl, rfl, rfl⟩

