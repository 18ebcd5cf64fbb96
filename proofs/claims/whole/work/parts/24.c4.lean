/-! ===== the class: rows and texts (more) ===== -/
theorem rwC40 {S : Sta} {I : Nat → Int32} {F : Nat → Nat → Int32} (hr : rowC I F S.2.1) {a b : Nat} (ha : a < 6) (hb : b < nat (S.2.1.1 a)) : b < 40 := by
  rcases (hr a ha).2.1 with g2 | ⟨z, hz, g2⟩
  · rw [g2, nat_m1] at hb
    omega
  · rw [g2, nat_nI (by omega)] at hb
    omega

theorem pc_T_row (S : Sta) (hp : List Am_C) (h : RC S hp) (r n : Int32) : ∃ hp', Am_Ev false 6 0 0 8 [.ref 0, .int r, .int n] hp (some (.int (spRow S r n).1)) hp' ∧ RC (spRow S r n).2 hp' := by
  obtain ⟨I, F, rfl, hx⟩ := h
  obtain ⟨hs, hr, ht, hl⟩ := id hx
  unfold spRow
  cases ho : okR r with
  | false =>
    rw [if_pos rfl]
    have hc := c_T_isRow (cH I F S.2.2.2.2.2.2.1 S.2.2.2.2.2.2.2) r
    rw [show in3 r (nI 0) (nI 5) = false from ho] at hc
    refine ⟨_, am_ev 3 (some .int) false [] ok_T_row am_mP_8 (by rw [am_m_8]) (by rw [am_m_8]) (fun h => by cases h) (Nat.le_of_ble_eq_true rfl) (fun Go hG => ?_), RC_of hx⟩
    refine hG 200 _ _ _ _ _ _ ?_
    refine Exists.intro 0 (Exists.intro _ (Exists.intro _ ⟨by decide, hc, ?_⟩))
    refine br_t rfl ?_
    exact ⟨rfl, rfl, rfl, rfl⟩
  | true =>
    rw [if_neg (by decide)]
    obtain ⟨j, -, hj, rfl⟩ := in3_nat (by decide) (by decide) ho
    rw [nat_nI (by omega)]
    have hc := c_T_isRow (cH I F S.2.2.2.2.2.2.1 S.2.2.2.2.2.2.2) (nI j)
    rw [in3_nI (by omega) (by omega) hj] at hc
    by_cases h1 : nI 40 < n
    · rw [if_pos h1]
      refine ⟨_, am_ev 3 (some .int) false [] ok_T_row am_mP_8 (by rw [am_m_8]) (by rw [am_m_8]) (fun h => by cases h) (Nat.le_of_ble_eq_true rfl) (fun Go hG => ?_), RC_of hx⟩
      refine hG 200 _ _ _ _ _ _ ?_
      refine Exists.intro 0 (Exists.intro _ (Exists.intro _ ⟨by decide, hc, ?_⟩))
      refine br_f (by decide) ?_
      refine br_f (Int32.not_le.mpr h1) ?_
      exact ⟨rfl, rfl, rfl, rfl⟩
    · rw [if_neg h1]
      by_cases h2 : n < 0
      · rw [if_pos h2]
        refine ⟨_, am_ev 3 (some .int) false [] ok_T_row am_mP_8 (by rw [am_m_8]) (by rw [am_m_8]) (fun h => by cases h) (Nat.le_of_ble_eq_true rfl) (fun Go hG => ?_), RC_fnd hx (by decide)⟩
        refine hG 200 _ _ _ _ _ _ ?_
        refine Exists.intro 0 (Exists.intro _ (Exists.intro _ ⟨by decide, hc, ?_⟩))
        refine br_f (by decide) ?_
        refine br_t (Int32.not_lt.mp h1) ?_
        refine br_f (Int32.not_le.mpr h2) ?_
        refine Exists.intro 0 (Exists.intro _ (Exists.intro _ ⟨by decide, c_T_found I F S.2.2.2.2.2.2.1 S.2.2.2.2.2.2.2 5 (by decide), ?_⟩))
        exact ⟨rfl, rfl, rfl, rfl⟩
      · rw [if_neg h2]
        obtain ⟨m, hm0, rfl⟩ := nI_of h2
        have hm : m ≤ 40 := (nI_leI hm0 (by decide)).mp (Int32.not_lt.mp h1)
        rw [nat_nI (by omega)]
        have hx2 : RCx (upd I (60 + j) (nI m)) (va_up F (19 + 2 * j) (fillF (F (19 + 2 * j)) 0 m (nI 0))) (sR S (upd S.2.1.1 j (nI m), new2 S.2.1.2 j m (nI 0))) := by
          refine ⟨skyC_congr hs (fun z hz => pk_un (by omega)) (fun z hz => va_up_ne _ _ (by omega)), fun a ha => ?_, txtC_congr ht (fun z hz => pk_un (by omega)) (fun z hz => va_up_ne _ _ (by omega)), by rw [pk_un (by omega)]; exact hl.1, by rw [pk_un (by omega)]; exact hl.2.1, ?_⟩
          · obtain ⟨g1, g2, g3⟩ := hr a ha
            show upd I (60 + j) (nI m) (60 + a) = upd S.2.1.1 j (nI m) a ∧ szOk 40 (upd S.2.1.1 j (nI m) a) ∧ ∀ i, i < nat (upd S.2.1.1 j (nI m) a) → va_up F (19 + 2 * j) (fillF (F (19 + 2 * j)) 0 m (nI 0)) (19 + 2 * a) i = new2 S.2.1.2 j m (nI 0) a i
            by_cases haj : a = j
            · subst haj
              have e1 : upd S.2.1.1 a (nI m) a = nI m := pk_us
              rw [e1, pk_us, nat_nI (by omega), va_up_self]
              refine ⟨rfl, Or.inr ⟨m, hm, rfl⟩, fun i hi => ?_⟩
              unfold fillF new2
              rw [if_pos (by omega), if_pos ⟨rfl, hi⟩]
            · have e1 : upd S.2.1.1 j (nI m) a = S.2.1.1 a := pk_un haj
              rw [e1, pk_un (by omega), va_up_ne _ _ (by omega)]
              refine ⟨g1, g2, fun i hi => ?_⟩
              unfold new2
              rw [if_neg (fun q => haj q.1)]
              exact g3 i hi
          · intro f hf
            rw [va_up_ne _ _ (by omega)]
            exact hl.2.2 f hf
        have hb := c_S_begin (cH I F S.2.2.2.2.2.2.1 S.2.2.2.2.2.2.2) (18 + 2 * j) (19 + 2 * j) _ (cH_row (by omega)) 40 m _ (nI 0) (by omega) (cH_rowc (by omega)) (by omega) hm
        rw [cH_rows (by omega), cH_rowcs (by omega)] at hb
        refine ⟨_, am_ev 3 (some .int) false [] ok_T_row am_mP_8 (by rw [am_m_8]) (by rw [am_m_8]) (fun h => by cases h) (Nat.le_of_ble_eq_true rfl) (fun Go hG => ?_), RC_of hx2⟩
        refine hG 200 _ _ _ _ _ _ ?_
        refine Exists.intro 0 (Exists.intro _ (Exists.intro _ ⟨by decide, hc, ?_⟩))
        refine br_f (by decide) ?_
        refine br_t (Int32.not_lt.mp h1) ?_
        refine br_t (nI_pos' (by omega)) ?_
        refine Exists.intro j (Exists.intro (18 + 2 * j) ⟨by omega, rfl, rfR_at (by omega), ?_⟩)
        refine am_vt (cH_row (by omega)) rfl ?_
        refine Exists.intro 1 (Exists.intro _ (Exists.intro _ ⟨by decide, hb, ?_⟩))
        exact ⟨rfl, rfl, rfl, rfl⟩

theorem pc_T_text (S : Sta) (hp : List Am_C) (h : RC S hp) (r n : Int32) : ∃ hp', Am_Ev false 6 0 0 23 [.ref 0, .int r, .int n] hp (some (.int (spText S r n).1)) hp' ∧ RC (spText S r n).2 hp' := by
  obtain ⟨I, F, rfl, hx⟩ := h
  obtain ⟨hs, hr, ht, hl⟩ := id hx
  unfold spText
  cases ho : okT r with
  | false =>
    rw [if_pos rfl]
    have hc := c_T_isText (cH I F S.2.2.2.2.2.2.1 S.2.2.2.2.2.2.2) r
    rw [show in3 r (nI 0) (nI 3) = false from ho] at hc
    refine ⟨_, am_ev 3 (some .int) false [] ok_T_text am_mP_23 (by rw [am_m_23]) (by rw [am_m_23]) (fun h => by cases h) (Nat.le_of_ble_eq_true rfl) (fun Go hG => ?_), RC_of hx⟩
    refine hG 200 _ _ _ _ _ _ ?_
    refine Exists.intro 0 (Exists.intro _ (Exists.intro _ ⟨by decide, hc, ?_⟩))
    refine br_t rfl ?_
    exact ⟨rfl, rfl, rfl, rfl⟩
  | true =>
    rw [if_neg (by decide)]
    obtain ⟨j, -, hj, rfl⟩ := in3_nat (by decide) (by decide) ho
    rw [nat_nI (by omega)]
    have hc := c_T_isText (cH I F S.2.2.2.2.2.2.1 S.2.2.2.2.2.2.2) (nI j)
    rw [in3_nI (by omega) (by omega) hj] at hc
    by_cases h1 : nI 60 < n
    · rw [if_pos h1]
      refine ⟨_, am_ev 3 (some .int) false [] ok_T_text am_mP_23 (by rw [am_m_23]) (by rw [am_m_23]) (fun h => by cases h) (Nat.le_of_ble_eq_true rfl) (fun Go hG => ?_), RC_of hx⟩
      refine hG 200 _ _ _ _ _ _ ?_
      refine Exists.intro 0 (Exists.intro _ (Exists.intro _ ⟨by decide, hc, ?_⟩))
      refine br_f (by decide) ?_
      refine br_f (Int32.not_le.mpr h1) ?_
      exact ⟨rfl, rfl, rfl, rfl⟩
    · rw [if_neg h1]
      by_cases h2 : n < 0
      · rw [if_pos h2]
        refine ⟨_, am_ev 3 (some .int) false [] ok_T_text am_mP_23 (by rw [am_m_23]) (by rw [am_m_23]) (fun h => by cases h) (Nat.le_of_ble_eq_true rfl) (fun Go hG => ?_), RC_fnd hx (by decide)⟩
        refine hG 200 _ _ _ _ _ _ ?_
        refine Exists.intro 0 (Exists.intro _ (Exists.intro _ ⟨by decide, hc, ?_⟩))
        refine br_f (by decide) ?_
        refine br_t (Int32.not_lt.mp h1) ?_
        refine br_f (Int32.not_le.mpr h2) ?_
        refine Exists.intro 0 (Exists.intro _ (Exists.intro _ ⟨by decide, c_T_found I F S.2.2.2.2.2.2.1 S.2.2.2.2.2.2.2 5 (by decide), ?_⟩))
        exact ⟨rfl, rfl, rfl, rfl⟩
      · rw [if_neg h2]
        obtain ⟨m, hm0, rfl⟩ := nI_of h2
        have hm : m ≤ 60 := (nI_leI hm0 (by decide)).mp (Int32.not_lt.mp h1)
        rw [nat_nI (by omega)]
        have hx2 : RCx (upd I (70 + j) (nI m)) (va_up F (31 + 2 * j) (fillF (F (31 + 2 * j)) 0 m (nI 32))) (sX S (upd S.2.2.1.1 j (nI m), new2 S.2.2.1.2 j m (nI 32))) := by
          refine ⟨skyC_congr hs (fun z hz => pk_un (by omega)) (fun z hz => va_up_ne _ _ (by omega)), rowC_congr hr (fun z hz => pk_un (by omega)) (fun z hz => va_up_ne _ _ (by omega)), fun a ha => ?_, by rw [pk_un (by omega)]; exact hl.1, by rw [pk_un (by omega)]; exact hl.2.1, ?_⟩
          · obtain ⟨g1, g2, g3⟩ := ht a ha
            show upd I (70 + j) (nI m) (70 + a) = upd S.2.2.1.1 j (nI m) a ∧ szOk 60 (upd S.2.2.1.1 j (nI m) a) ∧ ∀ i, i < nat (upd S.2.2.1.1 j (nI m) a) → va_up F (31 + 2 * j) (fillF (F (31 + 2 * j)) 0 m (nI 32)) (31 + 2 * a) i = new2 S.2.2.1.2 j m (nI 32) a i
            by_cases haj : a = j
            · subst haj
              have e1 : upd S.2.2.1.1 a (nI m) a = nI m := pk_us
              rw [e1, pk_us, nat_nI (by omega), va_up_self]
              refine ⟨rfl, Or.inr ⟨m, hm, rfl⟩, fun i hi => ?_⟩
              unfold fillF new2
              rw [if_pos (by omega), if_pos ⟨rfl, hi⟩]
            · have e1 : upd S.2.2.1.1 j (nI m) a = S.2.2.1.1 a := pk_un haj
              rw [e1, pk_un (by omega), va_up_ne _ _ (by omega)]
              refine ⟨g1, g2, fun i hi => ?_⟩
              unfold new2
              rw [if_neg (fun q => haj q.1)]
              exact g3 i hi
          · intro f hf
            rw [va_up_ne _ _ (by omega)]
            exact hl.2.2 f hf
        have hb := c_S_begin (cH I F S.2.2.2.2.2.2.1 S.2.2.2.2.2.2.2) (30 + 2 * j) (31 + 2 * j) _ (cH_txt (by omega)) 60 m _ (nI 32) (by omega) (cH_txtc (by omega)) (by omega) hm
        rw [cH_txts (by omega), cH_txtcs (by omega)] at hb
        refine ⟨_, am_ev 3 (some .int) false [] ok_T_text am_mP_23 (by rw [am_m_23]) (by rw [am_m_23]) (fun h => by cases h) (Nat.le_of_ble_eq_true rfl) (fun Go hG => ?_), RC_of hx2⟩
        refine hG 200 _ _ _ _ _ _ ?_
        refine Exists.intro 0 (Exists.intro _ (Exists.intro _ ⟨by decide, hc, ?_⟩))
        refine br_f (by decide) ?_
        refine br_t (Int32.not_lt.mp h1) ?_
        refine br_t (nI_pos' (by omega)) ?_
        refine Exists.intro j (Exists.intro (30 + 2 * j) ⟨by omega, rfl, rfT_at (by omega), ?_⟩)
        refine am_vt (cH_txt (by omega)) rfl ?_
        refine Exists.intro 1 (Exists.intro _ (Exists.intro _ ⟨by decide, hb, ?_⟩))
        exact ⟨rfl, rfl, rfl, rfl⟩

theorem pc_T_tear (S : Sta) (hp : List Am_C) (h : RC S hp) (r : Int32) : ∃ hp', Am_Ev false 6 0 0 19 [.ref 0, .int r] hp (some (.int (spTear S r).1)) hp' ∧ RC (spTear S r).2 hp' := by
  obtain ⟨I, F, rfl, hx⟩ := h
  obtain ⟨hs, hr, ht, hl⟩ := id hx
  unfold spTear wrR
  cases ho : okR r with
  | false =>
    rw [if_pos rfl]
    refine ⟨_, am_ev 3 (some .int) false [] ok_T_tear am_mP_19 (by rw [am_m_19]) (by rw [am_m_19]) (fun h => by cases h) (Nat.le_of_ble_eq_true rfl) (fun Go hG => ?_), RC_of hx⟩
    refine hG 200 _ _ _ _ _ _ ?_
    refine Exists.intro 1 (Exists.intro _ (Exists.intro _ ⟨by decide, c_T_refusalOfRow_a I F _ _ r ho, ?_⟩))
    refine br_f (by decide) ?_
    exact ⟨rfl, rfl, rfl, rfl⟩
  | true =>
    rw [if_neg (by decide)]
    obtain ⟨j, -, hj, rfl⟩ := in3_nat (by decide) (by decide) ho
    rw [nat_nI (by omega)]
    obtain ⟨hr1, hr2, hr3⟩ := hr j (by omega)
    have hr1' : I (60 + j) = rz S j := hr1
    rcases szOk_neg (by decide) hr2 with ⟨e0, e1, e2⟩ | ⟨k, hk, e0, e1, e2⟩
    · have e1' : rz S j < 0 := e1
      rw [if_pos e1']
      refine ⟨_, am_ev 3 (some .int) false [] ok_T_tear am_mP_19 (by rw [am_m_19]) (by rw [am_m_19]) (fun h => by cases h) (Nat.le_of_ble_eq_true rfl) (fun Go hG => ?_), RC_fnd hx (by decide)⟩
      refine hG 200 _ _ _ _ _ _ ?_
      refine Exists.intro 1 (Exists.intro _ (Exists.intro _ ⟨by decide, c_T_refusalOfRow_b I F _ _ j hj (by rw [hr1]; exact e1), ?_⟩))
      refine br_f (by decide) ?_
      exact ⟨rfl, rfl, rfl, rfl⟩
    · have e1' : ¬ rz S j < 0 := e1
      rw [if_neg e1']
      have e0' : rz S j = nI k := e0
      have hok := c_T_refusalOfRow_d I F S.2.2.2.2.2.2.1 S.2.2.2.2.2.2.2 j hj (by rw [hr1]; exact e1)
      have hx2 : RCx (upd I (60 + j) (-nI 1)) F (sR S (upd S.2.1.1 j (-nI 1), S.2.1.2)) := by
        refine ⟨skyC_congr hs (fun z hz => pk_un (by omega)) (fun z hz => rfl), fun a ha => ?_, txtC_congr ht (fun z hz => pk_un (by omega)) (fun z hz => rfl), by rw [pk_un (by omega)]; exact hl.1, by rw [pk_un (by omega)]; exact hl.2.1, hl.2.2⟩
        obtain ⟨g1, g2, g3⟩ := hr a ha
        show upd I (60 + j) (-nI 1) (60 + a) = upd S.2.1.1 j (-nI 1) a ∧ szOk 40 (upd S.2.1.1 j (-nI 1) a) ∧ ∀ i, i < nat (upd S.2.1.1 j (-nI 1) a) → F (19 + 2 * a) i = S.2.1.2 a i
        by_cases haj : a = j
        · subst haj
          have e1 : upd S.2.1.1 a (-nI 1) a = -nI 1 := pk_us
          rw [e1, pk_us]
          exact ⟨rfl, Or.inl rfl, fun i hi => by rw [nat_m1] at hi; omega⟩
        · have e1 : upd S.2.1.1 j (-nI 1) a = S.2.1.1 a := pk_un haj
          rw [e1, pk_un (by omega)]
          exact ⟨g1, g2, g3⟩
      refine ⟨_, am_ev 3 (some .int) false [] ok_T_tear am_mP_19 (by rw [am_m_19]) (by rw [am_m_19]) (fun h => by cases h) (Nat.le_of_ble_eq_true rfl) (fun Go hG => ?_), RC_of hx2⟩
      refine hG 200 _ _ _ _ _ _ ?_
      refine Exists.intro 1 (Exists.intro _ (Exists.intro _ ⟨by decide, hok, ?_⟩))
      refine br_t rfl ?_
      refine Exists.intro j (Exists.intro (18 + 2 * j) ⟨by omega, rfl, rfR_at (by omega), ?_⟩)
      refine am_ob_of (cH_row (by omega)) ?_
      exact ⟨rfl, (cH_rows (by omega) (-nI 1)), rfl, rfl⟩

theorem pc_T_mean (S : Sta) (hp : List Am_C) (h : RC S hp) (r : Int32) : ∃ hp', Am_Ev false 6 0 0 22 [.ref 0, .int r] hp (some (.int (spMean S r).1)) hp' ∧ RC (spMean S r).2 hp' := by
  obtain ⟨I, F, rfl, hx⟩ := h
  obtain ⟨hs, hr, ht, hl⟩ := id hx
  unfold spMean wrR
  cases ho : okR r with
  | false =>
    rw [if_pos rfl]
    refine ⟨_, am_ev 7 (some .int) false [38] ok_T_mean am_mP_22 (by rw [am_m_22]) (by rw [am_m_22]) (fun h => by cases h) (Nat.le_of_ble_eq_true rfl) (fun Go hG => ?_), RC_of hx⟩
    refine hG 200 _ _ _ _ _ _ ?_
    refine Exists.intro 1 (Exists.intro _ (Exists.intro _ ⟨by decide, c_T_refusalOfRow_a I F _ _ r ho, ?_⟩))
    refine br_f (by decide) ?_
    exact ⟨rfl, rfl, rfl, rfl⟩
  | true =>
    rw [if_neg (by decide)]
    obtain ⟨j, -, hj, rfl⟩ := in3_nat (by decide) (by decide) ho
    rw [nat_nI (by omega)]
    obtain ⟨hr1, hr2, hr3⟩ := hr j (by omega)
    have hr1' : I (60 + j) = rz S j := hr1
    rcases szOk_neg (by decide) hr2 with ⟨e0, e1, e2⟩ | ⟨k, hk, e0, e1, e2⟩
    · have e1' : rz S j < 0 := e1
      rw [if_pos e1']
      refine ⟨_, am_ev 7 (some .int) false [38] ok_T_mean am_mP_22 (by rw [am_m_22]) (by rw [am_m_22]) (fun h => by cases h) (Nat.le_of_ble_eq_true rfl) (fun Go hG => ?_), RC_fnd hx (by decide)⟩
      refine hG 200 _ _ _ _ _ _ ?_
      refine Exists.intro 1 (Exists.intro _ (Exists.intro _ ⟨by decide, c_T_refusalOfRow_b I F _ _ j hj (by rw [hr1]; exact e1), ?_⟩))
      refine br_f (by decide) ?_
      exact ⟨rfl, rfl, rfl, rfl⟩
    · have e1' : ¬ rz S j < 0 := e1
      rw [if_neg e1']
      have e0' : rz S j = nI k := e0
      have hok := c_T_refusalOfRow_d I F S.2.2.2.2.2.2.1 S.2.2.2.2.2.2.2 j hj (by rw [hr1]; exact e1)
      by_cases hz : rz S j = 0
      · rw [if_pos hz]
        refine ⟨_, am_ev 7 (some .int) false [38] ok_T_mean am_mP_22 (by rw [am_m_22]) (by rw [am_m_22]) (fun h => by cases h) (Nat.le_of_ble_eq_true rfl) (fun Go hG => ?_), RC_fnd hx (by decide)⟩
        refine hG 200 _ _ _ _ _ _ ?_
        refine Exists.intro 1 (Exists.intro _ (Exists.intro _ ⟨by decide, hok, ?_⟩))
        refine br_t rfl ?_
        refine Exists.intro j (Exists.intro (18 + 2 * j) ⟨by omega, rfl, rfR_at (by omega), ?_⟩)
        refine am_ob_of (cH_row (by omega)) ?_
        refine bn_f (by rw [hr1']; exact hz) ?_
        refine Exists.intro 0 (Exists.intro _ (Exists.intro _ ⟨by decide, c_T_found I F S.2.2.2.2.2.2.1 S.2.2.2.2.2.2.2 4 (by decide), ?_⟩))
        exact ⟨rfl, rfl, rfl, rfl⟩
      · rw [if_neg hz]
        have hnk : nat (rz S j) = k := by rw [e0', nat_nI (by omega)]
        rw [hnk]
        refine ⟨_, am_ev 7 (some .int) false [38] ok_T_mean am_mP_22 (by rw [am_m_22]) (by rw [am_m_22]) (fun h => by cases h) (Nat.le_of_ble_eq_true rfl) (fun Go hG => ?_), RC_tell hx _⟩
        have L : ∀ (c q : Nat), q + c = k → Go 38 [some (.ref 0), some (.int (nI j)), some (.int (nI 0)), some (.ref (18 + 2 * j)), some (.long (sumL (rc S j) q)), none, some (.int (nI q))] [] (cH I F S.2.2.2.2.2.2.1 S.2.2.2.2.2.2.2) 0 0 := by
          intro c
          induction c with
          | zero =>
            intro q hq
            refine hG 200 _ _ _ _ _ _ ?_
            refine am_ob_of (cH_row (by omega)) ?_
            refine br_t (by rw [hr1', e0']; exact nI_le (by omega) (by omega)) ?_
            refine am_ob_of (cH_row (by omega)) ?_
            rw [hr1']
            have hq : q = k := by omega
            subst hq
            refine And.intro (fun q0 => hz ((fa0 (rz S j)).mp q0)) ?_
            refine Exists.intro 0 (Exists.intro _ (Exists.intro _ ⟨by decide, c_T_tell I F S.2.2.2.2.2.2.1 S.2.2.2.2.2.2.2 _, ?_⟩))
            exact ⟨rfl, rfl, rfl, rfl⟩
          | succ c ih =>
            intro q hq
            refine hG 200 _ _ _ _ _ _ ?_
            refine am_ob_of (cH_row (by omega)) ?_
            refine br_f (by rw [hr1', e0']; exact nI_ge (by omega) (by omega)) ?_
            refine am_ob_of (cH_row (by omega)) ?_
            refine am_ai_of (cH_rowc (by omega)) rfl ?_
            refine Exists.intro q ⟨by omega, rfl, ?_⟩
            have hq3 : F (19 + 2 * j) q = rc S j q := hr3 q (by show q < nat (rz S j); rw [hnk]; omega)
            rw [hq3]
            have h9 := ih (q + 1) (by omega)
            rw [← nI_s1] at h9
            exact h9
        refine hG 200 _ _ _ _ _ _ ?_
        refine Exists.intro 1 (Exists.intro _ (Exists.intro _ ⟨by decide, hok, ?_⟩))
        refine br_t rfl ?_
        refine Exists.intro j (Exists.intro (18 + 2 * j) ⟨by omega, rfl, rfR_at (by omega), ?_⟩)
        refine am_ob_of (cH_row (by omega)) ?_
        refine bn_t (by rw [hr1']; exact hz) ?_
        exact L k 0 (by omega)

theorem pc_T_put (S : Sta) (hp : List Am_C) (h : RC S hp) (t i x : Int32) : ∃ hp', Am_Ev false 6 0 0 25 [.ref 0, .int t, .int i, .int x] hp (some (.int (spPut S t i x).1)) hp' ∧ RC (spPut S t i x).2 hp' := by
  obtain ⟨I, F, rfl, hx⟩ := h
  obtain ⟨hs, hr, ht, hl⟩ := id hx
  unfold spPut wrT
  cases ho : okT t with
  | false =>
    rw [if_pos rfl]
    refine ⟨_, am_ev 6 (some .int) false [] ok_T_put am_mP_25 (by rw [am_m_25]) (by rw [am_m_25]) (fun h => by cases h) (Nat.le_of_ble_eq_true rfl) (fun Go hG => ?_), RC_of hx⟩
    refine hG 200 _ _ _ _ _ _ ?_
    refine Exists.intro 1 (Exists.intro _ (Exists.intro _ ⟨by decide, c_T_refusalOfText_a I F _ _ t ho, ?_⟩))
    refine br_f (by decide) ?_
    exact ⟨rfl, rfl, rfl, rfl⟩
  | true =>
    rw [if_neg (by decide)]
    obtain ⟨j, -, hj, rfl⟩ := in3_nat (by decide) (by decide) ho
    rw [nat_nI (by omega)]
    obtain ⟨hr1, hr2, hr3⟩ := ht j (by omega)
    have hr1' : I (70 + j) = tz S j := hr1
    rcases szOk_neg (by decide) hr2 with ⟨e0, e1, e2⟩ | ⟨k, hk, e0, e1, e2⟩
    · have e1' : tz S j < 0 := e1
      rw [if_pos e1']
      refine ⟨_, am_ev 6 (some .int) false [] ok_T_put am_mP_25 (by rw [am_m_25]) (by rw [am_m_25]) (fun h => by cases h) (Nat.le_of_ble_eq_true rfl) (fun Go hG => ?_), RC_fnd hx (by decide)⟩
      refine hG 200 _ _ _ _ _ _ ?_
      refine Exists.intro 1 (Exists.intro _ (Exists.intro _ ⟨by decide, c_T_refusalOfText_b I F _ _ j hj (by rw [hr1]; exact e1), ?_⟩))
      refine br_f (by decide) ?_
      exact ⟨rfl, rfl, rfl, rfl⟩
    · have e1' : ¬ tz S j < 0 := e1
      rw [if_neg e1']
      have e0' : tz S j = nI k := e0
      have hok := c_T_refusalOfText_d I F S.2.2.2.2.2.2.1 S.2.2.2.2.2.2.2 j hj (by rw [hr1]; exact e1)
      have hm := c_S_has (cH I F S.2.2.2.2.2.2.1 S.2.2.2.2.2.2.2) (30 + 2 * j) _ _ (cH_txt (by omega)) i
      have hhas : hasI (I (70 + j)) i = in3 i (nI 0) (tz S j - nI 1) := by rw [hr1', e0']; exact hasI_in3 (by omega)
      rw [hhas] at hm
      cases hi : in3 i (nI 0) (tz S j - nI 1) with
      | false =>
        rw [if_pos rfl]
        rw [hi] at hm
        refine ⟨_, am_ev 6 (some .int) false [] ok_T_put am_mP_25 (by rw [am_m_25]) (by rw [am_m_25]) (fun h => by cases h) (Nat.le_of_ble_eq_true rfl) (fun Go hG => ?_), RC_fnd hx (by decide)⟩
        refine hG 200 _ _ _ _ _ _ ?_
        refine Exists.intro 1 (Exists.intro _ (Exists.intro _ ⟨by decide, hok, ?_⟩))
        refine br_t rfl ?_
        refine Exists.intro j (Exists.intro (30 + 2 * j) ⟨by omega, rfl, rfT_at (by omega), ?_⟩)
        refine am_vt (cH_txt (by omega)) rfl ?_
        refine Exists.intro 0 (Exists.intro _ (Exists.intro _ ⟨by decide, hm, ?_⟩))
        refine bn_f rfl ?_
        refine Exists.intro 0 (Exists.intro _ (Exists.intro _ ⟨by decide, c_T_found I F S.2.2.2.2.2.2.1 S.2.2.2.2.2.2.2 2 (by decide), ?_⟩))
        exact ⟨rfl, rfl, rfl, rfl⟩
      | true =>
        rw [if_neg (by decide)]
        rw [hi] at hm
        obtain ⟨q, hq, rfl⟩ := in3_nat2 (k := k) (by omega) e0 hi
        rw [nat_nI (by omega)]
        have hnk : nat (S.2.2.1.1 j) = k := by
          have e0' : S.2.2.1.1 j = nI k := e0
          rw [e0', nat_nI (by omega)]
        have hq3 : F (31 + 2 * j) q = tc S j q := hr3 q (by rw [hnk]; exact hq)
        have hx2 : RCx I (va_up F (31 + 2 * j) (upd (F (31 + 2 * j)) q x.toInt8.toInt32)) (sX S (S.2.2.1.1, set2 S.2.2.1.2 j q x.toInt8.toInt32)) := by
          refine ⟨skyC_congr hs (fun _ _ => rfl) (fun z hz => va_up_ne _ _ (by omega)), rowC_congr hr (fun _ _ => rfl) (fun z hz => va_up_ne _ _ (by omega)), fun a ha => ?_, hl.1, hl.2.1, ?_⟩
          · obtain ⟨g1, g2, g3⟩ := ht a ha
            refine ⟨g1, g2, fun b hb => ?_⟩
            show va_up F (31 + 2 * j) (upd (F (31 + 2 * j)) q x.toInt8.toInt32) (31 + 2 * a) b = set2 S.2.2.1.2 j q x.toInt8.toInt32 a b
            by_cases haj : a = j
            · subst haj
              rw [va_up_self]
              unfold upd set2
              by_cases hab : b = q
              · rw [if_pos hab, if_pos ⟨rfl, hab⟩]
              · rw [if_neg hab, if_neg (fun z => hab z.2)]
                exact g3 b hb
            · rw [va_up_ne _ _ (by omega)]
              unfold set2
              rw [if_neg (fun z => haj z.1)]
              exact g3 b hb
          · intro f hf
            rw [va_up_ne _ _ (by omega)]
            exact hl.2.2 f hf
        rw [← hq3]
        refine ⟨_, am_ev 6 (some .int) false [] ok_T_put am_mP_25 (by rw [am_m_25]) (by rw [am_m_25]) (fun h => by cases h) (Nat.le_of_ble_eq_true rfl) (fun Go hG => ?_), RC_of hx2⟩
        refine hG 200 _ _ _ _ _ _ ?_
        refine Exists.intro 1 (Exists.intro _ (Exists.intro _ ⟨by decide, hok, ?_⟩))
        refine br_t rfl ?_
        refine Exists.intro j (Exists.intro (30 + 2 * j) ⟨by omega, rfl, rfT_at (by omega), ?_⟩)
        refine am_vt (cH_txt (by omega)) rfl ?_
        refine Exists.intro 0 (Exists.intro _ (Exists.intro _ ⟨by decide, hm, ?_⟩))
        refine bn_t (by decide) ?_
        refine Exists.intro j (Exists.intro (30 + 2 * j) ⟨by omega, rfl, rfT_at (by omega), ?_⟩)
        refine am_ob_of (cH_txt (by omega)) ?_
        refine am_ai_of (cH_txtc (by omega)) rfl ?_
        refine Exists.intro q ⟨by omega, rfl, ?_⟩
        refine Exists.intro j (Exists.intro (30 + 2 * j) ⟨by omega, rfl, rfT_at (by omega), ?_⟩)
        refine am_ob_of (cH_txt (by omega)) ?_
        refine am_ai_of (cH_txtc (by omega)) rfl ?_
        refine Exists.intro q ⟨by omega, rfl, ?_⟩
        exact ⟨rfl, cH_txtcs (by omega) _, rfl, rfl⟩

theorem pc_T_findings (S : Sta) (hp : List Am_C) (h : RC S hp) (f : Int32) : ∃ hp', Am_Ev false 6 0 0 128 [.ref 0, .int f] hp (some (.int (spFndg S f).1)) hp' ∧ RC (spFndg S f).2 hp' := by
  obtain ⟨I, F, rfl, hx⟩ := h
  obtain ⟨hs, hr, ht, hl⟩ := id hx
  unfold spFndg
  cases ho : in3 f (nI 1) (nI 5) with
  | false =>
    rw [if_pos rfl]
    refine ⟨_, am_ev 2 (some .int) false [] ok_T_findings am_mP_128 (by rw [am_m_128]) (by rw [am_m_128]) (fun h => by cases h) (Nat.le_of_ble_eq_true rfl) (fun Go hG => ?_), RC_of hx⟩
    refine hG 200 _ _ _ _ _ _ ?_
    refine And.intro (fun h1 => ?_) (fun h1 => And.intro (fun h2 => ?_) (fun h2 => ?_))
    · exact ⟨rfl, rfl, rfl, rfl⟩
    · have : in3 f (nI 1) (nI 5) = true := by unfold in3; rw [decide_eq_true (Int32.not_lt.mp h1), decide_eq_true h2]; rfl
      rw [ho] at this
      cases this
    · exact ⟨rfl, rfl, rfl, rfl⟩
  | true =>
    rw [if_neg (by decide)]
    obtain ⟨j, hj0, hj, rfl⟩ := in3_nat (by decide) (by decide) ho
    rw [nat_nI (by omega)]
    refine ⟨_, am_ev 2 (some .int) false [] ok_T_findings am_mP_128 (by rw [am_m_128]) (by rw [am_m_128]) (fun h => by cases h) (Nat.le_of_ble_eq_true rfl) (fun Go hG => ?_), RC_of hx⟩
    refine hG 200 _ _ _ _ _ _ ?_
    refine br_f (nI_nlt hj0 (by omega)) ?_
    refine br_t (nI_le hj (by omega)) ?_
    refine Exists.intro j ⟨by omega, rfl, ?_⟩
    exact ⟨by rw [hl.2.2 j (by omega)], rfl, rfl, rfl⟩

theorem pc_T_asked (S : Sta) (hp : List Am_C) (h : RC S hp) : ∃ hp', Am_Ev false 0 0 0 119 [.ref 0] hp (some (.int (S.2.2.2.1))) hp' ∧ RC S hp' := by
  obtain ⟨I, F, rfl, hx⟩ := h
  refine ⟨_, am_ev 1 (some .int) false [] ok_T_asked am_mP_119 (by rw [am_m_119]) (by rw [am_m_119]) (fun h => by cases h) (Nat.le_of_ble_eq_true rfl) (fun Go hG => ?_), RC_of hx⟩
  refine hG 200 _ _ _ _ _ _ ?_
  exact ⟨by rw [hx.2.2.2.1], rfl, rfl, rfl⟩

theorem pc_T_finding (S : Sta) (hp : List Am_C) (h : RC S hp) : ∃ hp', Am_Ev false 0 0 0 127 [.ref 0] hp (some (.int (S.2.2.2.2.1))) hp' ∧ RC S hp' := by
  obtain ⟨I, F, rfl, hx⟩ := h
  refine ⟨_, am_ev 1 (some .int) false [] ok_T_finding am_mP_127 (by rw [am_m_127]) (by rw [am_m_127]) (fun h => by cases h) (Nat.le_of_ble_eq_true rfl) (fun Go hG => ?_), RC_of hx⟩
  refine hG 200 _ _ _ _ _ _ ?_
  exact ⟨by rw [hx.2.2.2.2.1], rfl, rfl, rfl⟩

theorem pc_T_upper (S : Sta) (hp : List Am_C) (h : RC S hp) : ∃ hp', Am_Ev false 0 0 0 120 [.ref 0] hp (some (.long (S.2.2.2.2.2.2.1))) hp' ∧ RC S hp' := by
  obtain ⟨I, F, rfl, hx⟩ := h
  refine ⟨_, am_ev 1 (some .long) false [] ok_T_upper am_mP_120 (by rw [am_m_120]) (by rw [am_m_120]) (fun h => by cases h) (Nat.le_of_ble_eq_true rfl) (fun Go hG => ?_), RC_of hx⟩
  refine hG 200 _ _ _ _ _ _ ?_
  exact ⟨rfl, rfl, rfl, rfl⟩

theorem pc_T_lower (S : Sta) (hp : List Am_C) (h : RC S hp) : ∃ hp', Am_Ev false 0 0 0 121 [.ref 0] hp (some (.long (S.2.2.2.2.2.2.2))) hp' ∧ RC S hp' := by
  obtain ⟨I, F, rfl, hx⟩ := h
  refine ⟨_, am_ev 1 (some .long) false [] ok_T_lower am_mP_121 (by rw [am_m_121]) (by rw [am_m_121]) (fun h => by cases h) (Nat.le_of_ble_eq_true rfl) (fun Go hG => ?_), RC_of hx⟩
  refine hG 200 _ _ _ _ _ _ ?_
  exact ⟨rfl, rfl, rfl, rfl⟩

