/-! ===== the class: kinds, next ===== -/
theorem c_T_refusalOfPairs {I : Nat → Int32} {F : Nat → Nat → Int32} {S : Sta} (hx : RCx I F S) (i r : Int32) : Am_Ev false 2 0 0 98 [.ref 0, .int i, .int r] (cH I F S.2.2.2.2.2.2.1 S.2.2.2.2.2.2.2) (some (.int (wrV (wrPc S i r)))) (cFd I F S.2.2.2.2.2.2.1 S.2.2.2.2.2.2.2 (wrPc S i r)) := by
  obtain ⟨hs, hr, ht, hl⟩ := id hx
  have hI : I 22 = nI (eN S) := hs.1
  have hn : eN S ≤ 6 := hs.2.1
  unfold wrPc
  have hct := c_T_isThing I F S.2.2.2.2.2.2.1 S.2.2.2.2.2.2.2 (eN S) hI hn i
  cases hoi : okI S i with
  | false =>
    rw [show in3 i (nI 0) (nI (eN S) - nI 1) = false from hoi] at hct
    rw [if_pos rfl]
    refine am_ev 7 (some .int) false [59] ok_T_refusalOfPairs am_mP_98 (by rw [am_m_98]) (by rw [am_m_98]) (fun h => by cases h) (Nat.le_of_ble_eq_true rfl) (fun Go hG => ?_)
    refine hG 200 _ _ _ _ _ _ ?_
    refine Exists.intro 0 (Exists.intro _ (Exists.intro _ ⟨by decide, hct, ?_⟩))
    refine bn_f rfl ?_
    exact ⟨rfl, rfl, rfl, rfl⟩
  | true =>
  rw [show in3 i (nI 0) (nI (eN S) - nI 1) = true from hoi] at hct
  rw [if_neg (by decide)]
  cases ho : okR r with
  | false =>
    rw [if_pos rfl]
    refine am_ev 7 (some .int) false [59] ok_T_refusalOfPairs am_mP_98 (by rw [am_m_98]) (by rw [am_m_98]) (fun h => by cases h) (Nat.le_of_ble_eq_true rfl) (fun Go hG => ?_)
    refine hG 200 _ _ _ _ _ _ ?_
    refine Exists.intro 0 (Exists.intro _ (Exists.intro _ ⟨by decide, hct, ?_⟩))
    refine bn_t (by decide) ?_
    refine Exists.intro 1 (Exists.intro _ (Exists.intro _ ⟨by decide, c_T_refusalOfRow_a I F _ _ r ho, ?_⟩))
    refine br_f (by decide) ?_
    exact ⟨rfl, rfl, rfl, rfl⟩
  | true =>
    rw [if_neg (by decide)]
    obtain ⟨j, -, hj, rfl⟩ := in3_nat (by decide) (by decide) ho
    rw [nat_nI (by omega)]
    obtain ⟨q1, q2, q3⟩ := hr j (by omega)
    have q1' : I (60 + j) = rz S j := q1
    have q2' : szOk 40 (rz S j) := q2
    by_cases e1 : rz S j < 0
    · rw [if_pos e1]
      refine am_ev 7 (some .int) false [59] ok_T_refusalOfPairs am_mP_98 (by rw [am_m_98]) (by rw [am_m_98]) (fun h => by cases h) (Nat.le_of_ble_eq_true rfl) (fun Go hG => ?_)
      refine hG 200 _ _ _ _ _ _ ?_
      refine Exists.intro 0 (Exists.intro _ (Exists.intro _ ⟨by decide, hct, ?_⟩))
      refine bn_t (by decide) ?_
      refine Exists.intro 1 (Exists.intro _ (Exists.intro _ ⟨by decide, c_T_refusalOfRow_b I F _ _ j hj (by rw [q1]; exact e1), ?_⟩))
      refine br_f (by decide) ?_
      exact ⟨rfl, rfl, rfl, rfl⟩
    · rw [if_neg e1]
      obtain ⟨e3, e4⟩ := szOk_nI (by decide) q2' e1
      have hok1 := c_T_refusalOfRow_d I F S.2.2.2.2.2.2.1 S.2.2.2.2.2.2.2 j hj (by rw [q1]; exact e1)
      generalize hz : nat (rz S j) = z at *
      have hF5 : I (60 + j) = nI z := by rw [q1', e3]
      have E1 : (cH I F S.2.2.2.2.2.2.1 S.2.2.2.2.2.2.2)[18 + 2 * j]? = some (.inr (4, [.ref (19 + 2 * j), .int (nI z)])) := by rw [cH_row (by omega), hF5]
      have E2 : (cH I F S.2.2.2.2.2.2.1 S.2.2.2.2.2.2.2)[19 + 2 * j]? = some (.inl (0, 40, .inl (F (19 + 2 * j)))) := cH_rowc (by omega)
      cases hio : szB z with
      | false =>
        rw [if_pos rfl]
        have hio' := of_decide_eq_false hio
        refine am_ev 7 (some .int) false [59] ok_T_refusalOfPairs am_mP_98 (by rw [am_m_98]) (by rw [am_m_98]) (fun h => by cases h) (Nat.le_of_ble_eq_true rfl) (fun Go hG => ?_)
        refine hG 200 _ _ _ _ _ _ ?_
        refine Exists.intro 0 (Exists.intro _ (Exists.intro _ ⟨by decide, hct, ?_⟩))
        refine bn_t (by decide) ?_
        refine Exists.intro 1 (Exists.intro _ (Exists.intro _ ⟨by decide, hok1, ?_⟩))
        refine br_t rfl ?_
        refine Exists.intro j (Exists.intro (18 + 2 * j) ⟨by omega, rfl, rfR_at (by omega), ?_⟩)
        refine am_ob_of E1 ?_
        refine And.intro (by decide) ?_
        rw [pk_rem (by omega) (by omega) (by omega)]
        refine And.intro (fun h1 => ?_) (fun h1 => ?_)
        · refine Exists.intro 0 (Exists.intro _ (Exists.intro _ ⟨by decide, c_T_found I F S.2.2.2.2.2.2.1 S.2.2.2.2.2.2.2 5 (by decide), ?_⟩))
          exact ⟨rfl, rfl, rfl, rfl⟩
        · rw [nI_z (by omega)] at h1
          refine am_ob_of E1 ?_
          refine br_f (nI_ge (by omega) (by omega)) ?_
          refine Exists.intro 0 (Exists.intro _ (Exists.intro _ ⟨by decide, c_T_found I F S.2.2.2.2.2.2.1 S.2.2.2.2.2.2.2 5 (by decide), ?_⟩))
          exact ⟨rfl, rfl, rfl, rfl⟩
      | true =>
        rw [if_neg (by decide)]
        have hio' := of_decide_eq_true hio
        refine am_ev 7 (some .int) false [59] ok_T_refusalOfPairs am_mP_98 (by rw [am_m_98]) (by rw [am_m_98]) (fun h => by cases h) (Nat.le_of_ble_eq_true rfl) (fun Go hG => ?_)
        have L : ∀ (i2 k : Nat), k + i2 = z / 2 → allP (rc S j) k = true → ∀ x : Option Value, Go 59 [some (.ref 0), some (.int i), some (.int (nI j)), some (.int (nI 0)), some (.ref (18 + 2 * j)), some (.int (nI (2 * k))), x] [] (cH I F S.2.2.2.2.2.2.1 S.2.2.2.2.2.2.2) 0 0 := by
          intro i2
          induction i2 with
          | zero =>
            intro k hk ha x
            have hk' : k = z / 2 := by omega
            rw [← hk', if_neg (by rw [ha]; decide)] at hG
            refine hG 200 _ _ _ _ _ _ ?_
            refine am_ob_of E1 ?_
            refine br_t (by rw [nI_s1]; exact nI_le (by omega) (by omega)) ?_
            exact ⟨rfl, rfl, rfl, rfl⟩
          | succ i2 ih =>
            intro k hk ha x
            have hcell : F (19 + 2 * j) (2 * k) = rc S j (2 * k) := q3 (2 * k) (by show 2 * k < nat (rz S j); omega)
            have hcell2 : F (19 + 2 * j) (2 * k + 1) = rc S j (2 * k + 1) := q3 (2 * k + 1) (by show 2 * k + 1 < nat (rz S j); omega)
            have hih := c_T_isHeight (cH I F S.2.2.2.2.2.2.1 S.2.2.2.2.2.2.2) (rc S j (2 * k))
            have hff : prB (rc S j) k = false → allP (rc S j) (z / 2) = false := by
              intro h
              cases h5 : allP (rc S j) (z / 2) with
              | false => rfl
              | true => rw [allP_at h5 (by omega)] at h; cases h
            cases hok : okH (rc S j (2 * k)) with
            | false =>
              rw [show in3 (rc S j (2 * k)) (nI 1) (nI 7) = false from hok, ← hcell] at hih
              rw [if_pos (hff (by unfold prB; rw [hok]; rfl))] at hG
              refine hG 200 _ _ _ _ _ _ ?_
              refine am_ob_of E1 ?_
              refine br_f (by rw [nI_s1]; exact nI_ge (by omega) (by omega)) ?_
              refine am_ob_of E1 ?_
              refine am_ai_of E2 rfl ?_
              refine Exists.intro (2 * k + 1) ⟨by omega, nI_s1 _, ?_⟩
              refine am_ob_of E1 ?_
              refine am_ai_of E2 rfl ?_
              refine Exists.intro (2 * k) ⟨by omega, rfl, ?_⟩
              refine Exists.intro 0 (Exists.intro _ (Exists.intro _ ⟨by decide, hih, ?_⟩))
              refine br_t rfl ?_
              refine Exists.intro 0 (Exists.intro _ (Exists.intro _ ⟨by decide, c_T_found I F S.2.2.2.2.2.2.1 S.2.2.2.2.2.2.2 3 (by decide), ?_⟩))
              exact ⟨rfl, rfl, rfl, rfl⟩
            | true =>
              rw [show in3 (rc S j (2 * k)) (nI 1) (nI 7) = true from hok, ← hcell] at hih
              have hin3 : in3 (rc S j (2 * k + 1)) (nI 1) (nI 15) = (decide (nI 1 ≤ F (19 + 2 * j) (2 * k + 1)) && decide (F (19 + 2 * j) (2 * k + 1) ≤ nI 15)) := by rw [hcell2]; rfl
              refine hG 200 _ _ _ _ _ _ ?_
              refine am_ob_of E1 ?_
              refine br_f (by rw [nI_s1]; exact nI_ge (by omega) (by omega)) ?_
              refine am_ob_of E1 ?_
              refine am_ai_of E2 rfl ?_
              refine Exists.intro (2 * k + 1) ⟨by omega, nI_s1 _, ?_⟩
              refine am_ob_of E1 ?_
              refine am_ai_of E2 rfl ?_
              refine Exists.intro (2 * k) ⟨by omega, rfl, ?_⟩
              refine Exists.intro 0 (Exists.intro _ (Exists.intro _ ⟨by decide, hih, ?_⟩))
              refine br_f (by decide) ?_
              refine And.intro (fun h1 => ?_) (fun h1 => And.intro (fun h2 => ?_) (fun h2 => ?_))
              · have e5 : allP (rc S j) (z / 2) = false := hff (by unfold prB; rw [hok, hin3, decide_eq_false (Int32.not_le.mpr h1)]; rfl)
                refine Exists.intro 0 (Exists.intro _ (Exists.intro _ ⟨by decide, c_T_found I F S.2.2.2.2.2.2.1 S.2.2.2.2.2.2.2 3 (by decide), ?_⟩))
                rw [if_pos e5]
                exact ⟨rfl, rfl, rfl, rfl⟩
              · have h9 := ih (k + 1) (by omega) (by show (allP (rc S j) k && prB (rc S j) k) = true; unfold prB; rw [ha, hok, hin3, decide_eq_true (Int32.not_lt.mp h1), decide_eq_true h2]; rfl) (some (.int (F (19 + 2 * j) (2 * k + 1))))
                rw [show 2 * (k + 1) = 2 * k + 2 by omega, ← nI_add (2 * k) 2] at h9
                exact h9
              · have e5 : allP (rc S j) (z / 2) = false := hff (by unfold prB; rw [hok, hin3, decide_eq_false h2, Bool.and_false]; rfl)
                refine Exists.intro 0 (Exists.intro _ (Exists.intro _ ⟨by decide, c_T_found I F S.2.2.2.2.2.2.1 S.2.2.2.2.2.2.2 3 (by decide), ?_⟩))
                rw [if_pos e5]
                exact ⟨rfl, rfl, rfl, rfl⟩
        refine hG 200 _ _ _ _ _ _ ?_
        refine Exists.intro 0 (Exists.intro _ (Exists.intro _ ⟨by decide, hct, ?_⟩))
        refine bn_t (by decide) ?_
        refine Exists.intro 1 (Exists.intro _ (Exists.intro _ ⟨by decide, hok1, ?_⟩))
        refine br_t rfl ?_
        refine Exists.intro j (Exists.intro (18 + 2 * j) ⟨by omega, rfl, rfR_at (by omega), ?_⟩)
        refine am_ob_of E1 ?_
        refine And.intro (by decide) ?_
        rw [pk_rem (by omega) (by omega) (by omega), hio'.2]
        refine bn_f rfl ?_
        refine am_ob_of E1 ?_
        refine br_t (nI_le (by omega) (by omega)) ?_
        exact L (z / 2) 0 (by omega) rfl none

theorem c_K_fits (hp : List Am_C) (hd cd m : Nat) (c : Nat → Int32) (e1 : hp[hd]? = some (.inr (4, [.ref cd, .int (nI (2 * m))]))) (f : Nat → Int32) (e2 : hp[cd]? = some (.inl (0, 40, .inl f))) (hm : m ≤ 8) (hc : ∀ i, i < 2 * m → f i = c i) (hh : ∀ q, q < m → ∃ h, 1 ≤ h ∧ h ≤ 7 ∧ c (2 * q) = nI h) (k : Nat) (hk : k < 6) : Am_Ev false 2 0 0 100 [.int (nI k), .ref hd] (hp) (some (.int (b2 (fitB c k m)))) (hp) := by
  refine am_ev 3 (some .boolean) false [2] ok_K_fits am_mP_100 (by rw [am_m_100]) (by rw [am_m_100]) (fun h => by cases h) (Nat.le_of_ble_eq_true rfl) ?_
  intro Go hG
  have L : ∀ (i q : Nat), q + i = m → fitB c k q = true → Go 2 [some (.int (nI k)), some (.ref hd), some (.int (nI (2 * q)))] [] hp 0 0 := by
    intro i
    induction i with
    | zero =>
      intro q hq hf
      refine hG 200 _ _ _ _ _ _ ?_
      refine am_ob_of e1 ?_
      refine br_t (by rw [nI_s1]; exact nI_le (by omega) (by omega)) ?_
      exact ⟨Or.inr rfl, by rw [show m = q by omega, hf]; rfl, rfl, rfl, rfl⟩
    | succ i ih =>
      intro q hq hf
      obtain ⟨h, l1, l2, ec⟩ := hh q (by omega)
      have hc1 := hc (2 * q) (by omega)
      have hc2 := hc (2 * q + 1) (by omega)
      have hfl := c_K_flight hp k h hk ⟨l1, l2⟩
      rw [← ec, ← hc1] at hfl
      refine hG 200 _ _ _ _ _ _ ?_
      refine am_ob_of e1 ?_
      refine br_f (by rw [nI_s1]; exact nI_ge (by omega) (by omega)) ?_
      refine am_ob_of e1 ?_
      refine am_ai_of e2 rfl ?_
      refine Exists.intro (2 * q) ⟨by omega, rfl, ?_⟩
      refine Exists.intro 1 (Exists.intro _ (Exists.intro _ ⟨by decide, hfl, ?_⟩))
      refine am_ob_of e1 ?_
      refine am_ai_of e2 rfl ?_
      refine Exists.intro (2 * q + 1) ⟨by omega, nI_s1 _, ?_⟩
      refine And.intro (fun h1 => ?_) (fun h1 => ?_)
      · have h9 := ih (q + 1) (by omega) (by
          show (fitB c k q && decide (landI (nI k) (c (2 * q)) = c (2 * q + 1))) = true
          rw [hf, Bool.true_and, ← hc1, ← hc2]
          exact decide_eq_true h1)
        rw [show 2 * (q + 1) = 2 * q + 2 by omega, ← nI_add (2 * q) 2] at h9
        exact h9
      · have hq0 : fitB c k (q + 1) = false := by
          show (fitB c k q && decide (landI (nI k) (c (2 * q)) = c (2 * q + 1))) = false
          rw [hf, Bool.true_and, ← hc1, ← hc2]
          exact decide_eq_false h1
        have hm0 : ∀ (y : Nat), q + 1 + y ≤ m → fitB c k (q + 1 + y) = false := by
          intro y
          induction y with
          | zero => intro _; exact hq0
          | succ y ihy =>
            intro hy
            show (fitB c k (q + 1 + y) && _) = false
            rw [ihy (by omega)]
            rfl
        have hm1 := hm0 (m - (q + 1)) (by omega)
        rw [show q + 1 + (m - (q + 1)) = m by omega] at hm1
        exact ⟨Or.inl rfl, by rw [hm1]; rfl, rfl, rfl, rfl⟩
  refine hG 200 _ _ _ _ _ _ ?_
  exact L m 0 (by omega) rfl

theorem c_K_fitting (hp : List Am_C) (hd cd m : Nat) (c : Nat → Int32) (e1 : hp[hd]? = some (.inr (4, [.ref cd, .int (nI (2 * m))]))) (f : Nat → Int32) (e2 : hp[cd]? = some (.inl (0, 40, .inl f))) (hm : m ≤ 8) (hc : ∀ i, i < 2 * m → f i = c i) (hh : ∀ q, q < m → ∃ h, 1 ≤ h ∧ h ≤ 7 ∧ c (2 * q) = nI h) : Am_Ev false 3 0 0 99 [.ref hd] (hp) (some (.int (nI (kdN (fun k => fitB c k m) 6)))) (hp) := by
  refine am_ev 3 (some .int) false [4] ok_K_fitting am_mP_99 (by rw [am_m_99]) (by rw [am_m_99]) (fun h => by cases h) (Nat.le_of_ble_eq_true rfl) ?_
  intro Go hG
  have L : ∀ (j k : Nat), k + j = 6 → Go 4 [some (.ref hd), some (.int (nI (kdN (fun k => fitB c k m) k))), some (.int (nI k))] [] hp 0 0 := by
    intro j
    induction j with
    | zero =>
      intro k hk
      refine hG 200 _ _ _ _ _ _ ?_
      refine br_t (nI_le (by omega) (by omega)) ?_
      rw [show k = 6 by omega]
      exact ⟨rfl, rfl, rfl, rfl⟩
    | succ j ih =>
      intro k hk
      have h9 := ih (k + 1) (by omega)
      rw [← nI_s1 k] at h9
      refine hG 200 _ _ _ _ _ _ ?_
      refine br_f (nI_ge (by omega) (by omega)) ?_
      refine Exists.intro 2 (Exists.intro _ (Exists.intro _ ⟨by decide, c_K_fits hp hd cd m c e1 f e2 hm hc hh k (by omega), ?_⟩))
      refine b2_z (fun h1 => ?_) (fun h1 => ?_)
      · rw [kdN_f (p := (fun k => fitB c k m)) h1, or0] at h9
        exact h9
      · rw [kdN_t (p := (fun k => fitB c k m)) (by omega) h1] at h9
        exact h9
  refine hG 200 _ _ _ _ _ _ ?_
  exact L 6 0 (by omega)

theorem c_K_alike (hp : List Am_C) (s h a : Nat) (hs : s < 64) (hh : 1 ≤ h ∧ h ≤ 7) (ha : a < 6) : Am_Ev false 2 0 0 104 [.int (nI s), .int (nI h), .int (landI (nI a) (nI h))] (hp) (some (.int (nI (cntN (fun b => s.testBit b && decide (lnd b h = lnd a h)) 6)))) (hp) := by
  refine am_ev 5 (some .int) false [5] ok_K_alike am_mP_104 (by rw [am_m_104]) (by rw [am_m_104]) (fun h => by cases h) (Nat.le_of_ble_eq_true rfl) ?_
  intro Go hG
  have L : ∀ (i b : Nat), b + i = 6 → Go 5 [some (.int (nI s)), some (.int (nI h)), some (.int (landI (nI a) (nI h))), some (.int (nI (cntN (fun b => s.testBit b && decide (lnd b h = lnd a h)) b))), some (.int (nI b))] [] hp 0 0 := by
    intro i
    induction i with
    | zero =>
      intro b hb
      refine hG 200 _ _ _ _ _ _ ?_
      refine br_t (nI_le (by omega) (by omega)) ?_
      rw [show b = 6 by omega]
      exact ⟨rfl, rfl, rfl, rfl⟩
    | succ i ih =>
      intro b hb
      have h9 := ih (b + 1) (by omega)
      rw [← nI_s1 b] at h9
      have hbit := hasB_N (s := s) (l := b) (by omega) (by omega)
      unfold hasB at hbit
      have iff := landI_eq (a := b) (b := a) (h := h) (by omega) (by omega) hh
      refine hG 200 _ _ _ _ _ _ ?_
      refine br_f (nI_ge (by omega) (by omega)) ?_
      rcases and1 (nI s >>> (nI b &&& 31)) with ⟨a1, a2⟩ | ⟨a1, a2⟩
      · rw [decide_eq_false a2] at hbit
        rw [cntN_f (p := (fun b => s.testBit b && decide (lnd b h = lnd a h))) (by rw [← hbit]; rfl)] at h9
        refine br_t a1 ?_
        exact h9
      · rw [decide_eq_true a2] at hbit
        refine br_f a1 ?_
        refine Exists.intro 1 (Exists.intro _ (Exists.intro _ ⟨by decide, c_K_flight hp b h (by omega) hh, ?_⟩))
        refine And.intro (fun h3 => ?_) (fun h3 => ?_)
        · rw [cntN_f (p := (fun b => s.testBit b && decide (lnd b h = lnd a h))) (by rw [← hbit, decide_eq_false (fun q => h3 (iff.mpr q))]; rfl)] at h9
          exact h9
        · rw [cntN_t (p := (fun b => s.testBit b && decide (lnd b h = lnd a h))) (by rw [← hbit, decide_eq_true (iff.mp h3)]; rfl), ← nI_s1] at h9
          exact h9
  refine hG 200 _ _ _ _ _ _ ?_
  exact L 6 0 (by omega)

theorem c_K_greatestPart (hp : List Am_C) (s h : Nat) (hs : s < 64) (hh : 1 ≤ h ∧ h ≤ 7) : Am_Ev false 3 0 0 103 [.int (nI s), .int (nI h)] (hp) (some (.int (nI (gC s h)))) (hp) := by
  refine am_ev 4 (some .int) false [4] ok_K_greatestPart am_mP_103 (by rw [am_m_103]) (by rw [am_m_103]) (fun h => by cases h) (Nat.le_of_ble_eq_true rfl) ?_
  intro Go hG
  have L : ∀ (j a : Nat), a + j = 6 → Go 4 [some (.int (nI s)), some (.int (nI h)), some (.int (nI (mxN (fun a => cntN (fun b => s.testBit b && decide (lnd b h = lnd a h)) 6) a))), some (.int (nI a))] [] hp 0 0 := by
    intro j
    induction j with
    | zero =>
      intro a ha
      refine hG 200 _ _ _ _ _ _ ?_
      refine br_t (nI_le (by omega) (by omega)) ?_
      rw [show a = 6 by omega]
      exact ⟨rfl, rfl, rfl, rfl⟩
    | succ j ih =>
      intro a ha
      have hca : cntN (fun b => s.testBit b && decide (lnd b h = lnd a h)) 6 ≤ 6 := cntN_le
      have hma : mxN (fun a => cntN (fun b => s.testBit b && decide (lnd b h = lnd a h)) 6) a ≤ 6 := mxN_le (fun k => cntN_le)
      have h9 := ih (a + 1) (by omega)
      rw [← nI_s1 a] at h9
      have e : nI (mxN (fun a => cntN (fun b => s.testBit b && decide (lnd b h = lnd a h)) 6) (a + 1)) = if nI (mxN (fun a => cntN (fun b => s.testBit b && decide (lnd b h = lnd a h)) 6) a) < nI (cntN (fun b => s.testBit b && decide (lnd b h = lnd a h)) 6) then nI (cntN (fun b => s.testBit b && decide (lnd b h = lnd a h)) 6) else nI (mxN (fun a => cntN (fun b => s.testBit b && decide (lnd b h = lnd a h)) 6) a) := by
        show nI (if mxN (fun a => cntN (fun b => s.testBit b && decide (lnd b h = lnd a h)) 6) a < cntN (fun b => s.testBit b && decide (lnd b h = lnd a h)) 6 then cntN (fun b => s.testBit b && decide (lnd b h = lnd a h)) 6 else mxN (fun a => cntN (fun b => s.testBit b && decide (lnd b h = lnd a h)) 6) a) = _
        by_cases q : mxN (fun a => cntN (fun b => s.testBit b && decide (lnd b h = lnd a h)) 6) a < cntN (fun b => s.testBit b && decide (lnd b h = lnd a h)) 6
        · rw [if_pos q, if_pos (nI_lt q (by omega))]
        · rw [if_neg q, if_neg (nI_nlt (by omega) (by omega))]
      rw [e] at h9
      refine hG 200 _ _ _ _ _ _ ?_
      refine br_f (nI_ge (by omega) (by omega)) ?_
      refine Exists.intro 1 (Exists.intro _ (Exists.intro _ ⟨by decide, c_K_flight hp a h (by omega) hh, ?_⟩))
      refine Exists.intro 2 (Exists.intro _ (Exists.intro _ ⟨by decide, c_K_alike hp s h a hs hh (by omega), ?_⟩))
      exact h9
  refine hG 200 _ _ _ _ _ _ ?_
  exact L 6 0 (by omega)

theorem c_K_heightToTry (hp : List Am_C) (s : Nat) (hs : s < 64) : Am_Ev false 4 0 0 102 [.int (nI s)] (hp) (some (.int (nI (htC s 6)))) (hp) := by
  refine am_ev 3 (some .int) false [4] ok_K_heightToTry am_mP_102 (by rw [am_m_102]) (by rw [am_m_102]) (fun h => by cases h) (Nat.le_of_ble_eq_true rfl) ?_
  intro Go hG
  have L : ∀ (j k : Nat), k + j = 6 → Go 4 [some (.int (nI s)), some (.int (nI (htC s k))), some (.int (nI (k + 2)))] [] hp 0 0 := by
    intro j
    induction j with
    | zero =>
      intro k hk
      refine hG 200 _ _ _ _ _ _ ?_
      refine br_t (nI_lt (by omega) (by omega)) ?_
      rw [show k = 6 by omega]
      exact ⟨rfl, rfl, rfl, rfl⟩
    | succ j ih =>
      intro k hk
      have hb := htC_le s k
      have l1 := gC_le s (k + 2)
      have l2 := gC_le s (htC s k)
      have h9 := ih (k + 1) (by omega)
      rw [show k + 1 + 2 = k + 2 + 1 by omega, ← nI_s1 (k + 2)] at h9
      have e : htC s (k + 1) = if gC s (k + 2) < gC s (htC s k) then k + 2 else htC s k := rfl
      rw [e] at h9
      refine hG 200 _ _ _ _ _ _ ?_
      refine br_f (nI_nlt (by omega) (by omega)) ?_
      refine Exists.intro 3 (Exists.intro _ (Exists.intro _ ⟨by decide, c_K_greatestPart hp s (k + 2) hs (by omega), ?_⟩))
      refine Exists.intro 3 (Exists.intro _ (Exists.intro _ ⟨by decide, c_K_greatestPart hp s (htC s k) hs (by omega), ?_⟩))
      refine And.intro (fun h1 => ?_) (fun h1 => ?_)
      · rw [nI_leI (by omega) (by omega)] at h1
        rw [if_neg (by omega)] at h9
        exact h9
      · rw [nI_leI (by omega) (by omega)] at h1
        rw [if_pos (by omega)] at h9
        exact h9
  refine hG 200 _ _ _ _ _ _ ?_
  exact L 6 0 (by omega)

theorem pc_T_kinds (S : Sta) (hp : List Am_C) (hRM : RC S hp) (i r : Int32) : ∃ hp', Am_Ev false 6 0 0 97 [.ref 0, .int i, .int r] hp (some (.int (spKinds S i r).1)) hp' ∧ RC (spKinds S i r).2 hp' := by
  obtain ⟨I, F, rfl, hx⟩ := hRM
  obtain ⟨hs, hr, ht, hl⟩ := id hx
  unfold spKinds
  have hwr := c_T_refusalOfPairs hx i r
  have hor := wrPc_or S i r
  unfold refS
  by_cases hc0 : wrPc S i r = 0
  · rw [if_pos hc0]
    obtain ⟨c1, c2, c3, c4⟩ := wrPc_0 hc0
    rw [hc0] at hwr
    obtain ⟨j, -, hj, rfl⟩ := in3_nat (by decide) (by decide) c1
    rw [nat_nI (by omega)] at c2 c3 c4
    obtain ⟨q1, q2, q3⟩ := hr j (by omega)
    have q1' : I (60 + j) = rz S j := q1
    have q2' : szOk 40 (rz S j) := q2
    obtain ⟨e3, e4⟩ := szOk_nI (by decide) q2' c2
    have c3' := of_decide_eq_true c3
    have hsf : spFit S (nI j) = kdN (fun k => fitB (rc S j) k (nat (rz S j) / 2)) 6 := by unfold spFit; rw [nat_nI (by omega)]
    have hkb := c_K_fitting (cH I F S.2.2.2.2.2.2.1 S.2.2.2.2.2.2.2) (18 + 2 * j) (19 + 2 * j) (nat (rz S j) / 2) (rc S j) (by rw [cH_row (by omega), q1', show 2 * (nat (rz S j) / 2) = nat (rz S j) by omega, ← e3]) (F (19 + 2 * j)) (cH_rowc (by omega)) (by omega) (fun i hi => q3 i (by show i < nat (rz S j); omega)) (fun q hq => by
      have hp := allP_at c4 hq
      unfold prB at hp
      rw [Bool.and_eq_true] at hp
      obtain ⟨a1, a2, a3⟩ := okH_nat hp.1
      exact ⟨_, a2, a3, a1⟩)
    rw [← hsf] at hkb
    have hs64 : spFit S (nI j) < 64 := by rw [hsf]; exact kdN_lt (n := 6)
    refine ⟨_, am_ev 4 (some .int) false [] ok_T_kinds am_mP_97 (by rw [am_m_97]) (by rw [am_m_97]) (fun h => by cases h) (Nat.le_of_ble_eq_true rfl) (fun Go hG => ?_), RC_of hx⟩
    refine hG 200 _ _ _ _ _ _ ?_
    refine Exists.intro 2 (Exists.intro _ (Exists.intro _ ⟨by decide, hwr, ?_⟩))
    refine br_t rfl ?_
    refine Exists.intro j (Exists.intro (18 + 2 * j) ⟨by omega, rfl, rfR_at (by omega), ?_⟩)
    refine Exists.intro 3 (Exists.intro _ (Exists.intro _ ⟨by decide, hkb, ?_⟩))
    exact ⟨rfl, rfl, rfl, rfl⟩
  · rw [if_neg hc0]
    refine ⟨_, am_ev 4 (some .int) false [] ok_T_kinds am_mP_97 (by rw [am_m_97]) (by rw [am_m_97]) (fun h => by cases h) (Nat.le_of_ble_eq_true rfl) (fun Go hG => ?_), RC_fd hx hc0 hor⟩
    refine hG 200 _ _ _ _ _ _ ?_
    refine Exists.intro 2 (Exists.intro _ (Exists.intro _ ⟨by decide, hwr, ?_⟩))
    refine br_f (wrV_neg hc0).2 ?_
    exact ⟨rfl, rfl, rfl, rfl⟩

theorem pc_T_next (S : Sta) (hp : List Am_C) (hRM : RC S hp) (i r : Int32) : ∃ hp', Am_Ev false 6 0 0 101 [.ref 0, .int i, .int r] hp (some (.int (spNext S i r).1)) hp' ∧ RC (spNext S i r).2 hp' := by
  obtain ⟨I, F, rfl, hx⟩ := hRM
  obtain ⟨hs, hr, ht, hl⟩ := id hx
  unfold spNext
  have hwr := c_T_refusalOfPairs hx i r
  have hor := wrPc_or S i r
  unfold refS
  by_cases hc0 : wrPc S i r = 0
  · rw [if_pos hc0]
    obtain ⟨c1, c2, c3, c4⟩ := wrPc_0 hc0
    rw [hc0] at hwr
    obtain ⟨j, -, hj, rfl⟩ := in3_nat (by decide) (by decide) c1
    rw [nat_nI (by omega)] at c2 c3 c4
    obtain ⟨q1, q2, q3⟩ := hr j (by omega)
    have q1' : I (60 + j) = rz S j := q1
    have q2' : szOk 40 (rz S j) := q2
    obtain ⟨e3, e4⟩ := szOk_nI (by decide) q2' c2
    have c3' := of_decide_eq_true c3
    have hsf : spFit S (nI j) = kdN (fun k => fitB (rc S j) k (nat (rz S j) / 2)) 6 := by unfold spFit; rw [nat_nI (by omega)]
    have hkb := c_K_fitting (cH I F S.2.2.2.2.2.2.1 S.2.2.2.2.2.2.2) (18 + 2 * j) (19 + 2 * j) (nat (rz S j) / 2) (rc S j) (by rw [cH_row (by omega), q1', show 2 * (nat (rz S j) / 2) = nat (rz S j) by omega, ← e3]) (F (19 + 2 * j)) (cH_rowc (by omega)) (by omega) (fun i hi => q3 i (by show i < nat (rz S j); omega)) (fun q hq => by
      have hp := allP_at c4 hq
      unfold prB at hp
      rw [Bool.and_eq_true] at hp
      obtain ⟨a1, a2, a3⟩ := okH_nat hp.1
      exact ⟨_, a2, a3, a1⟩)
    rw [← hsf] at hkb
    have hs64 : spFit S (nI j) < 64 := by rw [hsf]; exact kdN_lt (n := 6)
    generalize hsv : spFit S (nI j) = s at hkb hs64 ⊢
    by_cases hs0 : s = 0
    · rw [if_pos hs0]
      refine ⟨_, am_ev 6 (some .int) false [] ok_T_next am_mP_101 (by rw [am_m_101]) (by rw [am_m_101]) (fun h => by cases h) (Nat.le_of_ble_eq_true rfl) (fun Go hG => ?_), RC_of hx⟩
      refine hG 200 _ _ _ _ _ _ ?_
      refine Exists.intro 2 (Exists.intro _ (Exists.intro _ ⟨by decide, hwr, ?_⟩))
      refine br_t rfl ?_
      refine Exists.intro j (Exists.intro (18 + 2 * j) ⟨by omega, rfl, rfR_at (by omega), ?_⟩)
      refine Exists.intro 3 (Exists.intro _ (Exists.intro _ ⟨by decide, hkb, ?_⟩))
      refine bn_f (by rw [hs0]; rfl) ?_
      exact ⟨rfl, rfl, rfl, rfl⟩
    · rw [if_neg hs0]
      have hl := htC_le s 6
      refine ⟨_, am_ev 6 (some .int) false [] ok_T_next am_mP_101 (by rw [am_m_101]) (by rw [am_m_101]) (fun h => by cases h) (Nat.le_of_ble_eq_true rfl) (fun Go hG => ?_), RC_tell hx _⟩
      refine hG 200 _ _ _ _ _ _ ?_
      refine Exists.intro 2 (Exists.intro _ (Exists.intro _ ⟨by decide, hwr, ?_⟩))
      refine br_t rfl ?_
      refine Exists.intro j (Exists.intro (18 + 2 * j) ⟨by omega, rfl, rfR_at (by omega), ?_⟩)
      refine Exists.intro 3 (Exists.intro _ (Exists.intro _ ⟨by decide, hkb, ?_⟩))
      refine bn_t (fun q => hs0 ((nI_z (by omega)).mp q)) ?_
      refine Exists.intro 4 (Exists.intro _ (Exists.intro _ ⟨by decide, c_K_heightToTry _ s hs64, ?_⟩))
      refine Exists.intro 3 (Exists.intro _ (Exists.intro _ ⟨by decide, c_K_greatestPart _ s (htC s 6) hs64 (by omega), ?_⟩))
      refine Exists.intro 0 (Exists.intro _ (Exists.intro _ ⟨by decide, c_T_tell I F S.2.2.2.2.2.2.1 S.2.2.2.2.2.2.2 _, ?_⟩))
      exact ⟨rfl, rfl, rfl, rfl⟩
  · rw [if_neg hc0]
    refine ⟨_, am_ev 6 (some .int) false [] ok_T_next am_mP_101 (by rw [am_m_101]) (by rw [am_m_101]) (fun h => by cases h) (Nat.le_of_ble_eq_true rfl) (fun Go hG => ?_), RC_fd hx hc0 hor⟩
    refine hG 200 _ _ _ _ _ _ ?_
    refine Exists.intro 2 (Exists.intro _ (Exists.intro _ ⟨by decide, hwr, ?_⟩))
    refine br_f (wrV_neg hc0).2 ?_
    exact ⟨rfl, rfl, rfl, rfl⟩

