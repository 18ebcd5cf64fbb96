/-! ===== the reference's public methods: rows, texts (more) ===== -/
theorem fa0 (x : Int32) : x.toInt64 = 0 ↔ x = 0 := by
  constructor
  · intro h
    apply Int32.toInt_inj.mp
    have h1 := congrArg Int64.toInt h
    simpa using h1
  · intro h
    rw [h]
    rfl
theorem rw40 {S : Sta} {F : Nat → Nat → Int32} (hr : rowM F S.2.1) {a b : Nat} (ha : a < 6) (hb : b < nat (S.2.1.1 a)) : b < 40 := by
  rcases (hr a ha).2.1 with g2 | ⟨z, hz, g2⟩
  · rw [g2, nat_m1] at hb
    omega
  · rw [g2, nat_nI (by omega)] at hb
    omega
theorem tx60 {S : Sta} {F : Nat → Nat → Int32} (ht : txtM F S.2.2.1) {a b : Nat} (ha : a < 4) (hb : b < nat (S.2.2.1.1 a)) : b < 60 := by
  rcases (ht a ha).2.1 with g2 | ⟨z, hz, g2⟩
  · rw [g2, nat_m1] at hb
    omega
  · rw [g2, nat_nI (by omega)] at hb
    omega
/-- the first n places from b on are x -/
def fillF (f : Nat → Int32) (b n : Nat) (x : Int32) : Nat → Int32 := fun j => if b ≤ j ∧ j < b + n then x else f j
theorem fillF_s (f : Nat → Int32) (b k : Nat) (x : Int32) : upd (fillF f b k x) (b + k) x = fillF f b (k + 1) x := by
  funext j
  unfold upd fillF
  by_cases h : j = b + k
  · rw [if_pos h, if_pos (by omega)]
  · by_cases h2 : b ≤ j ∧ j < b + k
    · rw [if_neg h, if_pos h2, if_pos (by omega)]
    · rw [if_neg h, if_neg h2, if_neg (by omega)]
theorem fillF_0 (f : Nat → Int32) (b : Nat) (x : Int32) : fillF f b 0 x = f := by
  funext j
  unfold fillF
  rw [if_neg (by omega)]

theorem pm_M_row (S : Sta) (hp : List Am_C) (h : RM S hp) (r n : Int32) : ∃ hp', Am_Ev false 4 0 0 132 [.ref 0, .int r, .int n] hp (some (.int (spRow S r n).1)) hp' ∧ RM (spRow S r n).2 hp' := by
  obtain ⟨I, F, rfl, hx⟩ := h
  obtain ⟨hs, hr, ht, hl⟩ := id hx
  unfold spRow
  cases ho : okR r with
  | false =>
    rw [if_pos rfl]
    refine ⟨_, am_ev 4 (some .int) false [34] ok_M_row am_mP_132 (by rw [am_m_132]) (by rw [am_m_132]) (fun h => by cases h) (Nat.le_of_ble_eq_true rfl) (fun Go hG => ?_), RM_of hx⟩
    refine hG 200 _ _ _ _ _ _ ?_
    have hc := c_M_isRow (mH I F S.2.2.2.2.2.2.1 S.2.2.2.2.2.2.2) r
    rw [show in3 r (nI 0) (nI 5) = false from ho] at hc
    refine Exists.intro 1 (Exists.intro _ (Exists.intro _ ⟨by decide, hc, ?_⟩))
    clear hc
    refine br_t rfl ?_
    exact ⟨rfl, rfl, rfl, rfl⟩
  | true =>
    rw [if_neg (by decide)]
    obtain ⟨j, -, hj, rfl⟩ := in3_nat (by decide) (by decide) ho
    rw [nat_nI (by omega)]
    have hc := c_M_isRow (mH I F S.2.2.2.2.2.2.1 S.2.2.2.2.2.2.2) (nI j)
    rw [in3_nI (by omega) (by omega) hj] at hc
    by_cases h1 : nI 40 < n
    · rw [if_pos h1]
      refine ⟨_, am_ev 4 (some .int) false [34] ok_M_row am_mP_132 (by rw [am_m_132]) (by rw [am_m_132]) (fun h => by cases h) (Nat.le_of_ble_eq_true rfl) (fun Go hG => ?_), RM_of hx⟩
      refine hG 200 _ _ _ _ _ _ ?_
      refine Exists.intro 1 (Exists.intro _ (Exists.intro _ ⟨by decide, hc, ?_⟩))
      refine br_f (by decide) ?_
      refine br_f (Int32.not_le.mpr h1) ?_
      exact ⟨rfl, rfl, rfl, rfl⟩
    · rw [if_neg h1]
      by_cases h2 : n < 0
      · rw [if_pos h2]
        refine ⟨_, am_ev 4 (some .int) false [34] ok_M_row am_mP_132 (by rw [am_m_132]) (by rw [am_m_132]) (fun h => by cases h) (Nat.le_of_ble_eq_true rfl) (fun Go hG => ?_), RM_fnd hx (by decide)⟩
        refine hG 200 _ _ _ _ _ _ ?_
        refine Exists.intro 1 (Exists.intro _ (Exists.intro _ ⟨by decide, hc, ?_⟩))
        refine br_f (by decide) ?_
        refine br_t (Int32.not_lt.mp h1) ?_
        refine br_f (Int32.not_le.mpr h2) ?_
        refine Exists.intro 0 (Exists.intro _ (Exists.intro _ ⟨by decide, c_M_found I F S.2.2.2.2.2.2.1 S.2.2.2.2.2.2.2 5 (by decide), ?_⟩))
        exact ⟨rfl, rfl, rfl, rfl⟩
      · rw [if_neg h2]
        obtain ⟨m, hm0, rfl⟩ := nI_of h2
        have hm : m ≤ 40 := (nI_leI hm0 (by decide)).mp (Int32.not_lt.mp h1)
        rw [nat_nI (by omega)]
        have hx2 : RMx I (va_up (va_up F 5 (upd (F 5) j (nI m))) 4 (fillF (F 4) (40 * j) m (nI 0))) (sR S (upd S.2.1.1 j (nI m), new2 S.2.1.2 j m (nI 0))) := by
          refine ⟨hs, fun a ha => ?_, ht, hl⟩
          obtain ⟨g1, g2, g3⟩ := hr a ha
          show upd (F 5) j (nI m) a = upd S.2.1.1 j (nI m) a ∧ szOk 40 (upd S.2.1.1 j (nI m) a) ∧ ∀ i, i < nat (upd S.2.1.1 j (nI m) a) → fillF (F 4) (40 * j) m (nI 0) (40 * a + i) = new2 S.2.1.2 j m (nI 0) a i
          by_cases haj : a = j
          · subst haj
            have e1 : upd S.2.1.1 a (nI m) a = nI m := pk_us
            rw [e1, pk_us, nat_nI (by omega)]
            refine ⟨rfl, Or.inr ⟨m, hm, rfl⟩, fun i hi => ?_⟩
            unfold fillF new2
            rw [if_pos (by omega), if_pos ⟨rfl, hi⟩]
          · have e1 : upd S.2.1.1 j (nI m) a = S.2.1.1 a := pk_un haj
            rw [e1, pk_un haj]
            refine ⟨g1, g2, fun i hi => ?_⟩
            have h40 := rw40 (S := S) hr ha hi
            unfold fillF new2
            rw [if_neg (by omega), if_neg (fun q => haj q.1)]
            exact g3 i hi
        refine ⟨_, am_ev 4 (some .int) false [34] ok_M_row am_mP_132 (by rw [am_m_132]) (by rw [am_m_132]) (fun h => by cases h) (Nat.le_of_ble_eq_true rfl) (fun Go hG => ?_), RM_of hx2⟩
        have L : ∀ (c k : Nat), k + c = m → Go 34 [some (.ref 0), some (.int (nI j)), some (.int (nI m)), some (.int (nI k))] [] (mH I (va_up (va_up F 5 (upd (F 5) j (nI m))) 4 (fillF (F 4) (40 * j) k (nI 0))) S.2.2.2.2.2.2.1 S.2.2.2.2.2.2.2) 0 0 := by
          intro c
          induction c with
          | zero =>
            intro k hk
            refine hG 200 _ _ _ _ _ _ ?_
            refine br_t (nI_le (by omega) (by omega)) ?_
            have hk : k = m := by omega
            subst hk
            exact ⟨rfl, rfl, rfl, rfl⟩
          | succ c ih =>
            intro k hk
            refine hG 200 _ _ _ _ _ _ ?_
            refine br_f (nI_ge (by omega) (by omega)) ?_
            refine Exists.intro (40 * j + k) ⟨by omega, nI_idx 40 j k, ?_⟩
            have h9 := ih (k + 1) (by omega)
            rw [← nI_s1, ← fillF_s] at h9
            exact h9
        refine hG 200 _ _ _ _ _ _ ?_
        refine Exists.intro 1 (Exists.intro _ (Exists.intro _ ⟨by decide, hc, ?_⟩))
        refine br_f (by decide) ?_
        refine br_t (Int32.not_lt.mp h1) ?_
        refine br_t (nI_pos' (by omega)) ?_
        refine Exists.intro j ⟨by omega, rfl, ?_⟩
        have h9 := L m 0 (by omega)
        rw [fillF_0] at h9
        exact h9

theorem pm_M_text (S : Sta) (hp : List Am_C) (h : RM S hp) (r n : Int32) : ∃ hp', Am_Ev false 4 0 0 144 [.ref 0, .int r, .int n] hp (some (.int (spText S r n).1)) hp' ∧ RM (spText S r n).2 hp' := by
  obtain ⟨I, F, rfl, hx⟩ := h
  obtain ⟨hs, hr, ht, hl⟩ := id hx
  unfold spText
  cases ho : okT r with
  | false =>
    rw [if_pos rfl]
    refine ⟨_, am_ev 4 (some .int) false [34] ok_M_text am_mP_144 (by rw [am_m_144]) (by rw [am_m_144]) (fun h => by cases h) (Nat.le_of_ble_eq_true rfl) (fun Go hG => ?_), RM_of hx⟩
    refine hG 200 _ _ _ _ _ _ ?_
    have hc := c_M_isText (mH I F S.2.2.2.2.2.2.1 S.2.2.2.2.2.2.2) r
    rw [show in3 r (nI 0) (nI 3) = false from ho] at hc
    refine Exists.intro 1 (Exists.intro _ (Exists.intro _ ⟨by decide, hc, ?_⟩))
    clear hc
    refine br_t rfl ?_
    exact ⟨rfl, rfl, rfl, rfl⟩
  | true =>
    rw [if_neg (by decide)]
    obtain ⟨j, -, hj, rfl⟩ := in3_nat (by decide) (by decide) ho
    rw [nat_nI (by omega)]
    have hc := c_M_isText (mH I F S.2.2.2.2.2.2.1 S.2.2.2.2.2.2.2) (nI j)
    rw [in3_nI (by omega) (by omega) hj] at hc
    by_cases h1 : nI 60 < n
    · rw [if_pos h1]
      refine ⟨_, am_ev 4 (some .int) false [34] ok_M_text am_mP_144 (by rw [am_m_144]) (by rw [am_m_144]) (fun h => by cases h) (Nat.le_of_ble_eq_true rfl) (fun Go hG => ?_), RM_of hx⟩
      refine hG 200 _ _ _ _ _ _ ?_
      refine Exists.intro 1 (Exists.intro _ (Exists.intro _ ⟨by decide, hc, ?_⟩))
      refine br_f (by decide) ?_
      refine br_f (Int32.not_le.mpr h1) ?_
      exact ⟨rfl, rfl, rfl, rfl⟩
    · rw [if_neg h1]
      by_cases h2 : n < 0
      · rw [if_pos h2]
        refine ⟨_, am_ev 4 (some .int) false [34] ok_M_text am_mP_144 (by rw [am_m_144]) (by rw [am_m_144]) (fun h => by cases h) (Nat.le_of_ble_eq_true rfl) (fun Go hG => ?_), RM_fnd hx (by decide)⟩
        refine hG 200 _ _ _ _ _ _ ?_
        refine Exists.intro 1 (Exists.intro _ (Exists.intro _ ⟨by decide, hc, ?_⟩))
        refine br_f (by decide) ?_
        refine br_t (Int32.not_lt.mp h1) ?_
        refine br_f (Int32.not_le.mpr h2) ?_
        refine Exists.intro 0 (Exists.intro _ (Exists.intro _ ⟨by decide, c_M_found I F S.2.2.2.2.2.2.1 S.2.2.2.2.2.2.2 5 (by decide), ?_⟩))
        exact ⟨rfl, rfl, rfl, rfl⟩
      · rw [if_neg h2]
        obtain ⟨m, hm0, rfl⟩ := nI_of h2
        have hm : m ≤ 60 := (nI_leI hm0 (by decide)).mp (Int32.not_lt.mp h1)
        rw [nat_nI (by omega)]
        have hx2 : RMx I (va_up (va_up F 7 (upd (F 7) j (nI m))) 6 (fillF (F 6) (60 * j) m (nI 32))) (sX S (upd S.2.2.1.1 j (nI m), new2 S.2.2.1.2 j m (nI 32))) := by
          refine ⟨hs, hr, fun a ha => ?_, hl⟩
          obtain ⟨g1, g2, g3⟩ := ht a ha
          show upd (F 7) j (nI m) a = upd S.2.2.1.1 j (nI m) a ∧ szOk 60 (upd S.2.2.1.1 j (nI m) a) ∧ ∀ i, i < nat (upd S.2.2.1.1 j (nI m) a) → fillF (F 6) (60 * j) m (nI 32) (60 * a + i) = new2 S.2.2.1.2 j m (nI 32) a i
          by_cases haj : a = j
          · subst haj
            have e1 : upd S.2.2.1.1 a (nI m) a = nI m := pk_us
            rw [e1, pk_us, nat_nI (by omega)]
            refine ⟨rfl, Or.inr ⟨m, hm, rfl⟩, fun i hi => ?_⟩
            unfold fillF new2
            rw [if_pos (by omega), if_pos ⟨rfl, hi⟩]
          · have e1 : upd S.2.2.1.1 j (nI m) a = S.2.2.1.1 a := pk_un haj
            rw [e1, pk_un haj]
            refine ⟨g1, g2, fun i hi => ?_⟩
            have h40 := tx60 (S := S) ht ha hi
            unfold fillF new2
            rw [if_neg (by omega), if_neg (fun q => haj q.1)]
            exact g3 i hi
        refine ⟨_, am_ev 4 (some .int) false [34] ok_M_text am_mP_144 (by rw [am_m_144]) (by rw [am_m_144]) (fun h => by cases h) (Nat.le_of_ble_eq_true rfl) (fun Go hG => ?_), RM_of hx2⟩
        have L : ∀ (c k : Nat), k + c = m → Go 34 [some (.ref 0), some (.int (nI j)), some (.int (nI m)), some (.int (nI k))] [] (mH I (va_up (va_up F 7 (upd (F 7) j (nI m))) 6 (fillF (F 6) (60 * j) k (nI 32))) S.2.2.2.2.2.2.1 S.2.2.2.2.2.2.2) 0 0 := by
          intro c
          induction c with
          | zero =>
            intro k hk
            refine hG 200 _ _ _ _ _ _ ?_
            refine br_t (nI_le (by omega) (by omega)) ?_
            have hk : k = m := by omega
            subst hk
            exact ⟨rfl, rfl, rfl, rfl⟩
          | succ c ih =>
            intro k hk
            refine hG 200 _ _ _ _ _ _ ?_
            refine br_f (nI_ge (by omega) (by omega)) ?_
            refine Exists.intro (60 * j + k) ⟨by omega, nI_idx 60 j k, ?_⟩
            have h9 := ih (k + 1) (by omega)
            rw [← nI_s1, ← fillF_s] at h9
            exact h9
        refine hG 200 _ _ _ _ _ _ ?_
        refine Exists.intro 1 (Exists.intro _ (Exists.intro _ ⟨by decide, hc, ?_⟩))
        refine br_f (by decide) ?_
        refine br_t (Int32.not_lt.mp h1) ?_
        refine br_t (nI_pos' (by omega)) ?_
        refine Exists.intro j ⟨by omega, rfl, ?_⟩
        have h9 := L m 0 (by omega)
        rw [fillF_0] at h9
        exact h9

theorem pm_M_put (S : Sta) (hp : List Am_C) (h : RM S hp) (t i x : Int32) : ∃ hp', Am_Ev false 4 0 0 146 [.ref 0, .int t, .int i, .int x] hp (some (.int (spPut S t i x).1)) hp' ∧ RM (spPut S t i x).2 hp' := by
  obtain ⟨I, F, rfl, hx⟩ := h
  obtain ⟨hs, hr, ht, hl⟩ := id hx
  unfold spPut wrT
  cases ho : okT t with
  | false =>
    rw [if_pos rfl]
    refine ⟨_, am_ev 5 (some .int) false [] ok_M_put am_mP_146 (by rw [am_m_146]) (by rw [am_m_146]) (fun h => by cases h) (Nat.le_of_ble_eq_true rfl) (fun Go hG => ?_), RM_of hx⟩
    refine hG 200 _ _ _ _ _ _ ?_
    have hc := c_M_isText (mH I F S.2.2.2.2.2.2.1 S.2.2.2.2.2.2.2) t
    rw [show in3 t (nI 0) (nI 3) = false from ho] at hc
    refine Exists.intro 1 (Exists.intro _ (Exists.intro _ ⟨by decide, hc, ?_⟩))
    clear hc
    refine bn_f rfl ?_
    exact ⟨rfl, rfl, rfl, rfl⟩
  | true =>
    rw [if_neg (by decide)]
    obtain ⟨j, -, hj, rfl⟩ := in3_nat (by decide) (by decide) ho
    rw [nat_nI (by omega)]
    have hc := c_M_isText (mH I F S.2.2.2.2.2.2.1 S.2.2.2.2.2.2.2) (nI j)
    rw [in3_nI (by omega) (by omega) hj] at hc
    obtain ⟨hr1, hr2, hr3⟩ := ht j (by omega)
    have hr1' : F 7 j = tz S j := hr1
    rcases szOk_neg (by decide) hr2 with ⟨e0, e1, e2⟩ | ⟨k, hk, e0, e1, e2⟩
    · have e1' : tz S j < 0 := e1
      rw [if_pos e1']
      refine ⟨_, am_ev 5 (some .int) false [] ok_M_put am_mP_146 (by rw [am_m_146]) (by rw [am_m_146]) (fun h => by cases h) (Nat.le_of_ble_eq_true rfl) (fun Go hG => ?_), RM_fnd hx (by decide)⟩
      refine hG 200 _ _ _ _ _ _ ?_
      refine Exists.intro 1 (Exists.intro _ (Exists.intro _ ⟨by decide, hc, ?_⟩))
      refine bn_t (by decide) ?_
      refine Exists.intro j ⟨by omega, rfl, ?_⟩
      refine br_f (by rw [hr1]; exact e2) ?_
      refine Exists.intro 0 (Exists.intro _ (Exists.intro _ ⟨by decide, c_M_found I F S.2.2.2.2.2.2.1 S.2.2.2.2.2.2.2 1 (by decide), ?_⟩))
      exact ⟨rfl, rfl, rfl, rfl⟩
    · have e1' : ¬ tz S j < 0 := e1
      rw [if_neg e1']
      have hc2 := c_M_in (mH I F S.2.2.2.2.2.2.1 S.2.2.2.2.2.2.2) i (nI 0) (F 7 j - nI 1)
      rw [hr1'] at hc2
      cases hi : in3 i (nI 0) (tz S j - nI 1) with
      | false =>
        rw [if_pos rfl]
        rw [hi, ← hr1'] at hc2
        refine ⟨_, am_ev 5 (some .int) false [] ok_M_put am_mP_146 (by rw [am_m_146]) (by rw [am_m_146]) (fun h => by cases h) (Nat.le_of_ble_eq_true rfl) (fun Go hG => ?_), RM_fnd hx (by decide)⟩
        refine hG 200 _ _ _ _ _ _ ?_
        refine Exists.intro 1 (Exists.intro _ (Exists.intro _ ⟨by decide, hc, ?_⟩))
        refine bn_t (by decide) ?_
        refine Exists.intro j ⟨by omega, rfl, ?_⟩
        refine br_t (by rw [hr1]; exact e2) ?_
        refine Exists.intro j ⟨by omega, rfl, ?_⟩
        refine Exists.intro 0 (Exists.intro _ (Exists.intro _ ⟨by decide, hc2, ?_⟩))
        refine bn_f rfl ?_
        refine Exists.intro 0 (Exists.intro _ (Exists.intro _ ⟨by decide, c_M_found I F S.2.2.2.2.2.2.1 S.2.2.2.2.2.2.2 2 (by decide), ?_⟩))
        exact ⟨rfl, rfl, rfl, rfl⟩
      | true =>
        rw [if_neg (by decide)]
        rw [hi, ← hr1'] at hc2
        obtain ⟨q, hq, rfl⟩ := in3_nat2 (k := k) (by omega) e0 hi
        rw [nat_nI (by omega)]
        have hnk : nat (S.2.2.1.1 j) = k := by
          have e0' : S.2.2.1.1 j = nI k := e0
          rw [e0', nat_nI (by omega)]
        have hq3 : F 6 (60 * j + q) = tc S j q := hr3 q (by rw [hnk]; exact hq)
        have hx2 : RMx I (va_up F 6 (upd (F 6) (60 * j + q) x.toInt8.toInt32.toInt8.toInt32)) (sX S (S.2.2.1.1, set2 S.2.2.1.2 j q x.toInt8.toInt32)) := by
          refine ⟨hs, hr, fun a ha => ?_, hl⟩
          obtain ⟨g1, g2, g3⟩ := ht a ha
          refine ⟨g1, g2, fun b hb => ?_⟩
          have h60 := tx60 (S := S) ht ha hb
          show upd (F 6) (60 * j + q) x.toInt8.toInt32.toInt8.toInt32 (60 * a + b) = set2 S.2.2.1.2 j q x.toInt8.toInt32 a b
          unfold upd set2
          by_cases hab : a = j ∧ b = q
          · rw [if_pos hab, if_pos (by omega)]
            simp
          · rw [if_neg hab, if_neg (by omega)]
            exact g3 b hb
        rw [← hq3]
        refine ⟨_, am_ev 5 (some .int) false [] ok_M_put am_mP_146 (by rw [am_m_146]) (by rw [am_m_146]) (fun h => by cases h) (Nat.le_of_ble_eq_true rfl) (fun Go hG => ?_), RM_of hx2⟩
        refine hG 200 _ _ _ _ _ _ ?_
        refine Exists.intro 1 (Exists.intro _ (Exists.intro _ ⟨by decide, hc, ?_⟩))
        refine bn_t (by decide) ?_
        refine Exists.intro j ⟨by omega, rfl, ?_⟩
        refine br_t (by rw [hr1]; exact e2) ?_
        refine Exists.intro j ⟨by omega, rfl, ?_⟩
        refine Exists.intro 0 (Exists.intro _ (Exists.intro _ ⟨by decide, hc2, ?_⟩))
        refine bn_t (by decide) ?_
        refine Exists.intro (60 * j + q) ⟨by omega, nI_idx 60 j q, ?_⟩
        refine Exists.intro (60 * j + q) ⟨by omega, nI_idx 60 j q, ?_⟩
        exact ⟨rfl, rfl, rfl, rfl⟩

theorem pm_M_mean (S : Sta) (hp : List Am_C) (h : RM S hp) (r : Int32) : ∃ hp', Am_Ev false 4 0 0 143 [.ref 0, .int r] hp (some (.int (spMean S r).1)) hp' ∧ RM (spMean S r).2 hp' := by
  obtain ⟨I, F, rfl, hx⟩ := h
  obtain ⟨hs, hr, ht, hl⟩ := id hx
  unfold spMean wrR
  cases ho : okR r with
  | false =>
    rw [if_pos rfl]
    refine ⟨_, am_ev 5 (some .int) false [44] ok_M_mean am_mP_143 (by rw [am_m_143]) (by rw [am_m_143]) (fun h => by cases h) (Nat.le_of_ble_eq_true rfl) (fun Go hG => ?_), RM_of hx⟩
    refine hG 200 _ _ _ _ _ _ ?_
    have hc := c_M_isRow (mH I F S.2.2.2.2.2.2.1 S.2.2.2.2.2.2.2) r
    rw [show in3 r (nI 0) (nI 5) = false from ho] at hc
    refine Exists.intro 1 (Exists.intro _ (Exists.intro _ ⟨by decide, hc, ?_⟩))
    clear hc
    refine bn_f rfl ?_
    exact ⟨rfl, rfl, rfl, rfl⟩
  | true =>
    rw [if_neg (by decide)]
    obtain ⟨j, -, hj, rfl⟩ := in3_nat (by decide) (by decide) ho
    rw [nat_nI (by omega)]
    have hc := c_M_isRow (mH I F S.2.2.2.2.2.2.1 S.2.2.2.2.2.2.2) (nI j)
    rw [in3_nI (by omega) (by omega) hj] at hc
    obtain ⟨hr1, hr2, hr3⟩ := hr j (by omega)
    have hr1' : F 5 j = rz S j := hr1
    rcases szOk_neg (by decide) hr2 with ⟨e0, e1, e2⟩ | ⟨k, hk, e0, e1, e2⟩
    · have e1' : rz S j < 0 := e1
      rw [if_pos e1']
      refine ⟨_, am_ev 5 (some .int) false [44] ok_M_mean am_mP_143 (by rw [am_m_143]) (by rw [am_m_143]) (fun h => by cases h) (Nat.le_of_ble_eq_true rfl) (fun Go hG => ?_), RM_fnd hx (by decide)⟩
      refine hG 200 _ _ _ _ _ _ ?_
      refine Exists.intro 1 (Exists.intro _ (Exists.intro _ ⟨by decide, hc, ?_⟩))
      refine bn_t (by decide) ?_
      refine Exists.intro j ⟨by omega, rfl, ?_⟩
      refine br_f (by rw [hr1]; exact e2) ?_
      refine Exists.intro 0 (Exists.intro _ (Exists.intro _ ⟨by decide, c_M_found I F S.2.2.2.2.2.2.1 S.2.2.2.2.2.2.2 1 (by decide), ?_⟩))
      exact ⟨rfl, rfl, rfl, rfl⟩
    · have e1' : ¬ rz S j < 0 := e1
      rw [if_neg e1']
      have e0' : rz S j = nI k := e0
      by_cases hz : rz S j = 0
      · rw [if_pos hz]
        refine ⟨_, am_ev 5 (some .int) false [44] ok_M_mean am_mP_143 (by rw [am_m_143]) (by rw [am_m_143]) (fun h => by cases h) (Nat.le_of_ble_eq_true rfl) (fun Go hG => ?_), RM_fnd hx (by decide)⟩
        refine hG 200 _ _ _ _ _ _ ?_
        refine Exists.intro 1 (Exists.intro _ (Exists.intro _ ⟨by decide, hc, ?_⟩))
        refine bn_t (by decide) ?_
        refine Exists.intro j ⟨by omega, rfl, ?_⟩
        refine br_t (by rw [hr1]; exact e2) ?_
        refine Exists.intro j ⟨by omega, rfl, ?_⟩
        refine bn_f (by rw [hr1']; exact hz) ?_
        refine Exists.intro 0 (Exists.intro _ (Exists.intro _ ⟨by decide, c_M_found I F S.2.2.2.2.2.2.1 S.2.2.2.2.2.2.2 4 (by decide), ?_⟩))
        exact ⟨rfl, rfl, rfl, rfl⟩
      · rw [if_neg hz]
        have hnk : nat (rz S j) = k := by rw [e0', nat_nI (by omega)]
        rw [hnk]
        refine ⟨_, am_ev 5 (some .int) false [44] ok_M_mean am_mP_143 (by rw [am_m_143]) (by rw [am_m_143]) (fun h => by cases h) (Nat.le_of_ble_eq_true rfl) (fun Go hG => ?_), RM_tell hx _⟩
        have L : ∀ (c q : Nat), q + c = k → Go 44 [some (.ref 0), some (.int (nI j)), some (.long (sumL (rc S j) q)), none, some (.int (nI q))] [] (mH I F S.2.2.2.2.2.2.1 S.2.2.2.2.2.2.2) 0 0 := by
          intro c
          induction c with
          | zero =>
            intro q hq
            refine hG 200 _ _ _ _ _ _ ?_
            refine Exists.intro j ⟨by omega, rfl, ?_⟩
            refine br_t (by rw [hr1', e0']; exact nI_le (by omega) (by omega)) ?_
            refine Exists.intro j ⟨by omega, rfl, ?_⟩
            rw [hr1']
            have hq : q = k := by omega
            subst hq
            refine And.intro ?_ ?_
            · intro q0
              apply hz
              have q1 := (fa0 (rz S j)).mp q0
              exact q1
            · refine Exists.intro 0 (Exists.intro _ (Exists.intro _ ⟨by decide, c_M_tell I F S.2.2.2.2.2.2.1 S.2.2.2.2.2.2.2 _, ?_⟩))
              exact ⟨rfl, rfl, rfl, rfl⟩
          | succ c ih =>
            intro q hq
            refine hG 200 _ _ _ _ _ _ ?_
            refine Exists.intro j ⟨by omega, rfl, ?_⟩
            refine br_f (by rw [hr1', e0']; exact nI_ge (by omega) (by omega)) ?_
            refine Exists.intro (40 * j + q) ⟨by omega, nI_idx 40 j q, ?_⟩
            have hq3 : F 4 (40 * j + q) = rc S j q := hr3 q (by show q < nat (rz S j); rw [hnk]; omega)
            rw [hq3]
            have h9 := ih (q + 1) (by omega)
            rw [← nI_s1] at h9
            exact h9
        refine hG 200 _ _ _ _ _ _ ?_
        refine Exists.intro 1 (Exists.intro _ (Exists.intro _ ⟨by decide, hc, ?_⟩))
        refine bn_t (by decide) ?_
        refine Exists.intro j ⟨by omega, rfl, ?_⟩
        refine br_t (by rw [hr1]; exact e2) ?_
        refine Exists.intro j ⟨by omega, rfl, ?_⟩
        refine bn_t (by rw [hr1']; exact hz) ?_
        exact L k 0 (by omega)

def spFndg (S : Sta) (f : Int32) : Int32 × Sta := if in3 f (nI 1) (nI 5) = false then (-nI 1, S) else (S.2.2.2.2.2.1 (nat f), S)

theorem pm_M_findings (S : Sta) (hp : List Am_C) (h : RM S hp) (f : Int32) : ∃ hp', Am_Ev false 4 0 0 221 [.ref 0, .int f] hp (some (.int (spFndg S f).1)) hp' ∧ RM (spFndg S f).2 hp' := by
  obtain ⟨I, F, rfl, hx⟩ := h
  obtain ⟨hs, hr, ht, hl⟩ := id hx
  unfold spFndg
  cases ho : in3 f (nI 1) (nI 5) with
  | false =>
    rw [if_pos rfl]
    refine ⟨_, am_ev 2 (some .int) false [] ok_M_findings am_mP_221 (by rw [am_m_221]) (by rw [am_m_221]) (fun h => by cases h) (Nat.le_of_ble_eq_true rfl) (fun Go hG => ?_), RM_of hx⟩
    refine hG 200 _ _ _ _ _ _ ?_
    have hc := c_M_in (mH I F S.2.2.2.2.2.2.1 S.2.2.2.2.2.2.2) f (nI 1) (nI 5)
    rw [ho] at hc
    refine Exists.intro 0 (Exists.intro _ (Exists.intro _ ⟨by decide, hc, ?_⟩))
    clear hc
    refine br_t rfl ?_
    exact ⟨rfl, rfl, rfl, rfl⟩
  | true =>
    rw [if_neg (by decide)]
    obtain ⟨j, hj0, hj, rfl⟩ := in3_nat (by decide) (by decide) ho
    rw [nat_nI (by omega)]
    refine ⟨_, am_ev 2 (some .int) false [] ok_M_findings am_mP_221 (by rw [am_m_221]) (by rw [am_m_221]) (fun h => by cases h) (Nat.le_of_ble_eq_true rfl) (fun Go hG => ?_), RM_of hx⟩
    refine hG 200 _ _ _ _ _ _ ?_
    have hc := c_M_in (mH I F S.2.2.2.2.2.2.1 S.2.2.2.2.2.2.2) (nI j) (nI 1) (nI 5)
    rw [ho] at hc
    refine Exists.intro 0 (Exists.intro _ (Exists.intro _ ⟨by decide, hc, ?_⟩))
    clear hc
    refine br_f (by decide) ?_
    refine Exists.intro j ⟨by omega, rfl, ?_⟩
    exact ⟨by rw [hl.2.2 j (by omega)], rfl, rfl, rfl⟩

theorem pm_M_asked (S : Sta) (hp : List Am_C) (h : RM S hp) : ∃ hp', Am_Ev false 0 0 0 213 [.ref 0] hp (some (.int (S.2.2.2.1))) hp' ∧ RM S hp' := by
  obtain ⟨I, F, rfl, hx⟩ := h
  have h1 := c_M_asked I F S.2.2.2.2.2.2.1 S.2.2.2.2.2.2.2
  rw [hx.2.2.2.1] at h1
  exact ⟨_, h1, RM_of hx⟩

theorem pm_M_finding (S : Sta) (hp : List Am_C) (h : RM S hp) : ∃ hp', Am_Ev false 0 0 0 220 [.ref 0] hp (some (.int (S.2.2.2.2.1))) hp' ∧ RM S hp' := by
  obtain ⟨I, F, rfl, hx⟩ := h
  have h1 := c_M_finding I F S.2.2.2.2.2.2.1 S.2.2.2.2.2.2.2
  rw [hx.2.2.2.2.1] at h1
  exact ⟨_, h1, RM_of hx⟩

theorem pm_M_upper (S : Sta) (hp : List Am_C) (h : RM S hp) : ∃ hp', Am_Ev false 0 0 0 214 [.ref 0] hp (some (.long (S.2.2.2.2.2.2.1))) hp' ∧ RM S hp' := by
  obtain ⟨I, F, rfl, hx⟩ := h
  exact ⟨_, c_M_upper I F S.2.2.2.2.2.2.1 S.2.2.2.2.2.2.2, RM_of hx⟩

theorem pm_M_lower (S : Sta) (hp : List Am_C) (h : RM S hp) : ∃ hp', Am_Ev false 0 0 0 215 [.ref 0] hp (some (.long (S.2.2.2.2.2.2.2))) hp' ∧ RM S hp' := by
  obtain ⟨I, F, rfl, hx⟩ := h
  exact ⟨_, c_M_lower I F S.2.2.2.2.2.2.1 S.2.2.2.2.2.2.2, RM_of hx⟩

