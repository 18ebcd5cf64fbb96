/-! ===== kinds, next: what they come to; the reference ===== -/
def prB (c : Nat → Int32) (m : Nat) : Bool := okH (c (2 * m)) && in3 (c (2 * m + 1)) (nI 1) (nI 15)
def allP (c : Nat → Int32) : Nat → Bool
  | 0 => true
  | m + 1 => allP c m && prB c m
theorem allP_at {c : Nat → Int32} {i : Nat} : ∀ {z : Nat}, allP c z = true → i < z → prB c i = true
  | 0, _, h => absurd h (Nat.not_lt_zero _)
  | z + 1, h, hi => by
    have h' : (allP c z && prB c z) = true := h
    rw [Bool.and_eq_true] at h'
    by_cases e : i = z
    · rw [e]; exact h'.2
    · exact allP_at h'.1 (by omega)
def szB (k : Nat) : Bool := decide (k ≤ 16 ∧ k % 2 = 0)
def wrPc (S : Sta) (i r : Int32) : Nat := if okI S i = false then 9 else if okR r = false then 9 else if rz S (nat r) < 0 then 1 else if szB (nat (rz S (nat r))) = false then 5 else if allP (rc S (nat r)) (nat (rz S (nat r)) / 2) = false then 3 else 0
theorem wrPc_or (S : Sta) (i r : Int32) : wrPc S i r < 6 ∨ wrPc S i r = 9 := by
  unfold wrPc
  repeat' split
  all_goals omega
theorem bt {b : Bool} (h : ¬ b = false) : b = true := by
  cases b with
  | true => rfl
  | false => exact absurd rfl h
theorem wrPc_0 {S : Sta} {i r : Int32} (h : wrPc S i r = 0) : okR r = true ∧ ¬ rz S (nat r) < 0 ∧ szB (nat (rz S (nat r))) = true ∧ allP (rc S (nat r)) (nat (rz S (nat r)) / 2) = true := by
  unfold wrPc at h
  by_cases h0 : okI S i = false
  · rw [if_pos h0] at h; omega
  · rw [if_neg h0] at h
    by_cases h1 : okR r = false
    · rw [if_pos h1] at h; omega
    · rw [if_neg h1] at h
      by_cases h2 : rz S (nat r) < 0
      · rw [if_pos h2] at h; omega
      · rw [if_neg h2] at h
        by_cases h3 : szB (nat (rz S (nat r))) = false
        · rw [if_pos h3] at h; omega
        · rw [if_neg h3] at h
          by_cases h4 : allP (rc S (nat r)) (nat (rz S (nat r)) / 2) = false
          · rw [if_pos h4] at h; omega
          · exact ⟨bt h1, h2, bt h3, bt h4⟩
def fitB (c : Nat → Int32) (k : Nat) : Nat → Bool
  | 0 => true
  | m + 1 => fitB c k m && decide (landI (nI k) (c (2 * m)) = c (2 * m + 1))
def kdN (p : Nat → Bool) : Nat → Nat
  | 0 => 0
  | n + 1 => kdN p n ||| (if p n then 2 ^ n else 0)
theorem kdN_lt {p : Nat → Bool} : ∀ {n : Nat}, kdN p n < 2 ^ n
  | 0 => by show 0 < 1; omega
  | n + 1 => by
    have ih := kdN_lt (p := p) (n := n)
    show kdN p n ||| (if p n then 2 ^ n else 0) < 2 ^ (n + 1)
    refine Nat.or_lt_two_pow ?_ ?_
    · have : (2 : Nat) ^ n < 2 ^ (n + 1) := Nat.pow_lt_pow_right (by decide) (by omega)
      omega
    · split
      · exact Nat.pow_lt_pow_right (by decide) (by omega)
      · exact Nat.two_pow_pos _
theorem kdN_t {p : Nat → Bool} {k : Nat} (hk : k < 31) (h : p k = true) : nI (kdN p (k + 1)) = nI (kdN p k) ||| nI 1 <<< (nI k &&& 31) := by
  rw [nI_one_shl hk, nI_or]
  show nI (kdN p k ||| (if p k = true then 2 ^ k else 0)) = _
  rw [if_pos h]
theorem kdN_f {p : Nat → Bool} {k : Nat} (h : p k = false) : nI (kdN p (k + 1)) = nI (kdN p k) ||| nI 0 := by
  rw [nI_or]
  show nI (kdN p k ||| (if p k = true then 2 ^ k else 0)) = _
  rw [if_neg (by rw [h]; decide)]
def cntN (p : Nat → Bool) : Nat → Nat
  | 0 => 0
  | k + 1 => cntN p k + (if p k then 1 else 0)
theorem cntN_le {p : Nat → Bool} : ∀ {n : Nat}, cntN p n ≤ n
  | 0 => Nat.le_refl _
  | n + 1 => by
    have ih := cntN_le (p := p) (n := n)
    show cntN p n + (if p n then 1 else 0) ≤ n + 1
    split <;> omega
theorem cntN_t {p : Nat → Bool} {k : Nat} (h : p k = true) : cntN p (k + 1) = cntN p k + 1 := by
  show cntN p k + (if p k = true then 1 else 0) = _
  rw [if_pos h]
theorem cntN_f {p : Nat → Bool} {k : Nat} (h : p k = false) : cntN p (k + 1) = cntN p k := by
  show cntN p k + (if p k = true then 1 else 0) = _
  rw [if_neg (by rw [h]; decide), Nat.add_zero]
def mxN (f : Nat → Nat) : Nat → Nat
  | 0 => 0
  | k + 1 => if mxN f k < f k then f k else mxN f k
theorem mxN_le {f : Nat → Nat} {b : Nat} (h : ∀ k, f k ≤ b) : ∀ {n : Nat}, mxN f n ≤ b
  | 0 => Nat.zero_le _
  | n + 1 => by
    have ih := mxN_le h (n := n)
    have := h n
    unfold mxN
    split <;> assumption
def gM (s h : Nat) : Nat := mxN (fun a => cntN (fun b => s.testBit a && (s.testBit b && decide (lnd a h = lnd b h))) 6) 6
def gC (s h : Nat) : Nat := mxN (fun a => cntN (fun b => s.testBit b && decide (lnd b h = lnd a h)) 6) 6
theorem gM_le (s h : Nat) : gM s h ≤ 6 := mxN_le (fun k => cntN_le)
theorem gC_le (s h : Nat) : gC s h ≤ 6 := mxN_le (fun k => cntN_le)
def nxF (s : Nat) : Nat → Int32 × Nat
  | 0 => (-nI 9, 99)
  | k + 1 => if gM s (k + 1) < (nxF s k).2 then (nI (k + 1), gM s (k + 1)) else nxF s k
def htC (s : Nat) : Nat → Nat
  | 0 => 1
  | k + 1 => if gC s (k + 2) < gC s (htC s k) then k + 2 else htC s k
theorem htC_le (s : Nat) : ∀ k, 1 ≤ htC s k ∧ htC s k ≤ k + 1
  | 0 => ⟨Nat.le_refl _, Nat.le_refl _⟩
  | k + 1 => by
    have ih := htC_le s k
    unfold htC
    split <;> omega
theorem nx_same : ∀ s, s < 64 → ¬ s = 0 → nxF s 7 = (nI (htC s 6), gC s (htC s 6)) := by decide +kernel
theorem ldR_inj {x y : Nat} (hx : x ≤ 14) (hy : y ≤ 14) : ldR x = ldR y ↔ x = y := by
  constructor
  · intro h
    unfold ldR at h
    by_cases e1 : x = 0
    · by_cases e2 : y = 0
      · omega
      · rw [if_pos e1, if_neg e2] at h
        exact absurd h.symm (nI_m9 (by omega))
    · by_cases e2 : y = 0
      · rw [if_neg e1, if_pos e2] at h
        exact absurd h (nI_m9 (by omega))
      · rw [if_neg e1, if_neg e2] at h
        exact (nI_eqd (by omega) (by omega)).mp h
  · intro h; rw [h]
theorem landI_eq {a b h : Nat} (ha : a < 6) (hb : b < 6) (hh : 1 ≤ h ∧ h ≤ 7) : landI (nI a) (nI h) = landI (nI b) (nI h) ↔ lnd a h = lnd b h := by
  rw [landI_S ha hh, landI_S hb hh, ldR_inj (lnd_le ha hh) (lnd_le hb hh)]
def spFit (S : Sta) (r : Int32) : Nat := kdN (fun k => fitB (rc S (nat r)) k (nat (rz S (nat r)) / 2)) 6
def spKinds (S : Sta) (i r : Int32) : Int32 × Sta := refS S (wrPc S i r) (nI (spFit S r), S)
def spNext (S : Sta) (i r : Int32) : Int32 × Sta := refS S (wrPc S i r) (if spFit S r = 0 then (-nI 9, S) else (nI (htC (spFit S r) 6), tellS S (nI (gC (spFit S r) (htC (spFit S r) 6)))))

theorem c_M_wrongPairs {I : Nat → Int32} {F : Nat → Nat → Int32} {S : Sta} (hx : RMx I F S) (i r : Int32) : Am_Ev false 2 0 0 195 [.ref 0, .int i, .int r] (mH I F S.2.2.2.2.2.2.1 S.2.2.2.2.2.2.2) (some (.int (wrV (wrPc S i r)))) (mFd I F S.2.2.2.2.2.2.1 S.2.2.2.2.2.2.2 (wrPc S i r)) := by
  obtain ⟨hs, hr, ht, hl⟩ := id hx
  obtain ⟨g1, g2, g3, g4, g5, g6⟩ := hs
  have hI : I 2 = nI (eN S) := g1
  unfold wrPc
  have hct := c_M_isThing I F S.2.2.2.2.2.2.1 S.2.2.2.2.2.2.2 i
  rw [hI] at hct
  have hc := c_M_isRow (mH I F S.2.2.2.2.2.2.1 S.2.2.2.2.2.2.2) r
  cases hoi : okI S i with
  | false =>
    rw [show in3 i (nI 0) (nI (eN S) - nI 1) = false from hoi] at hct
    rw [if_pos rfl]
    refine am_ev 4 (some .int) false [62] ok_M_wrongPairs am_mP_195 (by rw [am_m_195]) (by rw [am_m_195]) (fun h => by cases h) (Nat.le_of_ble_eq_true rfl) (fun Go hG => ?_)
    refine hG 200 _ _ _ _ _ _ ?_
    refine Exists.intro 1 (Exists.intro _ (Exists.intro _ ⟨by decide, hct, ?_⟩))
    refine br_t rfl ?_
    exact ⟨rfl, rfl, rfl, rfl⟩
  | true =>
  rw [show in3 i (nI 0) (nI (eN S) - nI 1) = true from hoi] at hct
  rw [if_neg (by decide)]
  cases ho : okR r with
  | false =>
    rw [show in3 r (nI 0) (nI 5) = false from ho] at hc
    rw [if_pos rfl]
    refine am_ev 4 (some .int) false [62] ok_M_wrongPairs am_mP_195 (by rw [am_m_195]) (by rw [am_m_195]) (fun h => by cases h) (Nat.le_of_ble_eq_true rfl) (fun Go hG => ?_)
    refine hG 200 _ _ _ _ _ _ ?_
    refine Exists.intro 1 (Exists.intro _ (Exists.intro _ ⟨by decide, hct, ?_⟩))
    refine br_f (by decide) ?_
    refine Exists.intro 1 (Exists.intro _ (Exists.intro _ ⟨by decide, hc, ?_⟩))
    refine bn_f rfl ?_
    exact ⟨rfl, rfl, rfl, rfl⟩
  | true =>
    rw [show in3 r (nI 0) (nI 5) = true from ho] at hc
    rw [if_neg (by decide)]
    obtain ⟨j, -, hj, rfl⟩ := in3_nat (by decide) (by decide) ho
    rw [nat_nI (by omega)]
    obtain ⟨q1, q2, q3⟩ := hr j (by omega)
    have q1' : F 5 j = rz S j := q1
    have q2' : szOk 40 (rz S j) := q2
    by_cases e1 : rz S j < 0
    · rw [if_pos e1]
      refine am_ev 4 (some .int) false [62] ok_M_wrongPairs am_mP_195 (by rw [am_m_195]) (by rw [am_m_195]) (fun h => by cases h) (Nat.le_of_ble_eq_true rfl) (fun Go hG => ?_)
      refine hG 200 _ _ _ _ _ _ ?_
      refine Exists.intro 1 (Exists.intro _ (Exists.intro _ ⟨by decide, hct, ?_⟩))
      refine br_f (by decide) ?_
      refine Exists.intro 1 (Exists.intro _ (Exists.intro _ ⟨by decide, hc, ?_⟩))
      refine bn_t (by decide) ?_
      refine Exists.intro j ⟨by omega, rfl, ?_⟩
      refine br_f (by rw [q1']; exact Int32.not_le.mpr e1) ?_
      refine Exists.intro 0 (Exists.intro _ (Exists.intro _ ⟨by decide, c_M_found I F S.2.2.2.2.2.2.1 S.2.2.2.2.2.2.2 1 (by decide), ?_⟩))
      exact ⟨rfl, rfl, rfl, rfl⟩
    · rw [if_neg e1]
      obtain ⟨e3, e4⟩ := szOk_nI (by decide) q2' e1
      generalize hz : nat (rz S j) = z at *
      have hF5 : F 5 j = nI z := by rw [q1', e3]
      cases hio : szB z with
      | false =>
        rw [if_pos rfl]
        have hio' := of_decide_eq_false hio
        refine am_ev 4 (some .int) false [62] ok_M_wrongPairs am_mP_195 (by rw [am_m_195]) (by rw [am_m_195]) (fun h => by cases h) (Nat.le_of_ble_eq_true rfl) (fun Go hG => ?_)
        refine hG 200 _ _ _ _ _ _ ?_
        refine Exists.intro 1 (Exists.intro _ (Exists.intro _ ⟨by decide, hct, ?_⟩))
        refine br_f (by decide) ?_
        refine Exists.intro 1 (Exists.intro _ (Exists.intro _ ⟨by decide, hc, ?_⟩))
        refine bn_t (by decide) ?_
        refine Exists.intro j ⟨by omega, rfl, ?_⟩
        refine br_t (by rw [q1']; exact Int32.not_lt.mp e1) ?_
        refine Exists.intro j ⟨by omega, rfl, ?_⟩
        refine And.intro (fun h1 => ?_) (fun h1 => ?_)
        · refine Exists.intro 0 (Exists.intro _ (Exists.intro _ ⟨by decide, c_M_found I F S.2.2.2.2.2.2.1 S.2.2.2.2.2.2.2 5 (by decide), ?_⟩))
          exact ⟨rfl, rfl, rfl, rfl⟩
        · refine Exists.intro j ⟨by omega, rfl, ?_⟩
          refine And.intro (by decide) ?_
          rw [hF5] at h1 ⊢
          rw [nI_ltI (by omega) (by omega)] at h1
          rw [pk_rem (by omega) (by omega) (by omega)]
          refine br_f (nI_nle (by omega) (by omega)) ?_
          refine Exists.intro 0 (Exists.intro _ (Exists.intro _ ⟨by decide, c_M_found I F S.2.2.2.2.2.2.1 S.2.2.2.2.2.2.2 5 (by decide), ?_⟩))
          exact ⟨rfl, rfl, rfl, rfl⟩
      | true =>
        rw [if_neg (by decide)]
        have hio' := of_decide_eq_true hio
        refine am_ev 4 (some .int) false [62] ok_M_wrongPairs am_mP_195 (by rw [am_m_195]) (by rw [am_m_195]) (fun h => by cases h) (Nat.le_of_ble_eq_true rfl) (fun Go hG => ?_)
        have L : ∀ (i2 k : Nat), k + i2 = z / 2 → allP (rc S j) k = true → Go 62 [some (.ref 0), some (.int i), some (.int (nI j)), some (.int (nI (2 * k)))] [] (mH I F S.2.2.2.2.2.2.1 S.2.2.2.2.2.2.2) 0 0 := by
          intro i2
          induction i2 with
          | zero =>
            intro k hk ha
            have hk' : k = z / 2 := by omega
            rw [← hk', if_neg (by rw [ha]; decide)] at hG
            refine hG 200 _ _ _ _ _ _ ?_
            refine Exists.intro j ⟨by omega, rfl, ?_⟩
            refine br_t (by rw [hF5]; exact nI_le (by omega) (by omega)) ?_
            exact ⟨rfl, rfl, rfl, rfl⟩
          | succ i2 ih =>
            intro k hk ha
            have hcell : F 4 (40 * j + 2 * k) = rc S j (2 * k) := q3 (2 * k) (by show 2 * k < nat (rz S j); omega)
            have hcell2 : F 4 (40 * j + 2 * k + 1) = rc S j (2 * k + 1) := q3 (2 * k + 1) (by show 2 * k + 1 < nat (rz S j); omega)
            have hih := c_M_isHeight (mH I F S.2.2.2.2.2.2.1 S.2.2.2.2.2.2.2) (rc S j (2 * k))
            have hin := c_M_in (mH I F S.2.2.2.2.2.2.1 S.2.2.2.2.2.2.2) (rc S j (2 * k + 1)) (nI 1) (nI 15)
            have hff : prB (rc S j) k = false → allP (rc S j) (z / 2) = false := by
              intro h
              cases h5 : allP (rc S j) (z / 2) with
              | false => rfl
              | true => rw [allP_at h5 (by omega)] at h; cases h
            cases hok : okH (rc S j (2 * k)) with
            | false =>
              rw [show in3 (rc S j (2 * k)) (nI 1) (nI 7) = false from hok, ← hcell] at hih
              rw [if_pos (hff (by unfold prB; rw [hok]; rfl))] at hG
              refine hG 200 _ _ _ _ _ _ ?_
              refine Exists.intro j ⟨by omega, rfl, ?_⟩
              refine br_f (by rw [hF5]; exact nI_ge (by omega) (by omega)) ?_
              refine Exists.intro (40 * j + 2 * k) ⟨by omega, nI_idx _ _ _, ?_⟩
              refine Exists.intro 1 (Exists.intro _ (Exists.intro _ ⟨by decide, hih, ?_⟩))
              refine br_t rfl ?_
              refine Exists.intro 0 (Exists.intro _ (Exists.intro _ ⟨by decide, c_M_found I F S.2.2.2.2.2.2.1 S.2.2.2.2.2.2.2 3 (by decide), ?_⟩))
              exact ⟨rfl, rfl, rfl, rfl⟩
            | true =>
              rw [show in3 (rc S j (2 * k)) (nI 1) (nI 7) = true from hok, ← hcell] at hih
              cases hok2 : in3 (rc S j (2 * k + 1)) (nI 1) (nI 15) with
              | false =>
                rw [hok2, ← hcell2] at hin
                rw [if_pos (hff (by unfold prB; rw [hok, hok2]; rfl))] at hG
                refine hG 200 _ _ _ _ _ _ ?_
                refine Exists.intro j ⟨by omega, rfl, ?_⟩
                refine br_f (by rw [hF5]; exact nI_ge (by omega) (by omega)) ?_
                refine Exists.intro (40 * j + 2 * k) ⟨by omega, nI_idx _ _ _, ?_⟩
                refine Exists.intro 1 (Exists.intro _ (Exists.intro _ ⟨by decide, hih, ?_⟩))
                refine br_f (by decide) ?_
                refine Exists.intro (40 * j + 2 * k + 1) ⟨by omega, by rw [nI_idx, nI_s1], ?_⟩
                refine Exists.intro 0 (Exists.intro _ (Exists.intro _ ⟨by decide, hin, ?_⟩))
                refine bn_f rfl ?_
                refine Exists.intro 0 (Exists.intro _ (Exists.intro _ ⟨by decide, c_M_found I F S.2.2.2.2.2.2.1 S.2.2.2.2.2.2.2 3 (by decide), ?_⟩))
                exact ⟨rfl, rfl, rfl, rfl⟩
              | true =>
                rw [hok2, ← hcell2] at hin
                have h9 := ih (k + 1) (by omega) (by show (allP (rc S j) k && prB (rc S j) k) = true; unfold prB; rw [ha, hok, hok2]; rfl)
                rw [show 2 * (k + 1) = 2 * k + 2 by omega, ← nI_add (2 * k) 2] at h9
                refine hG 200 _ _ _ _ _ _ ?_
                refine Exists.intro j ⟨by omega, rfl, ?_⟩
                refine br_f (by rw [hF5]; exact nI_ge (by omega) (by omega)) ?_
                refine Exists.intro (40 * j + 2 * k) ⟨by omega, nI_idx _ _ _, ?_⟩
                refine Exists.intro 1 (Exists.intro _ (Exists.intro _ ⟨by decide, hih, ?_⟩))
                refine br_f (by decide) ?_
                refine Exists.intro (40 * j + 2 * k + 1) ⟨by omega, by rw [nI_idx, nI_s1], ?_⟩
                refine Exists.intro 0 (Exists.intro _ (Exists.intro _ ⟨by decide, hin, ?_⟩))
                refine bn_t (by decide) ?_
                exact h9
        refine hG 200 _ _ _ _ _ _ ?_
        refine Exists.intro 1 (Exists.intro _ (Exists.intro _ ⟨by decide, hct, ?_⟩))
        refine br_f (by decide) ?_
        refine Exists.intro 1 (Exists.intro _ (Exists.intro _ ⟨by decide, hc, ?_⟩))
        refine bn_t (by decide) ?_
        refine Exists.intro j ⟨by omega, rfl, ?_⟩
        refine br_t (by rw [q1']; exact Int32.not_lt.mp e1) ?_
        refine Exists.intro j ⟨by omega, rfl, ?_⟩
        refine br_f (by rw [hF5]; exact nI_nlt (by omega) (by omega)) ?_
        refine Exists.intro j ⟨by omega, rfl, ?_⟩
        refine And.intro (by decide) ?_
        rw [hF5, pk_rem (by omega) (by omega) (by omega), hio'.2]
        refine br_t (by decide) ?_
        exact L (z / 2) 0 (by omega) rfl

theorem c_M_kindsBy (I : Nat → Int32) (F : Nat → Nat → Int32) (u v : Int64) (r m : Nat) (hr6 : r ≤ 5) (c : Nat → Int32) (hz : F 5 r = nI (2 * m)) (hm : m ≤ 8) (hc : ∀ i, i < 2 * m → F 4 (40 * r + i) = c i) : Am_Ev false 1 0 0 196 [.ref 0, .int (nI r)] (mH I F u v) (some (.int (nI (kdN (fun k => fitB c k m) 6)))) (mH I F u v) := by
  refine am_ev 6 (some .int) false [4, 16] ok_M_kindsBy am_mP_196 (by rw [am_m_196]) (by rw [am_m_196]) (fun h => by cases h) (Nat.le_of_ble_eq_true rfl) ?_
  intro Go hG
  have L : ∀ (j k : Nat), k + j = 6 → ∀ x1 x2 : Option Value, Go 4 [some (.ref 0), some (.int (nI r)), some (.int (nI (kdN (fun k => fitB c k m) k))), some (.int (nI k)), x1, x2] [] (mH I F u v) 0 0 := by
    intro j
    induction j with
    | zero =>
      intro k hk x1 x2
      refine hG 200 _ _ _ _ _ _ ?_
      refine br_t (nI_le (by omega) (by omega)) ?_
      rw [show k = 6 by omega]
      exact ⟨rfl, rfl, rfl, rfl⟩
    | succ j ih =>
      intro k hk x1 x2
      have L2 : ∀ (i q : Nat), q + i = m → Go 16 [some (.ref 0), some (.int (nI r)), some (.int (nI (kdN (fun k => fitB c k m) k))), some (.int (nI k)), some (.int (b2 (fitB c k q))), some (.int (nI (2 * q)))] [] (mH I F u v) 0 0 := by
        intro i
        induction i with
        | zero =>
          intro q hq
          have h9 := ih (k + 1) (by omega) (some (.int (b2 (fitB c k q)))) (some (.int (nI (2 * q))))
          rw [← nI_s1 k] at h9
          refine hG 200 _ _ _ _ _ _ ?_
          refine Exists.intro r ⟨by omega, rfl, ?_⟩
          refine br_t (by rw [hz]; exact nI_le (by omega) (by omega)) ?_
          refine b2_z (fun h1 => ?_) (fun h1 => ?_)
          · rw [kdN_f (p := (fun k => fitB c k m)) (by rw [show m = q by omega]; exact h1)] at h9
            exact h9
          · rw [kdN_t (p := (fun k => fitB c k m)) (by omega) (by rw [show m = q by omega]; exact h1)] at h9
            exact h9
        | succ i ih2 =>
          intro q hq
          have h9 := ih2 (q + 1) (by omega)
          rw [show 2 * (q + 1) = 2 * q + 2 by omega, ← nI_add (2 * q) 2] at h9
          have hc1 := hc (2 * q) (by omega)
          have hc2 := hc (2 * q + 1) (by omega)
          refine hG 200 _ _ _ _ _ _ ?_
          refine Exists.intro r ⟨by omega, rfl, ?_⟩
          refine br_f (by rw [hz]; exact nI_ge (by omega) (by omega)) ?_
          refine b2_z (fun h1 => ?_) (fun h1 => ?_)
          · rw [show fitB c k (q + 1) = false by show (fitB c k q && _) = false; rw [h1]; rfl] at h9
            exact h9
          · refine Exists.intro (40 * r + 2 * q) ⟨by omega, nI_idx _ _ _, ?_⟩
            refine Exists.intro 0 (Exists.intro _ (Exists.intro _ ⟨by decide, c_M_landing _ _ _, ?_⟩))
            refine Exists.intro (40 * r + 2 * q + 1) ⟨by omega, by rw [nI_idx, nI_s1], ?_⟩
            refine And.intro (fun h2 => ?_) (fun h2 => ?_)
            · rw [show fitB c k (q + 1) = false by
                show (fitB c k q && decide (landI (nI k) (c (2 * q)) = c (2 * q + 1))) = false
                rw [h1, Bool.true_and, ← hc1, ← hc2]
                exact decide_eq_false h2] at h9
              exact h9
            · rw [show fitB c k (q + 1) = true by
                show (fitB c k q && decide (landI (nI k) (c (2 * q)) = c (2 * q + 1))) = true
                rw [h1, Bool.true_and, ← hc1, ← hc2]
                exact decide_eq_true h2] at h9
              exact h9
      refine hG 200 _ _ _ _ _ _ ?_
      refine br_f (nI_ge (by omega) (by omega)) ?_
      exact L2 m 0 (by omega)
  refine hG 200 _ _ _ _ _ _ ?_
  exact L 6 0 (by omega) none none

theorem c_M_greatestPart (hp : List Am_C) (s h : Nat) (hs : s < 64) (hh : 1 ≤ h ∧ h ≤ 7) : Am_Ev false 1 0 0 198 [.int (nI s), .int (nI h)] (hp) (some (.int (nI (gM s h)))) (hp) := by
  refine am_ev 6 (some .int) false [4, 16] ok_M_greatestPart am_mP_198 (by rw [am_m_198]) (by rw [am_m_198]) (fun h => by cases h) (Nat.le_of_ble_eq_true rfl) ?_
  intro Go hG
  have L : ∀ (j a : Nat), a + j = 6 → ∀ x1 x2 : Option Value, Go 4 [some (.int (nI s)), some (.int (nI h)), some (.int (nI (mxN (fun a => cntN (fun b => s.testBit a && (s.testBit b && decide (lnd a h = lnd b h))) 6) a))), some (.int (nI a)), x1, x2] [] hp 0 0 := by
    intro j
    induction j with
    | zero =>
      intro a ha x1 x2
      refine hG 200 _ _ _ _ _ _ ?_
      refine br_t (nI_le (by omega) (by omega)) ?_
      rw [show a = 6 by omega]
      exact ⟨rfl, rfl, rfl, rfl⟩
    | succ j ih =>
      intro a ha x1 x2
      have hca : cntN (fun b => s.testBit a && (s.testBit b && decide (lnd a h = lnd b h))) 6 ≤ 6 := cntN_le
      have hma : mxN (fun a => cntN (fun b => s.testBit a && (s.testBit b && decide (lnd a h = lnd b h))) 6) a ≤ 6 := mxN_le (fun k => cntN_le)
      have hba := c_M_has hp (nI s) (nI a)
      rw [hasB_N (by omega) (by omega)] at hba
      have L2 : ∀ (i b : Nat), b + i = 6 → Go 16 [some (.int (nI s)), some (.int (nI h)), some (.int (nI (mxN (fun a => cntN (fun b => s.testBit a && (s.testBit b && decide (lnd a h = lnd b h))) 6) a))), some (.int (nI a)), some (.int (nI (cntN (fun b => s.testBit a && (s.testBit b && decide (lnd a h = lnd b h))) b))), some (.int (nI b))] [] hp 0 0 := by
        intro i
        induction i with
        | zero =>
          intro b hb
          have h9 := ih (a + 1) (by omega) (some (.int (nI (cntN (fun b => s.testBit a && (s.testBit b && decide (lnd a h = lnd b h))) b)))) (some (.int (nI b)))
          rw [← nI_s1 a] at h9
          have e : mxN (fun a => cntN (fun b => s.testBit a && (s.testBit b && decide (lnd a h = lnd b h))) 6) (a + 1) = if mxN (fun a => cntN (fun b => s.testBit a && (s.testBit b && decide (lnd a h = lnd b h))) 6) a < cntN (fun b => s.testBit a && (s.testBit b && decide (lnd a h = lnd b h))) b then cntN (fun b => s.testBit a && (s.testBit b && decide (lnd a h = lnd b h))) b else mxN (fun a => cntN (fun b => s.testBit a && (s.testBit b && decide (lnd a h = lnd b h))) 6) a := by rw [show b = 6 by omega]; rfl
          rw [e] at h9
          have hcb : cntN (fun b => s.testBit a && (s.testBit b && decide (lnd a h = lnd b h))) b ≤ b := cntN_le
          refine hG 200 _ _ _ _ _ _ ?_
          refine br_t (nI_le (by omega) (by omega)) ?_
          refine And.intro (fun h1 => ?_) (fun h1 => ?_)
          · rw [nI_leI (by omega) (by omega)] at h1
            rw [if_neg (by omega)] at h9
            exact h9
          · rw [nI_leI (by omega) (by omega)] at h1
            rw [if_pos (by omega)] at h9
            exact h9
        | succ i ih2 =>
          intro b hb
          have h9 := ih2 (b + 1) (by omega)
          rw [← nI_s1 b] at h9
          have hbb := c_M_has hp (nI s) (nI b)
          rw [hasB_N (by omega) (by omega)] at hbb
          have iff := landI_eq (a := a) (b := b) (h := h) (by omega) (by omega) hh
          refine hG 200 _ _ _ _ _ _ ?_
          refine br_f (nI_ge (by omega) (by omega)) ?_
          refine Exists.intro 0 (Exists.intro _ (Exists.intro _ ⟨by decide, hba, ?_⟩))
          refine b2_z (fun h1 => ?_) (fun h1 => ?_)
          · rw [cntN_f (p := (fun b => s.testBit a && (s.testBit b && decide (lnd a h = lnd b h)))) (by rw [h1]; rfl)] at h9
            rw [show nI (cntN (fun b => s.testBit a && (s.testBit b && decide (lnd a h = lnd b h))) b) = nI (cntN (fun b => s.testBit a && (s.testBit b && decide (lnd a h = lnd b h))) b) + nI 0 from (add0 _).symm] at h9
            exact h9
          · refine Exists.intro 0 (Exists.intro _ (Exists.intro _ ⟨by decide, hbb, ?_⟩))
            refine b2_z (fun h2 => ?_) (fun h2 => ?_)
            · rw [cntN_f (p := (fun b => s.testBit a && (s.testBit b && decide (lnd a h = lnd b h)))) (by rw [h1, h2]; rfl)] at h9
              rw [show nI (cntN (fun b => s.testBit a && (s.testBit b && decide (lnd a h = lnd b h))) b) = nI (cntN (fun b => s.testBit a && (s.testBit b && decide (lnd a h = lnd b h))) b) + nI 0 from (add0 _).symm] at h9
              exact h9
            · refine Exists.intro 0 (Exists.intro _ (Exists.intro _ ⟨by decide, c_M_landing _ _ _, ?_⟩))
              refine Exists.intro 0 (Exists.intro _ (Exists.intro _ ⟨by decide, c_M_landing _ _ _, ?_⟩))
              refine And.intro (fun h3 => ?_) (fun h3 => ?_)
              · rw [cntN_f (p := (fun b => s.testBit a && (s.testBit b && decide (lnd a h = lnd b h)))) (by rw [h1, h2, decide_eq_false (fun q => h3 (iff.mpr q))]; rfl)] at h9
                rw [show nI (cntN (fun b => s.testBit a && (s.testBit b && decide (lnd a h = lnd b h))) b) = nI (cntN (fun b => s.testBit a && (s.testBit b && decide (lnd a h = lnd b h))) b) + nI 0 from (add0 _).symm] at h9
                exact h9
              · rw [cntN_t (p := (fun b => s.testBit a && (s.testBit b && decide (lnd a h = lnd b h)))) (by rw [h1, h2, decide_eq_true (iff.mp h3)]; rfl), ← nI_s1] at h9
                exact h9
      refine hG 200 _ _ _ _ _ _ ?_
      refine br_f (nI_ge (by omega) (by omega)) ?_
      exact L2 6 0 (by omega)
  refine hG 200 _ _ _ _ _ _ ?_
  exact L 6 0 (by omega) none none

theorem pm_M_kinds (S : Sta) (hp : List Am_C) (hRM : RM S hp) (i r : Int32) : ∃ hp', Am_Ev false 4 0 0 194 [.ref 0, .int i, .int r] hp (some (.int (spKinds S i r).1)) hp' ∧ RM (spKinds S i r).2 hp' := by
  obtain ⟨I, F, rfl, hx⟩ := hRM
  obtain ⟨hs, hr, ht, hl⟩ := id hx
  unfold spKinds
  have hwr := c_M_wrongPairs hx i r
  have hor := wrPc_or S i r
  unfold refS
  by_cases hc0 : wrPc S i r = 0
  · rw [if_pos hc0]
    obtain ⟨c1, c2, c3, c4⟩ := wrPc_0 hc0
    rw [hc0] at hwr
    obtain ⟨j, -, hj, rfl⟩ := in3_nat (by decide) (by decide) c1
    rw [nat_nI (by omega)] at c2 c3 c4
    obtain ⟨q1, q2, q3⟩ := hr j (by omega)
    have q1' : F 5 j = rz S j := q1
    have q2' : szOk 40 (rz S j) := q2
    obtain ⟨e3, e4⟩ := szOk_nI (by decide) q2' c2
    have c3' := of_decide_eq_true c3
    have hsf : spFit S (nI j) = kdN (fun k => fitB (rc S j) k (nat (rz S j) / 2)) 6 := by unfold spFit; rw [nat_nI (by omega)]
    have hkb := c_M_kindsBy I F S.2.2.2.2.2.2.1 S.2.2.2.2.2.2.2 j (nat (rz S j) / 2) hj (rc S j) (by rw [q1', show 2 * (nat (rz S j) / 2) = nat (rz S j) by omega]; exact e3) (by omega) (fun i hi => q3 i (by show i < nat (rz S j); omega))
    rw [← hsf] at hkb
    have hs64 : spFit S (nI j) < 64 := by rw [hsf]; exact kdN_lt (n := 6)
    refine ⟨_, am_ev 4 (some .int) false [] ok_M_kinds am_mP_194 (by rw [am_m_194]) (by rw [am_m_194]) (fun h => by cases h) (Nat.le_of_ble_eq_true rfl) (fun Go hG => ?_), RM_of hx⟩
    refine hG 200 _ _ _ _ _ _ ?_
    refine Exists.intro 2 (Exists.intro _ (Exists.intro _ ⟨by decide, hwr, ?_⟩))
    refine br_t (by decide) ?_
    refine Exists.intro 1 (Exists.intro _ (Exists.intro _ ⟨by decide, hkb, ?_⟩))
    exact ⟨rfl, rfl, rfl, rfl⟩
  · rw [if_neg hc0]
    refine ⟨_, am_ev 4 (some .int) false [] ok_M_kinds am_mP_194 (by rw [am_m_194]) (by rw [am_m_194]) (fun h => by cases h) (Nat.le_of_ble_eq_true rfl) (fun Go hG => ?_), RM_fd hx hc0 hor⟩
    refine hG 200 _ _ _ _ _ _ ?_
    refine Exists.intro 2 (Exists.intro _ (Exists.intro _ ⟨by decide, hwr, ?_⟩))
    refine br_f (wrV_neg hc0).1 ?_
    exact ⟨rfl, rfl, rfl, rfl⟩

theorem pm_M_next (S : Sta) (hp : List Am_C) (hRM : RM S hp) (i r : Int32) : ∃ hp', Am_Ev false 4 0 0 197 [.ref 0, .int i, .int r] hp (some (.int (spNext S i r).1)) hp' ∧ RM (spNext S i r).2 hp' := by
  obtain ⟨I, F, rfl, hx⟩ := hRM
  obtain ⟨hs, hr, ht, hl⟩ := id hx
  unfold spNext
  have hwr := c_M_wrongPairs hx i r
  have hor := wrPc_or S i r
  unfold refS
  by_cases hc0 : wrPc S i r = 0
  · rw [if_pos hc0]
    obtain ⟨c1, c2, c3, c4⟩ := wrPc_0 hc0
    rw [hc0] at hwr
    obtain ⟨j, -, hj, rfl⟩ := in3_nat (by decide) (by decide) c1
    rw [nat_nI (by omega)] at c2 c3 c4
    obtain ⟨q1, q2, q3⟩ := hr j (by omega)
    have q1' : F 5 j = rz S j := q1
    have q2' : szOk 40 (rz S j) := q2
    obtain ⟨e3, e4⟩ := szOk_nI (by decide) q2' c2
    have c3' := of_decide_eq_true c3
    have hsf : spFit S (nI j) = kdN (fun k => fitB (rc S j) k (nat (rz S j) / 2)) 6 := by unfold spFit; rw [nat_nI (by omega)]
    have hkb := c_M_kindsBy I F S.2.2.2.2.2.2.1 S.2.2.2.2.2.2.2 j (nat (rz S j) / 2) hj (rc S j) (by rw [q1', show 2 * (nat (rz S j) / 2) = nat (rz S j) by omega]; exact e3) (by omega) (fun i hi => q3 i (by show i < nat (rz S j); omega))
    rw [← hsf] at hkb
    have hs64 : spFit S (nI j) < 64 := by rw [hsf]; exact kdN_lt (n := 6)
    generalize hsv : spFit S (nI j) = s at hkb hs64 ⊢
    by_cases hs0 : s = 0
    · rw [if_pos hs0]
      refine ⟨_, am_ev 9 (some .int) false [39] ok_M_next am_mP_197 (by rw [am_m_197]) (by rw [am_m_197]) (fun h => by cases h) (Nat.le_of_ble_eq_true rfl) (fun Go hG => ?_), RM_of hx⟩
      refine hG 200 _ _ _ _ _ _ ?_
      refine Exists.intro 2 (Exists.intro _ (Exists.intro _ ⟨by decide, hwr, ?_⟩))
      refine br_t (by decide) ?_
      refine Exists.intro 1 (Exists.intro _ (Exists.intro _ ⟨by decide, hkb, ?_⟩))
      refine bn_f (by rw [hs0]; rfl) ?_
      exact ⟨rfl, rfl, rfl, rfl⟩
    · rw [if_neg hs0]
      have hnx := nx_same s hs64 hs0
      refine ⟨_, am_ev 9 (some .int) false [39] ok_M_next am_mP_197 (by rw [am_m_197]) (by rw [am_m_197]) (fun h => by cases h) (Nat.le_of_ble_eq_true rfl) (fun Go hG => ?_), RM_tell hx _⟩
      have L : ∀ (c q : Nat), q + c = 7 → ∀ x : Option Value, (nxF s q).2 ≤ 99 → Go 39 [some (.ref 0), some (.int i), some (.int (nI j)), some (.int (nI 0)), some (.int (nI s)), some (.int (nxF s q).1), some (.int (nI (nxF s q).2)), some (.int (nI (q + 1))), x] [] (mH I F S.2.2.2.2.2.2.1 S.2.2.2.2.2.2.2) 0 0 := by
        intro c
        induction c with
        | zero =>
          intro q hq x hle
          refine hG 200 _ _ _ _ _ _ ?_
          refine br_t (nI_lt (by omega) (by omega)) ?_
          rw [show q = 7 by omega, hnx]
          exact ⟨rfl, rfl, rfl, rfl⟩
        | succ c ih =>
          intro q hq x hle
          have hgl := gM_le s (q + 1)
          have hgp := c_M_greatestPart (mH I F S.2.2.2.2.2.2.1 S.2.2.2.2.2.2.2) s (q + 1) hs64 (by omega)
          refine hG 200 _ _ _ _ _ _ ?_
          refine br_f (nI_nlt (by omega) (by omega)) ?_
          refine Exists.intro 1 (Exists.intro _ (Exists.intro _ ⟨by decide, hgp, ?_⟩))
          refine And.intro (fun h1 => ?_) (fun h1 => ?_)
          · rw [nI_leI (by omega) (by omega)] at h1
            have e : nxF s (q + 1) = nxF s q := if_neg (by omega)
            have h9 := ih (q + 1) (by omega) (some (.int (nI (gM s (q + 1))))) (by rw [e]; exact hle)
            rw [e, ← nI_s1 (q + 1)] at h9
            refine br_t (nI_le h1 (by omega)) ?_
            exact h9
          · rw [nI_leI (by omega) (by omega)] at h1
            have e : nxF s (q + 1) = (nI (q + 1), gM s (q + 1)) := if_pos (by omega)
            have h9 := ih (q + 1) (by omega) (some (.int (nI (gM s (q + 1))))) (by rw [e]; show gM s (q + 1) ≤ 99; omega)
            rw [e, ← nI_s1 (q + 1)] at h9
            refine br_f (nI_ge (by omega) (by omega)) ?_
            exact h9
      refine hG 200 _ _ _ _ _ _ ?_
      refine Exists.intro 2 (Exists.intro _ (Exists.intro _ ⟨by decide, hwr, ?_⟩))
      refine br_t (by decide) ?_
      refine Exists.intro 1 (Exists.intro _ (Exists.intro _ ⟨by decide, hkb, ?_⟩))
      refine bn_t (fun q => hs0 ((nI_z (by omega)).mp q)) ?_
      exact L 7 0 (by omega) none (Nat.le_refl _)
  · rw [if_neg hc0]
    refine ⟨_, am_ev 9 (some .int) false [39] ok_M_next am_mP_197 (by rw [am_m_197]) (by rw [am_m_197]) (fun h => by cases h) (Nat.le_of_ble_eq_true rfl) (fun Go hG => ?_), RM_fd hx hc0 hor⟩
    refine hG 200 _ _ _ _ _ _ ?_
    refine Exists.intro 2 (Exists.intro _ (Exists.intro _ ⟨by decide, hwr, ?_⟩))
    refine br_f (wrV_neg hc0).1 ?_
    exact ⟨rfl, rfl, rfl, rfl⟩

