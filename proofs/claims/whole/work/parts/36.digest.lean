/-! ===== digest ===== -/
def itL (f : Nat → Int64 → Int64) : Nat → Int64 → Int64
  | 0, h => h
  | n + 1, h => f n (itL f n h)
def dgF (f : Nat → Int32) (n : Nat) (h : Int64) : Int64 := itL (fun k h => lN 31 * h + (f k).toInt64) n h
def dgSh (z : Nat → Int32) (c : Nat → Nat → Int32) (m : Nat) (h : Int64) : Int64 := itL (fun r h => dgF (c r) (nat (z r)) (lN 31 * h + (z r).toInt64)) m h
def dgTh (S : Sta) (n : Nat) (h : Int64) : Int64 := itL (fun i h => dgF (thV S i) 4 h) n h
def spDig (S : Sta) : Int64 := dgSh (tz S) (tc S) 4 (dgSh (rz S) (rc S) 6 (dgF (kpC S) 3 (dgTh S (eN S) (dgF (cnV S) 12 (lN 17)))))
theorem dgF_0 (f : Nat → Int32) (h : Int64) : dgF f 0 h = h := rfl
theorem dgSh_0 (z : Nat → Int32) (c : Nat → Nat → Int32) (h : Int64) : dgSh z c 0 h = h := rfl
theorem dgTh_0 (S : Sta) (h : Int64) : dgTh S 0 h = h := rfl
theorem dgF_s (f : Nat → Int32) (n : Nat) (h : Int64) (x : Int32) (e : x = f n) : dgF f (n + 1) h = lN 31 * dgF f n h + x.toInt64 := by rw [e]; rfl
theorem dgSh_s (z : Nat → Int32) (c : Nat → Nat → Int32) (m : Nat) (h : Int64) {k : Nat} (e : nat (z m) = k) : dgSh z c (m + 1) h = dgF (c m) k (lN 31 * dgSh z c m h + (z m).toInt64) := by rw [← e]; rfl
theorem szOk_nat {m : Nat} {x : Int32} (hm : m < 2 ^ 31) (h : szOk m x) : nat x ≤ m ∧ (x = nI (nat x) ∨ (x = -nI 1 ∧ nat x = 0)) := by
  rcases h with rfl | ⟨k, hk, rfl⟩
  · exact ⟨by rw [nat_m1]; omega, Or.inr ⟨rfl, nat_m1⟩⟩
  · rw [nat_nI (by omega)]
    exact ⟨hk, Or.inl rfl⟩
theorem szOk_ge {m : Nat} {x : Int32} (hm : m < 2 ^ 31) (h : szOk m x) {q : Nat} (hq : q = nat x) : x ≤ nI q := by
  rcases h with rfl | ⟨k, hk, rfl⟩
  · rw [hq, nat_m1]; decide
  · rw [nat_nI (by omega)] at hq
    exact nI_le (by omega) (by omega)
theorem szOk_lt {m : Nat} {x : Int32} (hm : m < 2 ^ 31) (h : szOk m x) {q : Nat} (hq : q < nat x) : ¬ x ≤ nI q := by
  rcases h with rfl | ⟨k, hk, rfl⟩
  · rw [nat_m1] at hq; omega
  · rw [nat_nI (by omega)] at hq
    exact nI_ge (by omega) (by omega)

theorem c_M_digestS {I : Nat → Int32} {F : Nat → Nat → Int32} {S : Sta} (hx : RMx I F S) : Am_Ev false 5 0 0 222 [.ref 0] (mH I F S.2.2.2.2.2.2.1 S.2.2.2.2.2.2.2) (some (.long (spDig S))) (mH I F S.2.2.2.2.2.2.1 S.2.2.2.2.2.2.2) := by
  obtain ⟨hs, hr, ht, hl⟩ := id hx
  obtain ⟨g1, g2, g3, g4, g5, g6⟩ := hs
  have hI : I 2 = nI (eN S) := g1
  have hn : eN S ≤ 6 := g2
  have hk : ∀ i, i < eN S → F 2 i = nI (eK S i) ∧ eK S i < 6 := g3
  have hE : evM (F 1) 0 (eN S) (eE S) := g4
  have hG5 : gdE (eN S) (eE S) := g5
  have hap : apart (eN S) (duE (eE S)) := hG5 _ (Nat.le_refl _)
  obtain ⟨v1, v2, v3, v4, v5⟩ := id hE
  have hw : ∀ k, k < eN S → F 1 (0 + k) = nI (duE (eE S) k) := fun k q => (v3 k q).1
  have hw2 : ∀ k, k < eN S → F 1 k = nI (duE (eE S) k) := fun k q => by have := hw k q; rw [Nat.zero_add] at this; exact this
  have hm33 : F 1 533 = nI (eE S).1 := by have := v2; rw [Nat.zero_add] at this; exact this
  have eSky : skyG (fun i => F 1 (0 + i)) (eN S) = skyS (eN S) (duE (eE S)) := skyG_congr hw
  have eDue : dueG (fun i => F 1 (0 + i)) (eN S) 0 = dueS (eN S) (duE (eE S)) := dueG_congr hw _ 0 (by omega)
  have eMay : ∀ z, mayG (fun i => F 1 (0 + i)) (F 2) (eN S) z = mayS (eN S) (eK S) (duE (eE S)) z := fun z => mayG_congr hw (fun k q => (hk k q).1) z
  have hkp : ∀ q, q < 3 → F 3 q = kpC S q := by
    intro q hq
    have g8 : match eP S q with
      | none => F 3 q = -nI 1
      | some E => F 3 q = nI E.1 ∧ evM (F 1) (534 * (q + 1)) (eN S) E ∧ gdE (eN S) E := g6 q hq
    unfold kpC
    cases he : eP S q with
    | none => rw [he] at g8; exact g8
    | some E2 => rw [he] at g8; exact g8.1
  have hb12 : F 1 12 = nI (btE (eE S)) := by have := v4; rw [Nat.zero_add] at this; exact this
  refine am_ev 5 (some .long) false [6, 33, 105, 132, 155, 200, 222] ok_M_digest am_mP_222 (by rw [am_m_222]) (by rw [am_m_222]) (fun h => by cases h) (Nat.le_of_ble_eq_true rfl) (fun Go hG => ?_)
  have L200 : ∀ (j t : Nat), t + j = 4 → ∀ x : Option Value, Go 200 [some (.ref 0), some (.long (dgSh (tz S) (tc S) t (dgSh (rz S) (rc S) 6 (dgF (kpC S) 3 (dgTh S (eN S) (dgF (cnV S) 12 (lN 17))))))), none, some (.int (nI t)), x] [] (mH I F S.2.2.2.2.2.2.1 S.2.2.2.2.2.2.2) 0 0 := by
    intro j
    induction j with
    | zero =>
      intro t ht2 x
      refine hG 200 _ _ _ _ _ _ ?_
      refine br_t (nI_le (by omega) (by omega)) ?_
      rw [show t = 4 by omega]
      exact ⟨rfl, rfl, rfl, rfl⟩
    | succ j ih =>
      intro t ht2 x
      obtain ⟨q1, q2, q3⟩ := ht t (by omega)
      have q1' : F 7 t = tz S t := q1
      have q2' : szOk 60 (tz S t) := q2
      have hm := (szOk_nat (by decide) q2').1
      have L2 : ∀ (i q : Nat), q + i = nat (tz S t) → Go 222 [some (.ref 0), some (.long (dgF (tc S t) q (lN 31 * dgSh (tz S) (tc S) t (dgSh (rz S) (rc S) 6 (dgF (kpC S) 3 (dgTh S (eN S) (dgF (cnV S) 12 (lN 17))))) + (tz S t).toInt64))), none, some (.int (nI t)), some (.int (nI q))] [] (mH I F S.2.2.2.2.2.2.1 S.2.2.2.2.2.2.2) 0 0 := by
        intro i
        induction i with
        | zero =>
          intro q hq
          have h9 := ih (t + 1) (by omega) (some (.int (nI q)))
          rw [← nI_s1 t, dgSh_s (tz S) (tc S) t (dgSh (rz S) (rc S) 6 (dgF (kpC S) 3 (dgTh S (eN S) (dgF (cnV S) 12 (lN 17))))) (k := q) (by omega)] at h9
          refine hG 200 _ _ _ _ _ _ ?_
          refine Exists.intro t ⟨by omega, rfl, ?_⟩
          refine br_t (by rw [q1']; exact szOk_ge (by decide) q2' (by omega)) ?_
          exact h9
        | succ i ih2 =>
          intro q hq
          have h9 := ih2 (q + 1) (by omega)
          rw [← nI_s1 q, dgF_s (tc S t) q _ (F 6 (60 * t + q)) (q3 q (by show q < nat (tz S t); omega))] at h9
          refine hG 200 _ _ _ _ _ _ ?_
          refine Exists.intro t ⟨by omega, rfl, ?_⟩
          refine br_f (by rw [q1']; exact szOk_lt (by decide) q2' (by omega)) ?_
          refine Exists.intro (60 * t + q) ⟨by omega, nI_idx _ _ _, ?_⟩
          exact h9
      have h8 := L2 (nat (tz S t)) 0 (by omega)
      rw [show dgF (tc S t) 0 (lN 31 * dgSh (tz S) (tc S) t (dgSh (rz S) (rc S) 6 (dgF (kpC S) 3 (dgTh S (eN S) (dgF (cnV S) 12 (lN 17))))) + (tz S t).toInt64) = lN 31 * dgSh (tz S) (tc S) t (dgSh (rz S) (rc S) 6 (dgF (kpC S) 3 (dgTh S (eN S) (dgF (cnV S) 12 (lN 17))))) + (F 7 t).toInt64 by rw [q1']; rfl] at h8
      refine hG 200 _ _ _ _ _ _ ?_
      refine br_f (nI_ge (by omega) (by omega)) ?_
      refine Exists.intro t ⟨by omega, rfl, ?_⟩
      exact h8
  have L132 : ∀ (j t : Nat), t + j = 6 → ∀ x : Option Value, Go 132 [some (.ref 0), some (.long (dgSh (rz S) (rc S) t (dgF (kpC S) 3 (dgTh S (eN S) (dgF (cnV S) 12 (lN 17)))))), none, some (.int (nI t)), x] [] (mH I F S.2.2.2.2.2.2.1 S.2.2.2.2.2.2.2) 0 0 := by
    intro j
    induction j with
    | zero =>
      intro t ht2 x
      refine hG 200 _ _ _ _ _ _ ?_
      refine br_t (nI_le (by omega) (by omega)) ?_
      rw [show t = 6 by omega]
      have h9 := L200 4 0 (by omega) x
      rw [dgSh_0] at h9
      exact h9
    | succ j ih =>
      intro t ht2 x
      obtain ⟨q1, q2, q3⟩ := hr t (by omega)
      have q1' : F 5 t = rz S t := q1
      have q2' : szOk 40 (rz S t) := q2
      have hm := (szOk_nat (by decide) q2').1
      have L2 : ∀ (i q : Nat), q + i = nat (rz S t) → Go 155 [some (.ref 0), some (.long (dgF (rc S t) q (lN 31 * dgSh (rz S) (rc S) t (dgF (kpC S) 3 (dgTh S (eN S) (dgF (cnV S) 12 (lN 17)))) + (rz S t).toInt64))), none, some (.int (nI t)), some (.int (nI q))] [] (mH I F S.2.2.2.2.2.2.1 S.2.2.2.2.2.2.2) 0 0 := by
        intro i
        induction i with
        | zero =>
          intro q hq
          have h9 := ih (t + 1) (by omega) (some (.int (nI q)))
          rw [← nI_s1 t, dgSh_s (rz S) (rc S) t (dgF (kpC S) 3 (dgTh S (eN S) (dgF (cnV S) 12 (lN 17)))) (k := q) (by omega)] at h9
          refine hG 200 _ _ _ _ _ _ ?_
          refine Exists.intro t ⟨by omega, rfl, ?_⟩
          refine br_t (by rw [q1']; exact szOk_ge (by decide) q2' (by omega)) ?_
          exact h9
        | succ i ih2 =>
          intro q hq
          have h9 := ih2 (q + 1) (by omega)
          rw [← nI_s1 q, dgF_s (rc S t) q _ (F 4 (40 * t + q)) (q3 q (by show q < nat (rz S t); omega))] at h9
          refine hG 200 _ _ _ _ _ _ ?_
          refine Exists.intro t ⟨by omega, rfl, ?_⟩
          refine br_f (by rw [q1']; exact szOk_lt (by decide) q2' (by omega)) ?_
          refine Exists.intro (40 * t + q) ⟨by omega, nI_idx _ _ _, ?_⟩
          exact h9
      have h8 := L2 (nat (rz S t)) 0 (by omega)
      rw [show dgF (rc S t) 0 (lN 31 * dgSh (rz S) (rc S) t (dgF (kpC S) 3 (dgTh S (eN S) (dgF (cnV S) 12 (lN 17)))) + (rz S t).toInt64) = lN 31 * dgSh (rz S) (rc S) t (dgF (kpC S) 3 (dgTh S (eN S) (dgF (cnV S) 12 (lN 17)))) + (F 5 t).toInt64 by rw [q1']; rfl] at h8
      refine hG 200 _ _ _ _ _ _ ?_
      refine br_f (nI_ge (by omega) (by omega)) ?_
      refine Exists.intro t ⟨by omega, rfl, ?_⟩
      exact h8
  have L105 : ∀ (j q : Nat), q + j = 3 → Go 105 [some (.ref 0), some (.long (dgF (kpC S) q (dgTh S (eN S) (dgF (cnV S) 12 (lN 17))))), none, some (.int (nI q)), none] [] (mH I F S.2.2.2.2.2.2.1 S.2.2.2.2.2.2.2) 0 0 := by
    intro j
    induction j with
    | zero =>
      intro q hq
      refine hG 200 _ _ _ _ _ _ ?_
      refine br_t (nI_le (by omega) (by omega)) ?_
      rw [show q = 3 by omega]
      have h9 := L132 6 0 (by omega) none
      rw [dgSh_0] at h9
      exact h9
    | succ j ih =>
      intro q hq
      have h9 := ih (q + 1) (by omega)
      rw [← nI_s1 q, dgF_s (kpC S) q _ (F 3 q) (hkp q (by omega))] at h9
      refine hG 200 _ _ _ _ _ _ ?_
      refine br_f (nI_ge (by omega) (by omega)) ?_
      refine Exists.intro q ⟨by omega, rfl, ?_⟩
      exact h9
  have L33 : ∀ (j i : Nat), i + j = eN S → Go 33 [some (.ref 0), some (.long (dgTh S i (dgF (cnV S) 12 (lN 17)))), none, some (.int (nI i)), none] [] (mH I F S.2.2.2.2.2.2.1 S.2.2.2.2.2.2.2) 0 0 := by
    intro j
    induction j with
    | zero =>
      intro i hi
      refine hG 200 _ _ _ _ _ _ ?_
      refine br_t (by rw [hI]; exact nI_le (by omega) (by omega)) ?_
      rw [show i = eN S by omega]
      have h9 := L105 3 0 (by omega)
      rw [dgF_0] at h9
      exact h9
    | succ j ih =>
      intro i hi
      have h9 := ih (i + 1) (by omega)
      have e : dgTh S (i + 1) (dgF (cnV S) 12 (lN 17)) = lN 31 * (lN 31 * (lN 31 * (lN 31 * dgTh S i (dgF (cnV S) 12 (lN 17)) + (F 2 i).toInt64) + (F 1 i).toInt64) + (hgtG (canI (F 2 i)) 7).toInt64) + (F 1 (6 + i)).toInt64 := by
        have h7 := (v3 i (by omega)).2
        rw [Nat.zero_add] at h7
        rw [(hk i (by omega)).1, hw2 i (by omega), h7]
        rfl
      rw [← nI_s1 i, e] at h9
      refine hG 200 _ _ _ _ _ _ ?_
      refine br_f (by rw [hI]; exact nI_ge (by omega) (by omega)) ?_
      refine Exists.intro i ⟨by omega, rfl, ?_⟩
      refine Exists.intro i ⟨by omega, rfl, ?_⟩
      refine Exists.intro i ⟨by omega, rfl, ?_⟩
      refine Exists.intro 1 (Exists.intro _ (Exists.intro _ ⟨by decide, c_M_heightsOf _ _, ?_⟩))
      refine Exists.intro (6 + i) ⟨by omega, nI_add 6 i, ?_⟩
      exact h9
  have L6 : ∀ (j q : Nat), q + j = 12 → Go 6 [some (.ref 0), some (.long (dgF (cnV S) q (lN 17))), none, some (.int (nI q)), none] [] (mH I F S.2.2.2.2.2.2.1 S.2.2.2.2.2.2.2) 0 0 := by
    intro j
    induction j with
    | zero =>
      intro q hq
      refine hG 200 _ _ _ _ _ _ ?_
      refine br_t (nI_le (by omega) (by omega)) ?_
      rw [show q = 12 by omega]
      have h9 := L33 (eN S) 0 (by omega)
      rw [dgTh_0] at h9
      exact h9
    | succ j ih =>
      intro q hq
      have h9 := ih (q + 1) (by omega)
      have e : (spCount S (nI q)).1 = cnV S q := by
        unfold spCount
        rw [in3_nI (by decide) (by omega) (by omega), if_neg (by decide), nat_nI (by omega)]
      rw [← nI_s1 q, dgF_s (cnV S) q _ _ e] at h9
      refine hG 200 _ _ _ _ _ _ ?_
      refine br_f (nI_ge (by omega) (by omega)) ?_
      refine Exists.intro 4 (Exists.intro _ (Exists.intro _ ⟨by decide, c_M_countS hx (nI q), ?_⟩))
      exact h9
  refine hG 200 _ _ _ _ _ _ ?_
  exact L6 12 0 (by omega)
theorem pm_M_digest (S : Sta) (hp : List Am_C) (hRM : RM S hp) : ∃ hp', Am_Ev false 5 0 0 222 [.ref 0] hp (some (.long (spDig S))) hp' ∧ RM S hp' := by
  obtain ⟨I, F, rfl, hx⟩ := hRM
  exact ⟨_, c_M_digestS hx, RM_of hx⟩

theorem c_T_digestOfSheets_r {I : Nat → Int32} {F : Nat → Nat → Int32} {S : Sta} (u v : Int64) (hr : rowC I F S.2.1) (h0 : Int64) : Am_Ev false 0 0 0 130 [.long h0, .ref 1] (cH I F u v) (some (.long (dgSh (rz S) (rc S) 6 h0))) (cH I F u v) := by
  refine am_ev 7 (some .long) false [5, 30] ok_T_digestOfSheets am_mP_130 (by rw [am_m_130]) (by rw [am_m_130]) (fun h => by cases h) (Nat.le_of_ble_eq_true rfl) (fun Go hG => ?_)
  have L5 : ∀ (j t : Nat), t + j = 6 → ∀ x : Option Value, Go 5 [some (.long h0), none, some (.ref 1), some (.long (dgSh (rz S) (rc S) t h0)), none, some (.int (nI t)), x] [] (cH I F u v) 0 0 := by
    intro j
    induction j with
    | zero =>
      intro t ht2 x
      refine hG 200 _ _ _ _ _ _ ?_
      refine br_t (nI_le (by omega) (by omega)) ?_
      rw [show t = 6 by omega]
      exact ⟨rfl, rfl, rfl, rfl⟩
    | succ j ih =>
      intro t ht2 x
      obtain ⟨q1, q2, q3⟩ := hr t (by omega)
      have q1' : I (60 + t) = rz S t := q1
      have q2' : szOk 40 (rz S t) := q2
      have hm := (szOk_nat (by decide) q2').1
      have L2 : ∀ (i q : Nat), q + i = nat (rz S t) → Go 30 [some (.long h0), none, some (.ref 1), some (.long (dgF (rc S t) q (lN 31 * dgSh (rz S) (rc S) t h0 + (rz S t).toInt64))), none, some (.int (nI t)), some (.int (nI q))] [] (cH I F u v) 0 0 := by
        intro i
        induction i with
        | zero =>
          intro q hq
          have h9 := ih (t + 1) (by omega) (some (.int (nI q)))
          rw [← nI_s1 t, dgSh_s (rz S) (rc S) t h0 (k := q) (by omega)] at h9
          refine hG 200 _ _ _ _ _ _ ?_
          refine Exists.intro t (Exists.intro (18 + 2 * t) ⟨by omega, rfl, rfR_at (by omega), ?_⟩)
          refine am_ob_of (cH_row (by omega)) ?_
          refine br_t (by rw [q1']; exact szOk_ge (by decide) q2' (by omega)) ?_
          exact h9
        | succ i ih2 =>
          intro q hq
          have h9 := ih2 (q + 1) (by omega)
          rw [← nI_s1 q, dgF_s (rc S t) q _ (F (19 + 2 * t) q) (q3 q (by show q < nat (rz S t); omega))] at h9
          refine hG 200 _ _ _ _ _ _ ?_
          refine Exists.intro t (Exists.intro (18 + 2 * t) ⟨by omega, rfl, rfR_at (by omega), ?_⟩)
          refine am_ob_of (cH_row (by omega)) ?_
          refine br_f (by rw [q1']; exact szOk_lt (by decide) q2' (by omega)) ?_
          refine Exists.intro t (Exists.intro (18 + 2 * t) ⟨by omega, rfl, rfR_at (by omega), ?_⟩)
          refine am_ob_of (cH_row (by omega)) ?_
          refine am_ai_of (cH_rowc (by omega)) rfl ?_
          refine Exists.intro q ⟨by omega, rfl, ?_⟩
          exact h9
      have h8 := L2 (nat (rz S t)) 0 (by omega)
      rw [show dgF (rc S t) 0 (lN 31 * dgSh (rz S) (rc S) t h0 + (rz S t).toInt64) = lN 31 * dgSh (rz S) (rc S) t h0 + (I (60 + t)).toInt64 by rw [q1']; rfl] at h8
      refine hG 200 _ _ _ _ _ _ ?_
      refine br_f (nI_ge (by omega) (by omega)) ?_
      refine Exists.intro t (Exists.intro (18 + 2 * t) ⟨by omega, rfl, rfR_at (by omega), ?_⟩)
      refine am_ob_of (cH_row (by omega)) ?_
      exact h8
  refine hG 200 _ _ _ _ _ _ ?_
  exact L5 6 0 (by omega) none

theorem c_T_digestOfSheets_t {I : Nat → Int32} {F : Nat → Nat → Int32} {S : Sta} (u v : Int64) (hr : txtC I F S.2.2.1) (h0 : Int64) : Am_Ev false 0 0 0 130 [.long h0, .ref 2] (cH I F u v) (some (.long (dgSh (tz S) (tc S) 4 h0))) (cH I F u v) := by
  refine am_ev 7 (some .long) false [5, 30] ok_T_digestOfSheets am_mP_130 (by rw [am_m_130]) (by rw [am_m_130]) (fun h => by cases h) (Nat.le_of_ble_eq_true rfl) (fun Go hG => ?_)
  have L5 : ∀ (j t : Nat), t + j = 4 → ∀ x : Option Value, Go 5 [some (.long h0), none, some (.ref 2), some (.long (dgSh (tz S) (tc S) t h0)), none, some (.int (nI t)), x] [] (cH I F u v) 0 0 := by
    intro j
    induction j with
    | zero =>
      intro t ht2 x
      refine hG 200 _ _ _ _ _ _ ?_
      refine br_t (nI_le (by omega) (by omega)) ?_
      rw [show t = 4 by omega]
      exact ⟨rfl, rfl, rfl, rfl⟩
    | succ j ih =>
      intro t ht2 x
      obtain ⟨q1, q2, q3⟩ := hr t (by omega)
      have q1' : I (70 + t) = tz S t := q1
      have q2' : szOk 60 (tz S t) := q2
      have hm := (szOk_nat (by decide) q2').1
      have L2 : ∀ (i q : Nat), q + i = nat (tz S t) → Go 30 [some (.long h0), none, some (.ref 2), some (.long (dgF (tc S t) q (lN 31 * dgSh (tz S) (tc S) t h0 + (tz S t).toInt64))), none, some (.int (nI t)), some (.int (nI q))] [] (cH I F u v) 0 0 := by
        intro i
        induction i with
        | zero =>
          intro q hq
          have h9 := ih (t + 1) (by omega) (some (.int (nI q)))
          rw [← nI_s1 t, dgSh_s (tz S) (tc S) t h0 (k := q) (by omega)] at h9
          refine hG 200 _ _ _ _ _ _ ?_
          refine Exists.intro t (Exists.intro (30 + 2 * t) ⟨by omega, rfl, rfT_at (by omega), ?_⟩)
          refine am_ob_of (cH_txt (by omega)) ?_
          refine br_t (by rw [q1']; exact szOk_ge (by decide) q2' (by omega)) ?_
          exact h9
        | succ i ih2 =>
          intro q hq
          have h9 := ih2 (q + 1) (by omega)
          rw [← nI_s1 q, dgF_s (tc S t) q _ (F (31 + 2 * t) q) (q3 q (by show q < nat (tz S t); omega))] at h9
          refine hG 200 _ _ _ _ _ _ ?_
          refine Exists.intro t (Exists.intro (30 + 2 * t) ⟨by omega, rfl, rfT_at (by omega), ?_⟩)
          refine am_ob_of (cH_txt (by omega)) ?_
          refine br_f (by rw [q1']; exact szOk_lt (by decide) q2' (by omega)) ?_
          refine Exists.intro t (Exists.intro (30 + 2 * t) ⟨by omega, rfl, rfT_at (by omega), ?_⟩)
          refine am_ob_of (cH_txt (by omega)) ?_
          refine am_ai_of (cH_txtc (by omega)) rfl ?_
          refine Exists.intro q ⟨by omega, rfl, ?_⟩
          exact h9
      have h8 := L2 (nat (tz S t)) 0 (by omega)
      rw [show dgF (tc S t) 0 (lN 31 * dgSh (tz S) (tc S) t h0 + (tz S t).toInt64) = lN 31 * dgSh (tz S) (tc S) t h0 + (I (70 + t)).toInt64 by rw [q1']; rfl] at h8
      refine hG 200 _ _ _ _ _ _ ?_
      refine br_f (nI_ge (by omega) (by omega)) ?_
      refine Exists.intro t (Exists.intro (30 + 2 * t) ⟨by omega, rfl, rfT_at (by omega), ?_⟩)
      refine am_ob_of (cH_txt (by omega)) ?_
      exact h8
  refine hG 200 _ _ _ _ _ _ ?_
  exact L5 4 0 (by omega) none

theorem c_T_digestS {I : Nat → Int32} {F : Nat → Nat → Int32} {S : Sta} (hx : RCx I F S) : Am_Ev false 7 0 0 129 [.ref 0] (cH I F S.2.2.2.2.2.2.1 S.2.2.2.2.2.2.2) (some (.long (spDig S))) (cH I F S.2.2.2.2.2.2.1 S.2.2.2.2.2.2.2) := by
  obtain ⟨hs, hr, ht, hl⟩ := id hx
  obtain ⟨g1, g2, g3, g4, g5, g6⟩ := hs
  have hI : I 22 = nI (eN S) := g1
  have hn : eN S ≤ 6 := g2
  have hk : ∀ i, i < eN S → F 7 i = nI (eK S i) ∧ eK S i < 6 := g3
  have hE : evC (I 30) (I 31) (I 32) (F 9) (F 10) (F 11) (F 12) (eN S) (eE S) := g4
  have hG5 : gdE (eN S) (eE S) := g5
  have hap : apart (eN S) (duE (eE S)) := hG5 _ (Nat.le_refl _)
  obtain ⟨v1, v2, v3, v4, v5, v6, v7⟩ := id hE
  have h30 : I 30 = nI (pkN (duE (eE S)) (eN S)) := v3
  have hg : ∀ k, k < eN S → gP (I 30) k = gN (duE (eE S)) k := fun k hk2 => by rw [h30]; exact gP_S (le15_of hap) hn hk2
  have eDue : dueG (gP (I 30)) (eN S) 0 = dueS (eN S) (duE (eE S)) := dueG_congr hg _ 0 (by omega)
  have eMay : ∀ z, mayG (gP (I 30)) (F 7) (eN S) z = mayS (eN S) (eK S) (duE (eE S)) z := fun z => mayG_congr hg (fun k q => (hk k q).1) z
  refine am_ev 5 (some .long) false [6, 33, 47, 82] ok_T_digest am_mP_129 (by rw [am_m_129]) (by rw [am_m_129]) (fun h => by cases h) (Nat.le_of_ble_eq_true rfl) (fun Go hG => ?_)
  have L82 : ∀ (j q : Nat), q + j = 3 → ∀ x : Option Value, Go 82 [some (.ref 0), some (.long (dgF (kpC S) q (dgTh S (eN S) (dgF (cnV S) 12 (lN 17))))), none, some (.int (nI q)), x] [] (cH I F S.2.2.2.2.2.2.1 S.2.2.2.2.2.2.2) 0 0 := by
    intro j
    induction j with
    | zero =>
      intro q hq x
      refine hG 200 _ _ _ _ _ _ ?_
      refine br_t (nI_le (by omega) (by omega)) ?_
      rw [show q = 3 by omega]
      refine Exists.intro 0 (Exists.intro _ (Exists.intro _ ⟨by decide, c_T_digestOfSheets_r (S := S) _ _ hr _, ?_⟩))
      refine Exists.intro 0 (Exists.intro _ (Exists.intro _ ⟨by decide, c_T_digestOfSheets_t (S := S) _ _ ht _, ?_⟩))
      exact ⟨rfl, rfl, rfl, rfl⟩
    | succ j ih =>
      intro q hq x
      have h9 := ih (q + 1) (by omega) x
      rw [← nI_s1 q, dgF_s (kpC S) q _ (I (42 + 3 * q)) (kpC_C hx (by omega))] at h9
      refine hG 200 _ _ _ _ _ _ ?_
      refine br_f (nI_ge (by omega) (by omega)) ?_
      refine Exists.intro q (Exists.intro (38 + 5 * q) ⟨by omega, rfl, rfE_at (by omega), ?_⟩)
      refine am_ob_of (cH_kp (by omega)).1 ?_
      exact h9
  have L33 : ∀ (j i : Nat), i + j = eN S → ∀ x : Option Value, Go 33 [some (.ref 0), some (.long (dgTh S i (dgF (cnV S) 12 (lN 17)))), none, some (.int (nI i)), x] [] (cH I F S.2.2.2.2.2.2.1 S.2.2.2.2.2.2.2) 0 0 := by
    intro j
    induction j with
    | zero =>
      intro i hi x
      refine hG 200 _ _ _ _ _ _ ?_
      refine br_t (by rw [hI]; exact nI_le (by omega) (by omega)) ?_
      rw [show i = eN S by omega]
      exact L82 3 0 (by omega) x
    | succ j ih =>
      intro i hi x
      have L47 : ∀ (c q : Nat), q + c = 4 → Go 47 [some (.ref 0), some (.long (dgF (thV S i) q (dgTh S i (dgF (cnV S) 12 (lN 17))))), none, some (.int (nI i)), some (.int (nI q))] [] (cH I F S.2.2.2.2.2.2.1 S.2.2.2.2.2.2.2) 0 0 := by
        intro c
        induction c with
        | zero =>
          intro q hq
          have h9 := ih (i + 1) (by omega) (some (.int (nI q)))
          have e : dgTh S (i + 1) (dgF (cnV S) 12 (lN 17)) = dgF (thV S i) q (dgTh S i (dgF (cnV S) 12 (lN 17))) := by rw [show q = 4 by omega]; rfl
          rw [← nI_s1 i, e] at h9
          refine hG 200 _ _ _ _ _ _ ?_
          refine br_t (nI_le (by omega) (by omega)) ?_
          exact h9
        | succ c ih2 =>
          intro q hq
          have h9 := ih2 (q + 1) (by omega)
          rw [← nI_s1 q, dgF_s (thV S i) q _ (thV S i q) rfl] at h9
          refine hG 200 _ _ _ _ _ _ ?_
          refine br_f (nI_ge (by omega) (by omega)) ?_
          refine Exists.intro 1 (Exists.intro _ (Exists.intro _ ⟨by decide, c_T_ofThing _ _ hx i q (by omega) (by omega), ?_⟩))
          exact h9
      refine hG 200 _ _ _ _ _ _ ?_
      refine br_f (by rw [hI]; exact nI_ge (by omega) (by omega)) ?_
      exact L47 4 0 (by omega)
  have L6 : ∀ (j q : Nat), q + j = 12 → Go 6 [some (.ref 0), some (.long (dgF (cnV S) q (lN 17))), none, some (.int (nI q)), none] [] (cH I F S.2.2.2.2.2.2.1 S.2.2.2.2.2.2.2) 0 0 := by
    intro j
    induction j with
    | zero =>
      intro q hq
      refine hG 200 _ _ _ _ _ _ ?_
      refine br_t (nI_le (by omega) (by omega)) ?_
      rw [show q = 12 by omega]
      exact L33 (eN S) 0 (by omega) none
    | succ j ih =>
      intro q hq
      have h9 := ih (q + 1) (by omega)
      have e : (spCount S (nI q)).1 = cnV S q := by
        unfold spCount
        rw [in3_nI (by decide) (by omega) (by omega), if_neg (by decide), nat_nI (by omega)]
      rw [← nI_s1 q, dgF_s (cnV S) q _ _ e] at h9
      refine hG 200 _ _ _ _ _ _ ?_
      refine br_f (nI_ge (by omega) (by omega)) ?_
      refine Exists.intro 6 (Exists.intro _ (Exists.intro _ ⟨by decide, c_T_countS hx (nI q), ?_⟩))
      exact h9
  refine hG 200 _ _ _ _ _ _ ?_
  exact L6 12 0 (by omega)
theorem pc_T_digest (S : Sta) (hp : List Am_C) (hRM : RC S hp) : ∃ hp', Am_Ev false 7 0 0 129 [.ref 0] hp (some (.long (spDig S))) hp' ∧ RC S hp' := by
  obtain ⟨I, F, rfl, hx⟩ := hRM
  exact ⟨_, c_T_digestS hx, RC_of hx⟩

