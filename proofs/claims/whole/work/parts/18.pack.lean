/-! ===== dues in one int, four bits each ===== -/
def pkN (du : Nat → Nat) : Nat → Nat
  | 0 => 0
  | n + 1 => 2 ^ (4 * n) * du n + pkN du n
def le15 (n : Nat) (du : Nat → Nat) : Prop := ∀ k, k < n → du k ≤ 15
theorem pkN_lt {du : Nat → Nat} : ∀ {n : Nat}, le15 n du → pkN du n < 2 ^ (4 * n)
  | 0, _ => by show 0 < 2 ^ 0; decide
  | n + 1, h => by
    have ih := pkN_lt (du := du) (n := n) (fun k hk => h k (by omega))
    have h1 := h n (by omega)
    show 2 ^ (4 * n) * du n + pkN du n < 2 ^ (4 * (n + 1))
    rw [show 4 * (n + 1) = 4 * n + 4 by omega, Nat.pow_add]
    have h2 : 2 ^ (4 * n) * du n ≤ 2 ^ (4 * n) * 15 := Nat.mul_le_mul_left _ h1
    have h3 : 2 ^ (4 * n) * 2 ^ 4 = 2 ^ (4 * n) * 15 + 2 ^ (4 * n) := by
      rw [show (2 : Nat) ^ 4 = 15 + 1 from rfl, Nat.mul_add, Nat.mul_one]
    omega
theorem pkN_bit {du : Nat → Nat} {j : Nat} : ∀ {n : Nat}, le15 n du → (pkN du n).testBit j = (decide (j / 4 < n) && (du (j / 4)).testBit (j % 4))
  | 0, _ => by
    rw [decide_eq_false (by omega), Bool.false_and]
    show Nat.testBit 0 j = false
    exact Nat.zero_testBit j
  | n + 1, h => by
    have h0 : le15 n du := fun k hk => h k (by omega)
    have ih := pkN_bit (du := du) (j := j) (n := n) h0
    show (2 ^ (4 * n) * du n + pkN du n).testBit j = _
    rw [Nat.testBit_two_pow_mul_add _ (pkN_lt h0)]
    by_cases hj : j < 4 * n
    · rw [if_pos hj, ih, decide_eq_true (show j / 4 < n by omega), decide_eq_true (show j / 4 < n + 1 by omega)]
    · rw [if_neg hj]
      by_cases hj2 : j / 4 = n
      · rw [hj2, decide_eq_true (by omega), Bool.true_and, show j - 4 * n = j % 4 by omega]
      · rw [decide_eq_false (by omega), Bool.false_and]
        refine Nat.testBit_lt_two_pow ?_
        have h1 := h n (by omega)
        have h2 : 2 ^ 4 ≤ 2 ^ (j - 4 * n) := Nat.pow_le_pow_right (by omega) (by omega)
        omega
theorem pkN_at {du : Nat → Nat} {n k : Nat} (h : le15 n du) (hk : k < n) : pkN du n / 2 ^ (4 * k) % 16 = du k := by
  have h1 := h k hk
  apply Nat.eq_of_testBit_eq
  intro i
  rw [show (16 : Nat) = 2 ^ 4 from rfl, Nat.testBit_mod_two_pow, Nat.testBit_div_two_pow, pkN_bit h]
  by_cases hi : i < 4
  · rw [decide_eq_true hi, Bool.true_and, show (i + 4 * k) / 4 = k by omega, show (i + 4 * k) % 4 = i by omega, decide_eq_true hk, Bool.true_and]
  · rw [decide_eq_false hi, Bool.false_and]
    symm
    refine Nat.testBit_lt_two_pow ?_
    have h2 : 2 ^ 4 ≤ 2 ^ i := Nat.pow_le_pow_right (by omega) (by omega)
    omega
theorem pkN_congr {du dv : Nat → Nat} : ∀ {n : Nat}, (∀ k, k < n → du k = dv k) → pkN du n = pkN dv n
  | 0, _ => rfl
  | n + 1, h => by
    show 2 ^ (4 * n) * du n + pkN du n = 2 ^ (4 * n) * dv n + pkN dv n
    rw [h n (by omega), pkN_congr (n := n) (fun k hk => h k (by omega))]
theorem pkN_inj {du dv : Nat → Nat} {n : Nat} (h1 : le15 n du) (h2 : le15 n dv) (e : pkN du n = pkN dv n) : ∀ k, k < n → du k = dv k := fun k hk => by
  rw [← pkN_at h1 hk, e, pkN_at h2 hk]
theorem pkN_24 {du : Nat → Nat} {n : Nat} (h : le15 n du) (hn : n ≤ 6) : pkN du n < 16777216 := by
  have h1 := pkN_lt h
  have h2 : 2 ^ (4 * n) ≤ 2 ^ 24 := Nat.pow_le_pow_right (by omega) (by omega)
  omega
theorem gP_S {du : Nat → Nat} {n k : Nat} (h : le15 n du) (hn : n ≤ 6) (hk : k < n) : gP (nI (pkN du n)) k = nI (du k) := by
  have hs : ∀ q, q < 6 → (((nI 4 * nI q).toUInt32 &&& Int32.toUInt32 31).toBitVec % 32).toNat = 4 * q := by decide
  have h24 := pkN_24 h hn
  unfold gP dueP
  rw [pk_ushrN (n := pkN du n) (by omega) (nI 4 * nI k) (4 * k) (hs k (by omega)), pk_andN (n := pkN du n / 2 ^ (4 * k)) (by have := Nat.div_le_self (pkN du n) (2 ^ (4 * k)); omega) (m := nI 15) 4 (by decide)]
  rw [show (2 : Nat) ^ 4 = 16 from rfl, pkN_at h hk]
theorem nI_and (a b : Nat) : nI a &&& nI b = nI (a &&& b) := by
  unfold nI
  apply Int32.toBitVec_inj.mp
  apply BitVec.eq_of_toNat_eq
  simp [Int32.toBitVec_and, Int32.toBitVec_ofNat', Nat.and_mod_two_pow]
theorem withP_S {du : Nat → Nat} {n i b : Nat} (h : le15 n du) (hn : n ≤ 6) (hi : i < n) (hb : b ≤ 15) : withP (nI (pkN du n)) (nI i) (nI b) = nI (pkN (setS du i b) n) := by
  have hM : ∀ q, q < 6 → (nI 15 <<< ((nI 4 * nI q) &&& 31)) ^^^ (-nI 1) = nI (4294967295 - 15 * 2 ^ (4 * q)) := by decide
  have hs : ∀ q, q < 6 → (((nI 4 * nI q) &&& 31).toBitVec.smod 32).toNat = 4 * q := by decide
  have hbit : ∀ q, q < 6 → ∀ j, j < 32 → (4294967295 - 15 * 2 ^ (4 * q)).testBit j = decide (¬ j / 4 = q) := by decide
  have h24 := pkN_24 h hn
  have hp : b * 2 ^ (4 * i) < 2 ^ 32 := by
    have h2 : 2 ^ (4 * i) ≤ 2 ^ 20 := Nat.pow_le_pow_right (by omega) (by omega)
    have h3 : b * 2 ^ (4 * i) ≤ 15 * 2 ^ 20 := Nat.mul_le_mul hb h2
    omega
  have h' : le15 n (setS du i b) := by
    intro k hk
    unfold setS
    split
    · exact hb
    · exact h k hk
  unfold withP
  rw [hM i (by omega), nI_and, pk_shlN (n := b) _ (4 * i) (hs i (by omega)) hp, nI_or]
  congr 1
  apply Nat.eq_of_testBit_eq
  intro j
  rw [Nat.testBit_or, Nat.testBit_and, pkN_bit h, pkN_bit h', Nat.testBit_mul_two_pow]
  by_cases hj : j < 32
  · rw [hbit i (by omega) j hj]
    by_cases hji : j / 4 = i
    · rw [show decide (¬ j / 4 = i) = false from decide_eq_false (fun q => q hji), Bool.and_false, Bool.false_or, decide_eq_true (show 4 * i ≤ j by omega), Bool.true_and, decide_eq_true (show j / 4 < n by omega), Bool.true_and, show j - 4 * i = j % 4 by omega]
      unfold setS
      rw [if_pos hji]
    · rw [show decide (¬ j / 4 = i) = true from decide_eq_true hji, Bool.and_true]
      have e1 : (decide (4 * i ≤ j) && b.testBit (j - 4 * i)) = false := by
        by_cases hl : 4 * i ≤ j
        · rw [decide_eq_true hl, Bool.true_and]
          refine Nat.testBit_lt_two_pow ?_
          have h2 : 2 ^ 4 ≤ 2 ^ (j - 4 * i) := Nat.pow_le_pow_right (by omega) (by omega)
          omega
        · rw [decide_eq_false hl, Bool.false_and]
      rw [e1, Bool.or_false]
      unfold setS
      rw [if_neg hji]
  · rw [decide_eq_false (show ¬ j / 4 < n by omega), Bool.false_and, Bool.false_and, Bool.false_or, Bool.false_and]
    by_cases hl : 4 * i ≤ j
    · rw [decide_eq_true hl, Bool.true_and]
      refine Nat.testBit_lt_two_pow ?_
      have h2 : 2 ^ 4 ≤ 2 ^ (j - 4 * i) := Nat.pow_le_pow_right (by omega) (by omega)
      omega
    · rw [decide_eq_false hl, Bool.false_and]
def repN : Nat → Nat
  | 0 => 0
  | n + 1 => 2 ^ (4 * n) + repN n
theorem pkN_lat {du : Nat → Nat} {r : Nat} : ∀ {n : Nat}, (∀ k, k < n → r ≤ du k) → pkN du n = pkN (latS r du) n + r * repN n
  | 0, _ => by simp [pkN, repN]
  | n + 1, h => by
    have ih := pkN_lat (du := du) (r := r) (n := n) (fun k hk => h k (by omega))
    have h1 := h n (by omega)
    show 2 ^ (4 * n) * du n + pkN du n = (2 ^ (4 * n) * (du n - r) + pkN (latS r du) n) + r * (2 ^ (4 * n) + repN n)
    have h2 : 2 ^ (4 * n) * du n = 2 ^ (4 * n) * (du n - r) + r * 2 ^ (4 * n) := by
      rw [Nat.mul_comm r, ← Nat.mul_add]
      congr 1
      omega
    rw [h2, Nat.mul_add, ih]
    omega
theorem latP_S {du : Nat → Nat} {n r : Nat} (hn : n ≤ 6) (h : ∀ k, k < n → r ≤ du k) : latP n (nI (pkN du n)) (nI r) = nI (pkN (latS r du) n) := by
  have hM : ∀ q, q < 7 → nI 1118481 &&& ((nI 1 <<< ((nI 4 * nI q) &&& 31)) - nI 1) = nI (repN q) := by decide
  unfold latP
  rw [hM n (by omega), pk_mul, pkN_lat h, pk_sub (by omega)]
  congr 1
  omega
theorem le15_of {n : Nat} {du : Nat → Nat} (h : apart n du) : le15 n du := fun k hk => by
  have := h.1 k hk
  omega
def swpS (du : Nat → Nat) (i j : Nat) : Nat → Nat := setS (setS du i (du j)) j (du i)
theorem exch_S {du : Nat → Nat} {n i j : Nat} (h : le15 n du) (hn : n ≤ 6) (hi : i < n) (hj : j < n) : withP (withP (nI (pkN du n)) (nI i) (dueP (nI (pkN du n)) (nI j))) (nI j) (dueP (nI (pkN du n)) (nI i)) = nI (pkN (swpS du i j) n) := by
  have e1 : dueP (nI (pkN du n)) (nI j) = nI (du j) := gP_S h hn hj
  have e2 : dueP (nI (pkN du n)) (nI i) = nI (du i) := gP_S h hn hi
  rw [e1, e2, withP_S h hn hi (h j hj), withP_S _ hn hj (h i hi)]
  · rfl
  · intro k hk
    unfold setS
    split
    · exact h j hj
    · exact h k hk
theorem apart_swp {du : Nat → Nat} {n i j : Nat} (h : apart n du) (hi : i < n) (hj : j < n) : apart n (swpS du i j) := by
  have hv : ∀ k, swpS du i j k = du (if k = j then i else if k = i then j else k) := by
    intro k
    unfold swpS setS
    split
    · rfl
    · split <;> rfl
  refine ⟨fun k hk => ?_, fun a b ha hb e => ?_⟩
  · rw [hv]
    split
    · exact h.1 i hi
    · split
      · exact h.1 j hj
      · exact h.1 k hk
  · rw [hv, hv] at e
    have e2 := h.2 _ _ (by split; exact hi; split; exact hj; exact ha) (by split; exact hi; split; exact hj; exact hb) e
    by_cases a1 : a = j <;> by_cases a2 : a = i <;> by_cases b1 : b = j <;> by_cases b2 : b = i <;> simp_all
