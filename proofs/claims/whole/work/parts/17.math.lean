/-! ===== the numbers behind both: dues as naturals ===== -/
def gN (du : Nat → Nat) : Nat → Int32 := fun k => nI (du k)
theorem fdI_congr {f g : Nat → Int32 → Int32} : ∀ (n : Nat) (a : Int32), (∀ k, k < n → ∀ b, f k b = g k b) → fdI f n a = fdI g n a
  | 0, _, _ => rfl
  | n + 1, a, h => by
    show f n (fdI f n a) = g n (fdI g n a)
    rw [fdI_congr n a (fun k hk => h k (by omega)), h n (by omega)]
theorem skyG_congr {g h : Nat → Int32} {n : Nat} (e : ∀ k, k < n → g k = h k) : skyG g n = skyG h n := fdI_congr n _ (fun k hk b => by rw [e k hk])
theorem sumG_congr {g h : Nat → Int32} {n : Nat} (e : ∀ k, k < n → g k = h k) : sumG g n = sumG h n := fdI_congr n _ (fun k hk b => by rw [e k hk])
theorem rstG_congr {g h : Nat → Int32} {n : Nat} (e : ∀ k, k < n → g k = h k) : rstG g n = rstG h n := fdI_congr n _ (fun k hk b => by rw [e k hk])
theorem dueG_congr {g h : Nat → Int32} {n : Nat} (e : ∀ k, k < n → g k = h k) : ∀ (j k : Nat), k + j = n → dueG g j k = dueG h j k
  | 0, _, _ => rfl
  | j + 1, k, hk => by
    show (if g k = 0 then k else dueG g j (k + 1)) = (if h k = 0 then k else dueG h j (k + 1))
    rw [e k (by omega), dueG_congr e j (k + 1) (by omega)]
theorem mayG_congr {g h kf kh : Nat → Int32} {n : Nat} (e : ∀ k, k < n → g k = h k) (e2 : ∀ k, k < n → kf k = kh k) (z : Int32) : mayG g kf n z = mayG h kh n z := by
  unfold mayG
  rw [dueG_congr e n 0 (by omega), skyG_congr e]
  by_cases hd : dueG h n 0 < n
  · rw [e2 _ hd]
  · rw [decide_eq_false hd, Bool.false_and, Bool.false_and]
theorem hgtG_congr {p q : Int32 → Bool} (e : ∀ z, p z = q z) (n : Nat) : hgtG p n = hgtG q n := fdI_congr n _ (fun k hk b => by rw [e])
def skyS (n : Nat) (du : Nat → Nat) : Int32 := skyG (gN du) n
def dueS (n : Nat) (du : Nat → Nat) : Nat := dueG (gN du) n 0
def sumS (n : Nat) (du : Nat → Nat) : Int32 := sumG (gN du) n
def mayS (n : Nat) (kd du : Nat → Nat) (z : Int32) : Bool := mayG (gN du) (gN kd) n z
def hgtS (n : Nat) (kd du : Nat → Nat) : Int32 := hgtG (mayS n kd du) 7
/-- the dues are apart, and small -/
def apart (n : Nat) (du : Nat → Nat) : Prop := (∀ k, k < n → du k ≤ 14) ∧ ∀ i j, i < n → j < n → du i = du j → i = j
theorem nI_z {k : Nat} (h : k < 2 ^ 31) : nI k = 0 ↔ k = 0 := by
  rw [show (0 : Int32) = nI 0 from rfl]
  exact nI_eq h (by omega)
theorem dueG_spec {g : Nat → Int32} : ∀ (j k : Nat), k ≤ dueG g j k ∧ dueG g j k ≤ k + j ∧ (∀ q, k ≤ q → q < dueG g j k → ¬ g q = 0) ∧ (dueG g j k < k + j → g (dueG g j k) = 0)
  | 0, k => ⟨Nat.le_refl _, Nat.le_refl _, fun q h1 h2 => by simp only [dueG] at h2; omega, fun h => by simp only [dueG] at h; omega⟩
  | j + 1, k => by
    have ih := dueG_spec (g := g) j (k + 1)
    by_cases h : g k = 0
    · have e : dueG g (j + 1) k = k := by simp only [dueG]; rw [if_pos h]
      rw [e]
      exact ⟨Nat.le_refl _, by omega, fun q h1 h2 => by omega, fun _ => h⟩
    · have e : dueG g (j + 1) k = dueG g j (k + 1) := by simp only [dueG]; rw [if_neg h]
      rw [e]
      refine ⟨by omega, by omega, fun q h1 h2 => ?_, fun h1 => ih.2.2.2 (by omega)⟩
      by_cases hq : q = k
      · rw [hq]; exact h
      · exact ih.2.2.1 q (by omega) h2
theorem dueS_le (n : Nat) (du : Nat → Nat) : dueS n du ≤ n := by
  have h := (dueG_spec (g := gN du) n 0).2.1
  unfold dueS
  omega
theorem dueS_z {n : Nat} {du : Nat → Nat} (hd : ∀ k, k < n → du k ≤ 14) (h : dueS n du < n) : du (dueS n du) = 0 := by
  have h1 := (dueG_spec (g := gN du) n 0).2.2.2 (by rw [Nat.zero_add]; exact h)
  have h2 := hd _ h
  exact (nI_z (by omega)).mp h1
theorem dueS_pos {n : Nat} {du : Nat → Nat} (h : ¬ dueS n du < n) : ∀ k, k < n → 1 ≤ du k := by
  intro k hk
  have h0 := dueS_le n du
  have h1 := (dueG_spec (g := gN du) n 0).2.2.1 k (by omega) (by unfold dueS at h h0; omega)
  have h2 : ¬ nI (du k) = 0 := h1
  rcases Nat.eq_zero_or_pos (du k) with h3 | h3
  · rw [h3] at h2
    exact absurd rfl h2
  · exact h3
theorem dueS_lt {n : Nat} {du : Nat → Nat} {k : Nat} (hk : k < n) (h : du k = 0) : dueS n du < n := by
  by_cases hq : dueS n du < n
  · exact hq
  · have := dueS_pos hq k hk
    omega
/-- how many rests there can be -/
def mnS (du : Nat → Nat) : Nat → Nat
  | 0 => 15
  | n + 1 => min (mnS du n) (du n)
theorem mnS_le {du : Nat → Nat} : ∀ {n k : Nat}, k < n → mnS du n ≤ du k
  | 0, k, h => by omega
  | n + 1, k, h => by
    have := mnS_le (du := du) (n := n) (k := k)
    simp only [mnS]
    by_cases hk : k = n
    · subst hk
      exact Nat.min_le_right _ _
    · exact Nat.le_trans (Nat.min_le_left _ _) (this (by omega))
theorem mnS_at {du : Nat → Nat} : ∀ {n : Nat}, (∀ k, k < n → du k ≤ 14) → 0 < n → ∃ k, k < n ∧ mnS du n = du k
  | 0, _, h => by omega
  | n + 1, hd, _ => by
    simp only [mnS]
    by_cases h : mnS du n ≤ du n
    · rw [Nat.min_eq_left h]
      by_cases hn : 0 < n
      · obtain ⟨k, hk, e⟩ := mnS_at (n := n) (fun k hk => hd k (by omega)) hn
        exact ⟨k, by omega, e⟩
      · have : n = 0 := by omega
        subst this
        have h1 := hd 0 (by omega)
        simp only [mnS] at h
        omega
    · rw [Nat.min_eq_right (by omega)]
      exact ⟨n, by omega, rfl⟩
theorem mnS_15 {du : Nat → Nat} : ∀ n, mnS du n ≤ 15
  | 0 => Nat.le_refl _
  | n + 1 => Nat.le_trans (Nat.min_le_left _ _) (mnS_15 n)
theorem rstG_S {du : Nat → Nat} : ∀ {n : Nat}, (∀ k, k < n → du k ≤ 14) → rstG (gN du) n = nI (mnS du n)
  | 0, _ => rfl
  | n + 1, hd => by
    have ih := rstG_S (du := du) (n := n) (fun k hk => hd k (by omega))
    have h1 := hd n (by omega)
    have h2 := mnS_15 (du := du) n
    show (if gN du n < rstG (gN du) n then gN du n else rstG (gN du) n) = nI (min (mnS du n) (du n))
    rw [ih]
    show (if nI (du n) < nI (mnS du n) then nI (du n) else nI (mnS du n)) = _
    by_cases h : du n < mnS du n
    · rw [if_pos (nI_lt h (by omega)), Nat.min_eq_right (by omega)]
    · rw [if_neg (nI_nlt (by omega) (by omega)), Nat.min_eq_left (by omega)]
def latS (r : Nat) (du : Nat → Nat) : Nat → Nat := fun k => du k - r
def rstS (n : Nat) (du : Nat → Nat) : Nat → Nat := latS (mnS du n) du
theorem rstS_due {n : Nat} {du : Nat → Nat} (hd : ∀ k, k < n → du k ≤ 14) (hn : 0 < n) : dueS n (rstS n du) < n := by
  obtain ⟨k, hk, e⟩ := mnS_at hd hn
  refine dueS_lt hk ?_
  show du k - mnS du n = 0
  omega
theorem apart_lat {n r : Nat} {du : Nat → Nat} (h : apart n du) (hr : ∀ k, k < n → r ≤ du k) : apart n (latS r du) := by
  refine ⟨fun k hk => ?_, fun i j hi hj e => h.2 i j hi hj ?_⟩
  · show du k - r ≤ 14
    have := h.1 k hk
    omega
  · have e1 : du i - r = du j - r := e
    have := hr i hi
    have := hr j hj
    omega
theorem apart_rst {n : Nat} {du : Nat → Nat} (h : apart n du) : apart n (rstS n du) := apart_lat h (fun k hk => mnS_le hk)
/-- in how many beats a thing of a kind comes down; 0: it can't be thrown so -/
def lnd (k h : Nat) : Nat := match k with
  | 0 => h
  | 1 => h + h % 2
  | 2 => 2 * h
  | 3 => if h ≤ 1 then 1 else h - 1
  | 4 => if 3 ≤ h then h + h % 2 else 0
  | _ => if h ≤ 4 then (if h ≤ 1 then 1 else h - 1) else 0
def ldR (v : Nat) : Int32 := if v = 0 then -nI 9 else nI v
theorem landI_S {k h : Nat} (hk : k < 6) (hh : 1 ≤ h ∧ h ≤ 7) : landI (nI k) (nI h) = ldR (lnd k h) := by
  rcases lt6 hk with rfl | rfl | rfl | rfl | rfl | rfl <;> rcases in17 hh with rfl | rfl | rfl | rfl | rfl | rfl | rfl <;> decide +kernel
theorem lnd_le {k h : Nat} (hk : k < 6) (hh : 1 ≤ h ∧ h ≤ 7) : lnd k h ≤ 14 := by
  rcases lt6 hk with rfl | rfl | rfl | rfl | rfl | rfl <;> rcases in17 hh with rfl | rfl | rfl | rfl | rfl | rfl | rfl <;> decide
/-- the sky as a natural -/
def skN (du : Nat → Nat) : Nat → Nat
  | 0 => 0
  | n + 1 => skN du n ||| 2 ^ du n
theorem nI_or (a b : Nat) : nI a ||| nI b = nI (a ||| b) := by
  unfold nI
  apply Int32.toBitVec_inj.mp
  apply BitVec.eq_of_toNat_eq
  simp [Int32.toBitVec_or, Int32.toBitVec_ofNat', Nat.or_mod_two_pow]
theorem nI_one_shl {k : Nat} (h : k < 31) : nI 1 <<< (nI k &&& 31) = nI (2 ^ k) := by
  have hs : ((nI k &&& 31).toBitVec.smod 32).toNat = k := by
    have : ∀ q, q < 31 → ((nI q &&& 31).toBitVec.smod 32).toNat = q := by decide
    exact this k h
  have h2 : 1 * 2 ^ k < 2 ^ 32 := by
    rw [Nat.one_mul]
    exact Nat.pow_lt_pow_right (by omega) (by omega)
  have h1 := pk_shlN (n := 1) (nI k &&& 31) k hs h2
  rw [Nat.one_mul] at h1
  exact h1
theorem skyS_N {du : Nat → Nat} : ∀ {n : Nat}, (∀ k, k < n → du k ≤ 14) → skyS n du = nI (skN du n)
  | 0, _ => rfl
  | n + 1, hd => by
    have ih := skyS_N (du := du) (n := n) (fun k hk => hd k (by omega))
    have h1 := hd n (by omega)
    show skyS n du ||| (nI 1 <<< (nI (du n) &&& 31)) = nI (skN du n ||| 2 ^ du n)
    rw [ih, nI_one_shl (by omega), nI_or]
theorem skN_bit {du : Nat → Nat} {l : Nat} : ∀ {n : Nat}, (skN du n).testBit l = true ↔ ∃ k, k < n ∧ du k = l
  | 0 => by
    constructor
    · intro h; simp [skN] at h
    · intro ⟨k, hk, _⟩; omega
  | n + 1 => by
    have ih := skN_bit (du := du) (l := l) (n := n)
    show (skN du n ||| 2 ^ du n).testBit l = true ↔ _
    rw [Nat.testBit_or, Bool.or_eq_true, ih, Nat.testBit_two_pow]
    constructor
    · intro h
      rcases h with ⟨k, hk, e⟩ | h
      · exact ⟨k, by omega, e⟩
      · exact ⟨n, by omega, by simpa using h⟩
    · intro ⟨k, hk, e⟩
      by_cases hkn : k = n
      · subst hkn
        right
        simpa using e
      · left
        exact ⟨k, by omega, e⟩
theorem skN_lt {du : Nat → Nat} : ∀ {n : Nat}, (∀ k, k < n → du k ≤ 14) → skN du n < 32768
  | 0, _ => by show 0 < 32768; decide
  | n + 1, hd => by
    have ih := skN_lt (du := du) (n := n) (fun k hk => hd k (by omega))
    have h1 := hd n (by omega)
    show skN du n ||| 2 ^ du n < 2 ^ 15
    refine Nat.or_lt_two_pow ih ?_
    exact Nat.pow_lt_pow_right (by omega) (by omega)
theorem hasB_N {s l : Nat} (hs : s < 2 ^ 31) (hl : l < 31) : hasB (nI s) (nI l) = s.testBit l := by
  unfold hasB
  have e1 : ((nI l &&& 31).toBitVec.smod 32).toNat = l := by
    have : ∀ q, q < 31 → ((nI q &&& 31).toBitVec.smod 32).toNat = q := by decide
    exact this l hl
  rw [pk_shrN hs (nI l &&& 31) l e1, pk_andN (n := s / 2 ^ l) (by have := Nat.div_le_self s (2 ^ l); omega) (m := nI 1) 1 (by decide)]
  rw [Nat.testBit_eq_decide_div_mod_eq]
  by_cases h : s / 2 ^ l % 2 = 1
  · rw [decide_eq_true h, Nat.pow_one, h]
    rfl
  · rw [decide_eq_false h, Nat.pow_one, show s / 2 ^ l % 2 = 0 by omega]
    rfl
/-- what may be thrown -/
theorem mayS_iff {n h : Nat} {kd du : Nat → Nat} (hd : ∀ k, k < n → du k ≤ 14) (hk : ∀ i, i < n → kd i < 6) (hh : 1 ≤ h ∧ h ≤ 7) : mayS n kd du (nI h) = true ↔ dueS n du < n ∧ lnd (kd (dueS n du)) h ≠ 0 ∧ ∀ k, k < n → du k ≠ lnd (kd (dueS n du)) h := by
  unfold mayS mayG
  rw [show dueG (gN du) n 0 = dueS n du from rfl]
  by_cases hi : dueS n du < n
  · have e1 : landI (gN kd (dueS n du)) (nI h) = ldR (lnd (kd (dueS n du)) h) := landI_S (hk _ hi) hh
    have h14 := lnd_le (hk _ hi) hh
    rw [e1, decide_eq_true hi, Bool.true_and]
    generalize lnd (kd (dueS n du)) h = v at h14 ⊢
    unfold ldR
    by_cases hv : v = 0
    · rw [if_pos hv]
      simp [hv]
    · rw [if_neg hv, decide_eq_true (nI_m9 (by omega)), Bool.true_and, show skyG (gN du) n = nI (skN du n) from skyS_N hd, hasB_N (by have := skN_lt hd; omega) (by omega)]
      have hb := skN_bit (du := du) (l := v) (n := n)
      cases hx : (skN du n).testBit v with
      | true =>
        rw [hx] at hb
        obtain ⟨k, hk1, hk2⟩ := hb.mp rfl
        simp only [Bool.not_true, Bool.false_eq_true, false_iff]
        intro hq
        exact hq.2.2 k hk1 hk2
      | false =>
        simp only [Bool.not_false, true_iff]
        refine ⟨hi, hv, fun k hk1 hk2 => ?_⟩
        have := hb.mpr ⟨k, hk1, hk2⟩
        rw [hx] at this
        cases this
  · rw [decide_eq_false hi, Bool.false_and]
    simp [hi]
def setS (du : Nat → Nat) (i v : Nat) : Nat → Nat := fun k => if k = i then v else du k
def tosS (n : Nat) (kd du : Nat → Nat) (h : Nat) : Nat → Nat := latS 1 (setS du (dueS n du) (lnd (kd (dueS n du)) h))
theorem tos_pos {n h : Nat} {kd du : Nat → Nat} (ha : apart n du) (hk : ∀ i, i < n → kd i < 6) (hh : 1 ≤ h ∧ h ≤ 7) (hm : mayS n kd du (nI h) = true) : apart n (setS du (dueS n du) (lnd (kd (dueS n du)) h)) ∧ ∀ k, k < n → 1 ≤ setS du (dueS n du) (lnd (kd (dueS n du)) h) k := by
  obtain ⟨hi, hv, hf⟩ := (mayS_iff ha.1 hk hh).mp hm
  have h14 := lnd_le (hk _ hi) hh
  have hz := dueS_z ha.1 hi
  generalize lnd (kd (dueS n du)) h = v at hv hf h14 ⊢
  generalize dueS n du = i at hi hz ⊢
  have hp : ∀ k, k < n → 1 ≤ setS du i v k := by
    intro k hk1
    unfold setS
    by_cases hki : k = i
    · rw [if_pos hki]; omega
    · rw [if_neg hki]
      rcases Nat.eq_zero_or_pos (du k) with h3 | h3
      · exact absurd (ha.2 k i hk1 hi (by omega)) hki
      · exact h3
  refine ⟨⟨fun k hk1 => ?_, fun a b h1 h2 e => ?_⟩, hp⟩
  · unfold setS
    split
    · exact h14
    · exact ha.1 k hk1
  · unfold setS at e
    by_cases ea : a = i <;> by_cases eb : b = i
    · omega
    · rw [if_pos ea, if_neg eb] at e
      exact absurd e.symm (hf b h2)
    · rw [if_neg ea, if_pos eb] at e
      exact absurd e (hf a h1)
    · rw [if_neg ea, if_neg eb] at e
      exact ha.2 a b h1 h2 e
theorem apart_tos {n h : Nat} {kd du : Nat → Nat} (ha : apart n du) (hk : ∀ i, i < n → kd i < 6) (hh : 1 ≤ h ∧ h ≤ 7) (hm : mayS n kd du (nI h) = true) : apart n (tosS n kd du h) := by
  obtain ⟨h1, h2⟩ := tos_pos ha hk hh hm
  exact apart_lat h1 h2
