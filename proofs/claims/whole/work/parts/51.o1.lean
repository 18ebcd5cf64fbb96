/-! ===== chances: what they come to ===== -/
def cap7 (x : Nat) : Nat := if x ≤ 7 then x else 7
def hq (hs : Nat → Nat) (k m i : Nat) : Nat := cap7 (hs i + (if m.testBit (i - k) then 1 else 0))
theorem cap7_ok {h : Nat} (hh : 1 ≤ h) : 1 ≤ cap7 h ∧ cap7 h ≤ 7 := by
  unfold cap7
  split <;> omega
def thC (n : Nat) (kd hs : Nat → Nat) : Nat → Nat → (Nat → Nat) → Nat
  | 0, _, _ => 0
  | j + 1, k, du => if mayS n kd (rstS n du) (nI (hs k)) = true then thC n kd hs j (k + 1) (tosS n kd (rstS n du) (hs k)) + 1 else 0
theorem thC_le {n : Nat} {kd hs : Nat → Nat} : ∀ (j k : Nat) (du : Nat → Nat), thC n kd hs j k du ≤ j
  | 0, _, _ => Nat.le_refl _
  | j + 1, k, du => by
    unfold thC
    split
    · have := thC_le (n := n) (kd := kd) (hs := hs) j (k + 1) (tosS n kd (rstS n du) (hs k)); omega
    · omega
theorem thC_congr {n : Nat} {kd hs hs' : Nat → Nat} : ∀ (j k : Nat) (du : Nat → Nat), (∀ i, k ≤ i → i < k + j → hs i = hs' i) → thC n kd hs j k du = thC n kd hs' j k du
  | 0, _, _, _ => rfl
  | j + 1, k, du, h => by
    unfold thC
    rw [h k (by omega) (by omega), thC_congr j (k + 1) _ (fun i h1 h2 => h i (by omega) (by omega))]
def sumN (g : Nat → Nat) : Nat → Nat
  | 0 => 0
  | n + 1 => sumN g n + g n
theorem sumN_congr {g h : Nat → Nat} (e : ∀ k, g k = h k) : ∀ n, sumN g n = sumN h n
  | 0 => rfl
  | n + 1 => by unfold sumN; rw [sumN_congr e n, e n]
theorem sumN_pair (g : Nat → Nat) : ∀ n, sumN g (2 * n) = sumN (fun m => g (2 * m) + g (2 * m + 1)) n
  | 0 => rfl
  | n + 1 => by
    show sumN g (2 * n) + g (2 * n) + g (2 * n + 1) = sumN _ n + (g (2 * n) + g (2 * n + 1))
    rw [sumN_pair g n, Nat.add_assoc]
theorem sumN_mul (c : Nat) (g : Nat → Nat) : ∀ n, sumN (fun m => c * g m) n = c * sumN g n
  | 0 => rfl
  | n + 1 => by
    show sumN _ n + c * g n = c * (sumN g n + g n)
    rw [sumN_mul c g n, Nat.mul_add]
theorem sumN_add (g h : Nat → Nat) : ∀ n, sumN (fun m => g m + h m) n = sumN g n + sumN h n
  | 0 => rfl
  | n + 1 => by
    show sumN _ n + (g n + h n) = sumN g n + g n + (sumN h n + h n)
    rw [sumN_add g h n]
    omega
theorem sumN_0 : ∀ n, sumN (fun _ => 0) n = 0
  | 0 => rfl
  | n + 1 => sumN_0 n
def chN (p : Nat) : Nat → Nat → Nat
  | 0, _ => 1
  | j + 1, m => (if m.testBit 0 then p else 12 - p) * chN p j (m / 2)
theorem chN_0 (p j m : Nat) : chN p (j + 1) (2 * m) = (12 - p) * chN p j m := by
  unfold chN
  rw [show (2 * m).testBit 0 = false by rw [Nat.testBit_zero]; exact decide_eq_false (by omega), show 2 * m / 2 = m by omega, if_neg (by decide)]
  cases j <;> rfl
theorem chN_1 (p j m : Nat) : chN p (j + 1) (2 * m + 1) = p * chN p j m := by
  unfold chN
  rw [show (2 * m + 1).testBit 0 = true by rw [Nat.testBit_zero]; exact decide_eq_true (by omega), show (2 * m + 1) / 2 = m by omega, if_pos rfl]
  cases j <;> rfl
theorem chN_sum {p : Nat} (hp : p ≤ 12) : ∀ j, sumN (chN p j) (2 ^ j) = 12 ^ j
  | 0 => rfl
  | j + 1 => by
    rw [show 2 ^ (j + 1) = 2 * 2 ^ j by rw [Nat.pow_succ, Nat.mul_comm], sumN_pair, sumN_congr (h := fun m => (12 - p) * chN p j m + p * chN p j m) (fun m => by rw [chN_0, chN_1]), sumN_add, sumN_mul, sumN_mul, chN_sum hp j, ← Nat.add_mul, Nat.sub_add_cancel hp, Nat.pow_succ, Nat.mul_comm]
def prodN (f : Nat → Nat) : Nat → Nat
  | 0 => 1
  | n + 1 => prodN f n * f n
theorem prodN_front (f : Nat → Nat) : ∀ n, prodN f (n + 1) = f 0 * prodN (fun i => f (i + 1)) n
  | 0 => by show 1 * f 0 = f 0 * 1; omega
  | n + 1 => by
    show prodN f (n + 1) * f (n + 1) = f 0 * (prodN (fun i => f (i + 1)) n * f (n + 1))
    rw [prodN_front f n, Nat.mul_assoc]
theorem prodN_ch (p : Nat) : ∀ (j m : Nat), prodN (fun i => if m.testBit i then p else 12 - p) j = chN p j m
  | 0, _ => rfl
  | j + 1, m => by
    rw [prodN_front]
    show _ = (if m.testBit 0 then p else 12 - p) * chN p j (m / 2)
    rw [← prodN_ch p j (m / 2)]
    congr 1
    have e : (fun i => if m.testBit (i + 1) = true then p else 12 - p) = (fun i => if (m / 2).testBit i = true then p else 12 - p) := by
      funext i
      rw [Nat.testBit_succ]
    rw [e]
def vlN (each : Bool) (c j : Nat) : Nat := if each then c else (if c = j then 1 else 0)
def eaN (each : Bool) : Nat := if each then 1 else 0
theorem vlN_s (each : Bool) (c j : Nat) : vlN each (c + 1) (j + 1) = eaN each + vlN each c j := by
  cases each with
  | true => show c + 1 = 1 + c; omega
  | false =>
    show (if c + 1 = j + 1 then 1 else 0) = 0 + (if c = j then 1 else 0)
    by_cases e : c = j
    · rw [if_pos e, if_pos (by omega)]
    · rw [if_neg e, if_neg (by omega)]
theorem vlN_z (each : Bool) (j : Nat) : vlN each 0 (j + 1) = 0 := by
  cases each with
  | true => rfl
  | false =>
    show (if 0 = j + 1 then 1 else 0) = 0
    exact if_neg (by omega)
def wtS (n : Nat) (kd hs : Nat → Nat) (p : Nat) (each : Bool) : Nat → Nat → (Nat → Nat) → Nat
  | 0, _, _ => if each then 0 else 1
  | j + 1, k, du => (if mayS n kd (rstS n du) (nI (hs k)) = true then (12 - p) * (eaN each * 12 ^ j + wtS n kd hs p each j (k + 1) (tosS n kd (rstS n du) (hs k))) else 0) + (if mayS n kd (rstS n du) (nI (cap7 (hs k + 1))) = true then p * (eaN each * 12 ^ j + wtS n kd hs p each j (k + 1) (tosS n kd (rstS n du) (cap7 (hs k + 1)))) else 0)
theorem hq_0 {hs : Nat → Nat} {k m : Nat} (hh : hs k ≤ 7) : hq hs k (2 * m) k = hs k ∧ hq hs k (2 * m + 1) k = cap7 (hs k + 1) := by
  unfold hq
  rw [Nat.sub_self]
  refine ⟨?_, ?_⟩
  · rw [show (2 * m).testBit 0 = false by rw [Nat.testBit_zero]; exact decide_eq_false (by omega), if_neg (by decide)]
    unfold cap7
    rw [if_pos (by omega), Nat.add_zero]
  · rw [show (2 * m + 1).testBit 0 = true by rw [Nat.testBit_zero]; exact decide_eq_true (by omega), if_pos rfl]
theorem hq_s {hs : Nat → Nat} {k m i : Nat} (hi : k + 1 ≤ i) : hq hs k (2 * m) i = hq hs (k + 1) m i ∧ hq hs k (2 * m + 1) i = hq hs (k + 1) m i := by
  unfold hq
  have e : i - k = (i - (k + 1)) + 1 := by omega
  rw [e, Nat.testBit_succ, Nat.testBit_succ, show 2 * m / 2 = m by omega, show (2 * m + 1) / 2 = m by omega]
  exact ⟨rfl, rfl⟩
theorem wt_part {n : Nat} {kd hs : Nat → Nat} {p : Nat} {each : Bool} (hp : p ≤ 12) {j k : Nat} (d : Nat → Nat) (ih : sumN (fun m => chN p j m * vlN each (thC n kd (hq hs (k + 1) m) j (k + 1) d) j) (2 ^ j) = wtS n kd hs p each j (k + 1) d) : sumN (fun m => chN p j m * (eaN each + vlN each (thC n kd (hq hs (k + 1) m) j (k + 1) d) j)) (2 ^ j) = eaN each * 12 ^ j + wtS n kd hs p each j (k + 1) d := by
  rw [sumN_congr (h := fun m => eaN each * chN p j m + chN p j m * vlN each (thC n kd (hq hs (k + 1) m) j (k + 1) d) j) (fun m => by rw [Nat.mul_add, Nat.mul_comm (eaN each)]), sumN_add, sumN_mul, chN_sum hp, ih]
theorem wt_sum {n : Nat} {kd hs : Nat → Nat} {p : Nat} {each : Bool} (hp : p ≤ 12) : ∀ (j k : Nat) (du : Nat → Nat), (∀ i, k ≤ i → i < k + j → hs i ≤ 7) → sumN (fun m => chN p j m * vlN each (thC n kd (hq hs k m) j k du) j) (2 ^ j) = wtS n kd hs p each j k du
  | 0, k, du, _ => by
    cases each <;> rfl
  | j + 1, k, du, hh => by
    have hk := hh k (by omega) (by omega)
    have e0 : ∀ m, thC n kd (hq hs k (2 * m)) (j + 1) k du = if mayS n kd (rstS n du) (nI (hs k)) = true then thC n kd (hq hs (k + 1) m) j (k + 1) (tosS n kd (rstS n du) (hs k)) + 1 else 0 := by
      intro m
      show (if mayS n kd (rstS n du) (nI (hq hs k (2 * m) k)) = true then thC n kd (hq hs k (2 * m)) j (k + 1) (tosS n kd (rstS n du) (hq hs k (2 * m) k)) + 1 else 0) = _
      rw [(hq_0 hk).1, thC_congr (hs' := hq hs (k + 1) m) j (k + 1) _ (fun i h1 h2 => (hq_s h1).1)]
    have e1 : ∀ m, thC n kd (hq hs k (2 * m + 1)) (j + 1) k du = if mayS n kd (rstS n du) (nI (cap7 (hs k + 1))) = true then thC n kd (hq hs (k + 1) m) j (k + 1) (tosS n kd (rstS n du) (cap7 (hs k + 1))) + 1 else 0 := by
      intro m
      show (if mayS n kd (rstS n du) (nI (hq hs k (2 * m + 1) k)) = true then thC n kd (hq hs k (2 * m + 1)) j (k + 1) (tosS n kd (rstS n du) (hq hs k (2 * m + 1) k)) + 1 else 0) = _
      rw [(hq_0 hk).2, thC_congr (hs' := hq hs (k + 1) m) j (k + 1) _ (fun i h1 h2 => (hq_s h1).2)]
    rw [show 2 ^ (j + 1) = 2 * 2 ^ j by rw [Nat.pow_succ, Nat.mul_comm], sumN_pair, sumN_congr (h := fun m => (12 - p) * (chN p j m * vlN each (if mayS n kd (rstS n du) (nI (hs k)) = true then thC n kd (hq hs (k + 1) m) j (k + 1) (tosS n kd (rstS n du) (hs k)) + 1 else 0) (j + 1)) + p * (chN p j m * vlN each (if mayS n kd (rstS n du) (nI (cap7 (hs k + 1))) = true then thC n kd (hq hs (k + 1) m) j (k + 1) (tosS n kd (rstS n du) (cap7 (hs k + 1))) + 1 else 0) (j + 1))) (fun m => by rw [chN_0, chN_1, e0, e1, Nat.mul_assoc, Nat.mul_assoc]), sumN_add, sumN_mul, sumN_mul]
    unfold wtS
    congr 1
    · by_cases hm : mayS n kd (rstS n du) (nI (hs k)) = true
      · rw [if_pos hm, sumN_congr (h := fun m => chN p j m * (eaN each + vlN each (thC n kd (hq hs (k + 1) m) j (k + 1) (tosS n kd (rstS n du) (hs k))) j)) (fun m => by rw [if_pos hm, vlN_s]), wt_part hp _ (wt_sum hp j (k + 1) _ (fun i h1 h2 => hh i (by omega) (by omega)))]
      · rw [if_neg hm, sumN_congr (h := fun _ => 0) (fun m => by rw [if_neg hm, vlN_z, Nat.mul_zero]), sumN_0, Nat.mul_zero]
    · by_cases hm : mayS n kd (rstS n du) (nI (cap7 (hs k + 1))) = true
      · rw [if_pos hm, sumN_congr (h := fun m => chN p j m * (eaN each + vlN each (thC n kd (hq hs (k + 1) m) j (k + 1) (tosS n kd (rstS n du) (cap7 (hs k + 1)))) j)) (fun m => by rw [if_pos hm, vlN_s]), wt_part hp _ (wt_sum hp j (k + 1) _ (fun i h1 h2 => hh i (by omega) (by omega)))]
      · rw [if_neg hm, sumN_congr (h := fun _ => 0) (fun m => by rw [if_neg hm, vlN_z, Nat.mul_zero]), sumN_0, Nat.mul_zero]
theorem wt_le {n : Nat} {kd hs : Nat → Nat} {p : Nat} {each : Bool} (hp : p ≤ 12) : ∀ (j k : Nat) (du : Nat → Nat), wtS n kd hs p each j k du ≤ (j + 1) * 12 ^ j
  | 0, _, _ => by
    cases each with
    | true => exact Nat.zero_le _
    | false => exact Nat.le_refl _
  | j + 1, k, du => by
    have he : eaN each * 12 ^ j ≤ 12 ^ j := by
      cases each with
      | true => show 1 * 12 ^ j ≤ _; omega
      | false => show 0 * 12 ^ j ≤ _; rw [Nat.zero_mul]; exact Nat.zero_le _
    have hX : ∀ d, eaN each * 12 ^ j + wtS n kd hs p each j (k + 1) d ≤ (j + 2) * 12 ^ j := by
      intro d
      have h1 := wt_le (n := n) (kd := kd) (hs := hs) (each := each) hp j (k + 1) d
      have h2 : (j + 2) * 12 ^ j = 12 ^ j + (j + 1) * 12 ^ j := by rw [show j + 2 = 1 + (j + 1) by omega, Nat.add_mul, Nat.one_mul]
      omega
    have hA : ∀ (q : Nat) (b : Bool) (d : Nat → Nat), (if b = true then q * (eaN each * 12 ^ j + wtS n kd hs p each j (k + 1) d) else 0) ≤ q * ((j + 2) * 12 ^ j) := by
      intro q b d
      split
      · exact Nat.mul_le_mul_left q (hX d)
      · exact Nat.zero_le _
    unfold wtS
    have h1 := hA (12 - p) (mayS n kd (rstS n du) (nI (hs k))) (tosS n kd (rstS n du) (hs k))
    have h2 := hA p (mayS n kd (rstS n du) (nI (cap7 (hs k + 1)))) (tosS n kd (rstS n du) (cap7 (hs k + 1)))
    have h3 : (12 - p) * ((j + 2) * 12 ^ j) + p * ((j + 2) * 12 ^ j) = (j + 1 + 1) * 12 ^ (j + 1) := by
      rw [← Nat.add_mul, Nat.sub_add_cancel hp, Nat.pow_succ, Nat.mul_comm (12 ^ j) 12, ← Nat.mul_assoc, ← Nat.mul_assoc, Nat.mul_comm 12 (j + 2)]
    omega
theorem wt_lt {n : Nat} {kd hs : Nat → Nat} {p : Nat} {each : Bool} (hp : p ≤ 12) {z : Nat} (hz : z ≤ 6) (du : Nat → Nat) : wtS n kd hs p each z 0 du < 2 ^ 31 := by
  have h := wt_le (n := n) (kd := kd) (hs := hs) (each := each) hp z 0 du
  have h2 : (z + 1) * 12 ^ z ≤ 7 * 12 ^ 6 := Nat.mul_le_mul (by omega) (Nat.pow_le_pow_right (by decide) hz)
  have h3 : 7 * 12 ^ 6 < 2 ^ 31 := by decide
  omega
theorem pw_lt {z : Nat} (hz : z ≤ 6) : 0 < 12 ^ z ∧ 12 ^ z < 2 ^ 31 := by
  refine ⟨Nat.pow_pos (by decide), ?_⟩
  have h2 : 12 ^ z ≤ 12 ^ 6 := Nat.pow_le_pow_right (by decide) hz
  have h3 : 12 ^ 6 < 2 ^ 31 := by decide
  omega
def wrCc (S : Sta) (r p : Int32) : Nat := if in3 p (nI 0) (nI 12) = false then 9 else wrHc S r 1 6
theorem wrCc_or (S : Sta) (r p : Int32) : wrCc S r p < 6 ∨ wrCc S r p = 9 := by
  unfold wrCc
  split
  · exact Or.inr rfl
  · exact wrHc_or S r 1 6
def raS (S : Sta) (a b : Nat) : Sta := upS S (lN (a / Nat.gcd a b)) (lN (b / Nat.gcd a b))
def spChance (S : Sta) (r p : Int32) (each : Bool) : Int32 × Sta := if eN S = 0 then (-nI 4, S) else refS S (wrCc S r p) (nI 1, raS S (wtS (eN S) (eK S) (hsN (rc S (nat r))) (nat p) each (nat (rz S (nat r))) 0 (duE (eE S))) (12 ^ nat (rz S (nat r))))
theorem cmp0 {y : Nat} (hy : y < 2 ^ 62) : (lg_cmp (lN y) (lN 0) = 0) ↔ y = 0 := by
  rw [lg_cmp_eq, pk_lEQ (by omega) (by omega)]

theorem c_M_tellPart (I : Nat → Int32) (F : Nat → Nat → Int32) (u v : Int64) (a b : Nat) (ha : a < 2 ^ 31) (hb : b < 2 ^ 31) (hb0 : 0 < b) : Am_Ev false 0 0 0 209 [.ref 0, .long (lN a), .long (lN b)] (mH I F u v) (none) (mH I F (lN (a / Nat.gcd a b)) (lN (b / Nat.gcd a b))) := by
  refine am_ev 11 none false [6] ok_M_tellPart am_mP_209 (by rw [am_m_209]) (by rw [am_m_209]) (fun h => by cases h) (Nat.le_of_ble_eq_true rfl) ?_
  intro Go hG
  have hg : 0 < Nat.gcd a b := Nat.gcd_pos_of_pos_right a hb0
  have hgb : Nat.gcd a b ≤ b := Nat.le_of_dvd hb0 (Nat.gcd_dvd_right a b)
  have L : ∀ (f x y : Nat), y < f → x < 2 ^ 31 → y < 2 ^ 31 → Nat.gcd x y = Nat.gcd a b → ∀ q1 q2 : Option Value, Go 6 [some (.ref 0), some (.long (lN a)), none, some (.long (lN b)), none, some (.long (lN x)), none, some (.long (lN y)), none, q1, q2] [] (mH I F u v) 0 0 := by
    intro f
    induction f with
    | zero => intro x y hy; omega
    | succ f ih =>
      intro x y hy hx1 hy1 hgc q1 q2
      by_cases hy0 : y = 0
      · have hxg : x = Nat.gcd a b := by rw [← hgc, hy0, Nat.gcd_zero_right]
        refine hG 200 _ _ _ _ _ _ ?_
        refine br_t ((cmp0 (by omega)).mpr hy0) ?_
        rw [hxg]
        refine And.intro (fun q => by have := (pk_lEQ (a := Nat.gcd a b) (b := 0) (by omega) (by omega)).mp q; omega) ?_
        refine And.intro (fun q => by have := (pk_lEQ (a := Nat.gcd a b) (b := 0) (by omega) (by omega)).mp q; omega) ?_
        rw [pk_lDiv (by omega) hg (by omega), pk_lDiv (by omega) hg (by omega)]
        exact ⟨rfl, rfl, rfl, rfl⟩
      · have hm : x % y < y := Nat.mod_lt _ (by omega)
        have h9 := ih y (x % y) (by omega) hy1 (by omega) (by rw [← hgc, Nat.gcd_comm y, ← Nat.gcd_rec, Nat.gcd_comm]) (some (.long (lN (x % y)))) none
        rw [← pk_lRem (a := x) (b := y) (by omega) (by omega) (by omega)] at h9
        refine hG 200 _ _ _ _ _ _ ?_
        refine br_f (fun q => hy0 ((cmp0 (by omega)).mp q)) ?_
        refine And.intro (fun q => hy0 ((pk_lEQ (a := y) (b := 0) (by omega) (by omega)).mp q)) ?_
        exact h9
  refine hG 200 _ _ _ _ _ _ ?_
  exact L (b + 1) a b (by omega) ha hb rfl none none

theorem l_M_made {I : Nat → Int32} {F : Nat → Nat → Int32} {n : Nat} {kd du hs : Nat → Nat} (hb : MBs I F n kd du) (u v : Int64) (r z : Nat) (hr6 : r ≤ 5) (hz : F 5 r = nI z) (hz6 : z ≤ 6) (hc : ∀ i, i < z → F 4 (40 * r + i) = nI (hs i)) (hh : ∀ i, i < z → 1 ≤ hs i ∧ hs i ≤ 7) (m : Nat) (hm : m < 2 ^ 31) : ∀ (j k : Nat) (w : Nat → Int32) (d : Nat → Nat), k + j = z → TW n d (F 1) w → apart n d → ∀ x : Option Value, ∃ w', (∀ i, i < 2136 → w' i = F 1 i) ∧ Rch cd_M_madeWith [6] 2 (some .int) 6 [some (.ref 0), some (.int (nI r)), some (.int (nI m)), some (.int (nI k)), x] [] (mH I (va_up F 1 w) u v) (some (.int (nI (k + thC n kd (hq hs 0 m) j k d)))) (mH I (va_up F 1 w') u v) := by
  intro j
  induction j with
  | zero =>
    intro k w d hk hw ha x
    refine ⟨w, hw.2, fun Go hG => ?_⟩
    refine hG 200 _ _ _ _ _ _ ?_
    refine Exists.intro r ⟨by omega, rfl, ?_⟩
    refine br_t (by show F 5 r ≤ nI k; rw [hz]; exact nI_le (by omega) (by omega)) ?_
    refine Exists.intro r ⟨by omega, rfl, ?_⟩
    exact ⟨by show some (Value.int (F 5 r)) = some (Value.int (nI (k + 0))); rw [hz, show k + 0 = z by omega], rfl, rfl, rfl⟩
  | succ j ih =>
    intro k w d hk hw ha x
    obtain ⟨w1, hc1, hw1⟩ := x_rests hb u v hw ha
    have hck := hc k (by omega)
    have hhk := hh k (by omega)
    have hhas := c_M_has (mH I (va_up F 1 w) u v) (nI m) (nI k)
    rw [hasB_N (by omega) (by omega)] at hhas
    have hq1 : hq hs 0 m k = cap7 (hs k + (if m.testBit k then 1 else 0)) := rfl
    have hqk : 1 ≤ hq hs 0 m k ∧ hq hs 0 m k ≤ 7 := cap7_ok (by omega)
    have hcm := x_may hb u v hw1 (nI (hq hs 0 m k))
    unfold thC
    cases hm2 : mayS n kd (rstS n d) (nI (hq hs 0 m k)) with
    | false =>
      rw [if_neg (by decide)]
      rw [hm2] at hcm
      refine ⟨w1, hw1.2, fun Go hG => ?_⟩
      refine hG 200 _ _ _ _ _ _ ?_
      refine Exists.intro r ⟨by omega, rfl, ?_⟩
      refine br_f (by show ¬ F 5 r ≤ nI k; rw [hz]; exact nI_ge (by omega) (by omega)) ?_
      refine Exists.intro (40 * r + k) ⟨by omega, nI_idx _ _ _, ?_⟩
      refine Exists.intro 0 (Exists.intro _ (Exists.intro _ ⟨by decide, hhas, ?_⟩))
      refine b2_z (fun hbit => ?_) (fun hbit => ?_)
      · rw [hq1, hbit, if_neg (by decide)] at hcm
        refine Exists.intro 1 (Exists.intro _ (Exists.intro _ ⟨by decide, hc1, ?_⟩))
        have e1 : F 4 (40 * r + k) + nI 0 = nI (cap7 (hs k + 0)) := by rw [hck, nI_add]; unfold cap7; rw [if_pos (by omega)]
        refine br_t (by show F 4 (40 * r + k) + nI 0 ≤ nI 7; rw [hck, nI_add]; exact nI_le (by omega) (by omega)) ?_
        rw [← e1] at hcm
        refine Exists.intro 1 (Exists.intro _ (Exists.intro _ ⟨by decide, hcm, ?_⟩))
        refine bn_f rfl ?_
        exact ⟨rfl, rfl, rfl, rfl⟩
      · rw [hq1, hbit, if_pos rfl] at hcm
        refine Exists.intro 1 (Exists.intro _ (Exists.intro _ ⟨by decide, hc1, ?_⟩))
        by_cases h8 : hs k + 1 ≤ 7
        · have e1 : F 4 (40 * r + k) + nI 1 = nI (cap7 (hs k + 1)) := by rw [hck, nI_add]; unfold cap7; rw [if_pos h8]
          refine br_t (by show F 4 (40 * r + k) + nI 1 ≤ nI 7; rw [hck, nI_add]; exact nI_le (by omega) (by omega)) ?_
          rw [← e1] at hcm
          refine Exists.intro 1 (Exists.intro _ (Exists.intro _ ⟨by decide, hcm, ?_⟩))
          refine bn_f rfl ?_
          exact ⟨rfl, rfl, rfl, rfl⟩
        · have e1 : nI 7 = nI (cap7 (hs k + 1)) := by unfold cap7; rw [if_neg h8]
          refine br_f (by show ¬ F 4 (40 * r + k) + nI 1 ≤ nI 7; rw [hck, nI_add]; exact nI_ge (by omega) (by omega)) ?_
          rw [← e1] at hcm
          refine Exists.intro 1 (Exists.intro _ (Exists.intro _ ⟨by decide, hcm, ?_⟩))
          refine bn_f rfl ?_
          exact ⟨rfl, rfl, rfl, rfl⟩
    | true =>
      rw [if_pos rfl]
      obtain ⟨w2, hc2, hw2⟩ := x_toss hb u v hw1 (apart_rst ha) (hq hs 0 m k) hqk hm2
      rw [hm2] at hcm
      obtain ⟨w3, hl3, hR⟩ := ih (k + 1) w2 _ (by omega) hw2 (apart_tos (apart_rst ha) (fun i q => (hb.2.2.2.1 i q).2) hqk hm2) (some (.int (nI (hq hs 0 m k))))
      refine ⟨w3, hl3, fun Go hG => ?_⟩
      rw [show k + (thC n kd (hq hs 0 m) j (k + 1) (tosS n kd (rstS n d) (hq hs 0 m k)) + 1) = k + 1 + thC n kd (hq hs 0 m) j (k + 1) (tosS n kd (rstS n d) (hq hs 0 m k)) by omega] at hG
      have h9 := hR Go hG
      rw [← nI_s1 k] at h9
      refine hG 200 _ _ _ _ _ _ ?_
      refine Exists.intro r ⟨by omega, rfl, ?_⟩
      refine br_f (by show ¬ F 5 r ≤ nI k; rw [hz]; exact nI_ge (by omega) (by omega)) ?_
      refine Exists.intro (40 * r + k) ⟨by omega, nI_idx _ _ _, ?_⟩
      refine Exists.intro 0 (Exists.intro _ (Exists.intro _ ⟨by decide, hhas, ?_⟩))
      refine b2_z (fun hbit => ?_) (fun hbit => ?_)
      · have e1 : nI (hq hs 0 m k) = F 4 (40 * r + k) + nI 0 := by rw [hq1, hbit, if_neg (by decide), hck, nI_add]; unfold cap7; rw [if_pos (by omega)]
        rw [e1] at hcm hc2 h9
        refine Exists.intro 1 (Exists.intro _ (Exists.intro _ ⟨by decide, hc1, ?_⟩))
        refine br_t (by show F 4 (40 * r + k) + nI 0 ≤ nI 7; rw [hck, nI_add]; exact nI_le (by omega) (by omega)) ?_
        refine Exists.intro 1 (Exists.intro _ (Exists.intro _ ⟨by decide, hcm, ?_⟩))
        refine bn_t (by decide) ?_
        refine Exists.intro 1 (Exists.intro _ (Exists.intro _ ⟨by decide, hc2, ?_⟩))
        exact h9
      · refine Exists.intro 1 (Exists.intro _ (Exists.intro _ ⟨by decide, hc1, ?_⟩))
        by_cases h8 : hs k + 1 ≤ 7
        · have e1 : nI (hq hs 0 m k) = F 4 (40 * r + k) + nI 1 := by rw [hq1, hbit, if_pos rfl, hck, nI_add]; unfold cap7; rw [if_pos h8]
          rw [e1] at hcm hc2 h9
          refine br_t (by show F 4 (40 * r + k) + nI 1 ≤ nI 7; rw [hck, nI_add]; exact nI_le (by omega) (by omega)) ?_
          refine Exists.intro 1 (Exists.intro _ (Exists.intro _ ⟨by decide, hcm, ?_⟩))
          refine bn_t (by decide) ?_
          refine Exists.intro 1 (Exists.intro _ (Exists.intro _ ⟨by decide, hc2, ?_⟩))
          exact h9
        · have e1 : nI (hq hs 0 m k) = nI 7 := by rw [hq1, hbit, if_pos rfl]; unfold cap7; rw [if_neg h8]
          rw [e1] at hcm hc2 h9
          refine br_f (by show ¬ F 4 (40 * r + k) + nI 1 ≤ nI 7; rw [hck, nI_add]; exact nI_ge (by omega) (by omega)) ?_
          refine Exists.intro 1 (Exists.intro _ (Exists.intro _ ⟨by decide, hcm, ?_⟩))
          refine bn_t (by decide) ?_
          refine Exists.intro 1 (Exists.intro _ (Exists.intro _ ⟨by decide, hc2, ?_⟩))
          exact h9
theorem x_made {I : Nat → Int32} {F : Nat → Nat → Int32} {n : Nat} {kd du hs : Nat → Nat} (hb : MBs I F n kd du) (u v : Int64) (r z : Nat) (hr6 : r ≤ 5) (hz : F 5 r = nI z) (hz6 : z ≤ 6) (hc : ∀ i, i < z → F 4 (40 * r + i) = nI (hs i)) (hh : ∀ i, i < z → 1 ≤ hs i ∧ hs i ≤ 7) (m : Nat) (hm : m < 2 ^ 31) {w : Nat → Int32} (hl : ∀ i, i < 2136 → w i = F 1 i) : ∃ w', (∀ i, i < 2136 → w' i = F 1 i) ∧ Am_Ev false 2 0 0 207 [.ref 0, .int (nI r), .int (nI m)] (mH I (va_up F 1 w) u v) (some (.int (nI (thC n kd (hq hs 0 m) z 0 du)))) (mH I (va_up F 1 w') u v) := by
  obtain ⟨w1, hb1, hw1⟩ := x_begin hb u v hl
  obtain ⟨w2, hl2, hR⟩ := l_M_made hb u v r z hr6 hz hz6 hc hh m hm z 0 w1 du (by omega) hw1 hb.2.2.2.2.2 none
  rw [Nat.zero_add] at hR
  refine ⟨w2, hl2, am_ev 5 (some .int) false [6] ok_M_madeWith am_mP_207 (by rw [am_m_207]) (by rw [am_m_207]) (fun h => by cases h) (Nat.le_of_ble_eq_true rfl) (fun Go hG => ?_)⟩
  refine hG 200 _ _ _ _ _ _ ?_
  refine Exists.intro 1 (Exists.intro _ (Exists.intro _ ⟨by decide, hb1, ?_⟩))
  exact hR Go hG

theorem c_M_chanceOf (I : Nat → Int32) (F : Nat → Nat → Int32) (u v : Int64) (r z p m : Nat) (hr6 : r ≤ 5) (hz : F 5 r = nI z) (hz6 : z ≤ 6) (hp : p ≤ 12) (hm : m < 2 ^ 31) : Am_Ev false 1 0 0 208 [.ref 0, .int (nI r), .int (nI p), .int (nI m)] (mH I F u v) (some (.long (lN (chN p z m)))) (mH I F u v) := by
  refine am_ev 7 (some .long) false [6] ok_M_chanceOf am_mP_208 (by rw [am_m_208]) (by rw [am_m_208]) (fun h => by cases h) (Nat.le_of_ble_eq_true rfl) ?_
  intro Go hG
  have L : ∀ (j k : Nat), k + j = z → Go 6 [some (.ref 0), some (.int (nI r)), some (.int (nI p)), some (.int (nI m)), some (.long (lN (prodN (fun i => if m.testBit i then p else 12 - p) k))), none, some (.int (nI k))] [] (mH I F u v) 0 0 := by
    intro j
    induction j with
    | zero =>
      intro k hk
      refine hG 200 _ _ _ _ _ _ ?_
      refine Exists.intro r ⟨by omega, rfl, ?_⟩
      refine br_t (by rw [hz]; exact nI_le (by omega) (by omega)) ?_
      exact ⟨by rw [show k = z by omega, prodN_ch], rfl, rfl, rfl⟩
    | succ j ih =>
      intro k hk
      have h9 := ih (k + 1) (by omega)
      have e : prodN (fun i => if m.testBit i then p else 12 - p) (k + 1) = prodN (fun i => if m.testBit i then p else 12 - p) k * (if m.testBit k then p else 12 - p) := rfl
      rw [← nI_s1 k, e, ← lN_mul] at h9
      have hhas := c_M_has (mH I F u v) (nI m) (nI k)
      rw [hasB_N (by omega) (by omega)] at hhas
      refine hG 200 _ _ _ _ _ _ ?_
      refine Exists.intro r ⟨by omega, rfl, ?_⟩
      refine br_f (by rw [hz]; exact nI_ge (by omega) (by omega)) ?_
      refine Exists.intro 0 (Exists.intro _ (Exists.intro _ ⟨by decide, hhas, ?_⟩))
      refine b2_z (fun hbit => ?_) (fun hbit => ?_)
      · rw [hbit, if_neg (by decide), ← nI_l (n := 12 - p) (by omega), ← pk_sub (a := 12) (b := p) hp] at h9
        exact h9
      · rw [hbit, if_pos rfl, ← nI_l (n := p) (by omega)] at h9
        exact h9
  refine hG 200 _ _ _ _ _ _ ?_
  exact L z 0 (by omega)

