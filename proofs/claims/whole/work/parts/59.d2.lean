/-! ===== duel: what it comes to ===== -/
def CN : Int32 := -nI 99999
def mxI (x y : Int32) : Int32 := if x < y then y else x
def mnI (x y : Int32) : Int32 := if y < x then y else x
def bst (p : Nat → Bool) (v : Nat → Int32) (first : Bool) : Nat → Int32
  | 0 => if first = true then -nI 1000000 else nI 1000000
  | a + 1 => if p a = true then (if first = true then mxI (bst p v first a) (v a) else mnI (bst p v first a) (v a)) else bst p v first a
def btr (x b : Int32) (first : Bool) : Bool := !decide (x = CN) && (decide (b = CN) || (if first = true then decide (b < x) else decide (x < b)))
def rbs (w : Nat → Int32) (first : Bool) : Nat → Int32
  | 0 => CN
  | a + 1 => if btr (w a) (rbs w first a) first = true then w a else rbs w first a
def ok2 (x : Int32) : Prop := -200 ≤ x.toInt ∧ x.toInt ≤ 200
theorem ok2_cn {x : Int32} (h : ok2 x) : ¬ x = CN := by
  intro e
  have e2 : CN.toInt = -99999 := by decide
  have h1 := h.1
  rw [e, e2] at h1
  omega
theorem bst_rbs {p : Nat → Bool} {v w : Nat → Int32} {first : Bool} : ∀ (m : Nat), (∀ a, a < m → w a = if p a = true then v a else CN) → (∀ a, a < m → p a = true → ok2 (v a)) → ((∀ a, a < m → p a = false) ∧ rbs w first m = CN ∧ bst p v first m = (if first = true then -nI 1000000 else nI 1000000)) ∨ ((∃ a, a < m ∧ p a = true) ∧ rbs w first m = bst p v first m ∧ ok2 (bst p v first m))
  | 0, _, _ => Or.inl ⟨fun a h => absurd h (Nat.not_lt_zero _), rfl, rfl⟩
  | m + 1, hw, hv => by
    have ih := bst_rbs (p := p) (v := v) (w := w) (first := first) m (fun a h => hw a (by omega)) (fun a h => hv a (by omega))
    have hwm := hw m (by omega)
    have eb : bst p v first (m + 1) = if p m = true then (if first = true then mxI (bst p v first m) (v m) else mnI (bst p v first m) (v m)) else bst p v first m := rfl
    have er : rbs w first (m + 1) = if btr (w m) (rbs w first m) first = true then w m else rbs w first m := rfl
    by_cases hp : p m = true
    · rw [if_pos hp] at hwm
      have hok := hv m (by omega) hp
      have hcn := ok2_cn hok
      right
      refine ⟨⟨m, by omega, hp⟩, ?_⟩
      rw [eb, er, if_pos hp, hwm]
      rcases ih with ⟨_, i2, i3⟩ | ⟨_, i2, i3⟩
      · have eT : btr (v m) (rbs w first m) first = true := by
          unfold btr
          rw [i2, decide_eq_false hcn, decide_eq_true rfl]
          rfl
        rw [if_pos eT, i3]
        have emin : (-nI 1000000 : Int32).toInt = -1000000 := by decide
        have emax : (nI 1000000 : Int32).toInt = 1000000 := by decide
        have h1 := hok.1
        have h2 := hok.2
        cases first with
        | true =>
          rw [if_pos rfl, if_pos rfl]
          have : mxI (-nI 1000000) (v m) = v m := by
            unfold mxI
            rw [if_pos (by rw [Int32.lt_iff_toInt_lt, emin]; omega)]
          rw [this]
          exact ⟨rfl, hok⟩
        | false =>
          rw [if_neg (by decide), if_neg (by decide)]
          have : mnI (nI 1000000) (v m) = v m := by
            unfold mnI
            rw [if_pos (by rw [Int32.lt_iff_toInt_lt, emax]; omega)]
          rw [this]
          exact ⟨rfl, hok⟩
      · have hbn := ok2_cn i3
        rw [i2]
        cases first with
        | true =>
          rw [if_pos rfl]
          unfold mxI
          by_cases hl : bst p v true m < v m
          · have eT : btr (v m) (bst p v true m) true = true := by
              unfold btr
              rw [decide_eq_false hcn, decide_eq_false hbn, if_pos rfl, decide_eq_true hl]
              rfl
            rw [if_pos eT, if_pos hl]
            exact ⟨rfl, hok⟩
          · have eF : btr (v m) (bst p v true m) true = false := by
              unfold btr
              rw [decide_eq_false hcn, decide_eq_false hbn, if_pos rfl, decide_eq_false hl]
              rfl
            rw [eF, if_neg (by decide), if_neg hl]
            exact ⟨rfl, i3⟩
        | false =>
          rw [if_neg (c := false = true) (by decide)]
          unfold mnI
          by_cases hl : v m < bst p v false m
          · have eT : btr (v m) (bst p v false m) false = true := by
              unfold btr
              rw [decide_eq_false hcn, decide_eq_false hbn, if_neg (by decide), decide_eq_true hl]
              rfl
            rw [if_pos eT, if_pos hl]
            exact ⟨rfl, hok⟩
          · have eF : btr (v m) (bst p v false m) false = false := by
              unfold btr
              rw [decide_eq_false hcn, decide_eq_false hbn, if_neg (by decide), decide_eq_false hl]
              rfl
            rw [eF, if_neg (by decide), if_neg hl]
            exact ⟨rfl, i3⟩
    · rw [if_neg hp] at hwm
      have eF : btr (w m) (rbs w first m) first = false := by
        unfold btr
        rw [hwm, decide_eq_true rfl]
        rfl
      have hpf : p m = false := by cases q : p m with | false => rfl | true => exact absurd q hp
      rw [eb, er, if_neg hp, eF, if_neg (by decide)]
      rcases ih with ⟨i1, i2⟩ | ⟨⟨a, i1, i2⟩, i3⟩
      · refine Or.inl ⟨fun a ha => ?_, i2⟩
        by_cases q : a = m
        · rw [q]; exact hpf
        · exact i1 a (by omega)
      · exact Or.inr ⟨⟨a, by omega, i2⟩, i3⟩
def evB (k : Nat) : Bool := decide (k % 2 = 0)
def pmI (first : Bool) : Int32 := if first = true then -nI 100 else nI 100
def bfS (n : Nat) (kd : Nat → Nat) : Nat → (Nat → Nat) → Int32
  | 0, d => sumS n d
  | l + 1, d => if hgtS n kd (rstS n d) = 0 then sumS n (rstS n d) + pmI (evB (l + 1)) else bst (fun a => mayS n kd (rstS n d) (nI (a + 1))) (fun a => bfS n kd l (tosS n kd (rstS n d) (a + 1))) (evB (l + 1)) 7
theorem hgt_0 {p : Int32 → Bool} : hgtG p 7 = 0 ↔ ∀ a, a < 7 → p (nI (a + 1)) = false := by
  have hl := hgN_lt (p := p) (n := 7) (by omega)
  rw [hgtG_N (by omega), nI_z (by omega)]
  constructor
  · intro h a ha
    have hbit := hgN_bit (p := p) (l := a + 1) (n := 7)
    rw [h, Nat.zero_testBit, decide_eq_true (by omega), Bool.true_and] at hbit
    exact hbit.symm
  · intro h
    apply Nat.eq_of_testBit_eq
    intro l
    rw [hgN_bit, Nat.zero_testBit]
    by_cases hl : 1 ≤ l ∧ l ≤ 7
    · rw [decide_eq_true hl, Bool.true_and]
      have := h (l - 1) (by omega)
      rw [show l - 1 + 1 = l by omega] at this
      exact this
    · rw [decide_eq_false hl, Bool.false_and]
def smN (d : Nat → Nat) : Nat → Nat
  | 0 => 0
  | n + 1 => smN d n + d n
theorem sumS_N (d : Nat → Nat) : ∀ n, sumS n d = nI (smN d n)
  | 0 => rfl
  | n + 1 => by
    show sumS n d + nI (d n) = nI (smN d n + d n)
    rw [sumS_N d n, nI_add]
theorem smN_le {d : Nat → Nat} : ∀ {n : Nat}, (∀ k, k < n → d k ≤ 14) → smN d n ≤ 14 * n
  | 0, _ => Nat.le_refl _
  | n + 1, h => by
    have := smN_le (d := d) (n := n) (fun k hk => h k (by omega))
    have := h n (by omega)
    show smN d n + d n ≤ 14 * (n + 1)
    omega
theorem sum_ok {n : Nat} {d : Nat → Nat} (hn : n ≤ 6) (ha : apart n d) : ok2 (sumS n d) ∧ ∀ first, ok2 (sumS n d + pmI first) := by
  have h := smN_le ha.1
  rw [sumS_N]
  refine ⟨?_, fun first => ?_⟩
  · unfold ok2
    rw [nI_toInt (by omega)]
    omega
  · have key : ∀ s, s < 85 → ∀ first, (-200 : Int) ≤ (nI s + pmI first).toInt ∧ (nI s + pmI first).toInt ≤ 200 := by decide +kernel
    exact key (smN d n) (by omega) first
theorem bf_ok {n : Nat} {kd : Nat → Nat} (hn : n ≤ 6) (hk : kdok n kd) : ∀ (l : Nat) (d : Nat → Nat), apart n d → ok2 (bfS n kd l d)
  | 0, d, ha => (sum_ok hn ha).1
  | l + 1, d, ha => by
    unfold bfS
    by_cases h0 : hgtS n kd (rstS n d) = 0
    · rw [if_pos h0]
      exact (sum_ok hn (apart_rst ha)).2 _
    · rw [if_neg h0]
      rcases bst_rbs (p := fun a => mayS n kd (rstS n d) (nI (a + 1))) (v := fun a => bfS n kd l (tosS n kd (rstS n d) (a + 1))) (w := fun a => if mayS n kd (rstS n d) (nI (a + 1)) = true then bfS n kd l (tosS n kd (rstS n d) (a + 1)) else CN) (first := evB (l + 1)) 7 (fun a _ => rfl) (fun a ha7 hm => bf_ok hn hk l _ (apart_tos (apart_rst ha) hk (by omega) hm)) with ⟨i1, _⟩ | ⟨_, _, i3⟩
      · exact absurd (hgt_0.mpr i1) h0
      · exact i3
theorem thS_snoc {n : Nat} {kd hs : Nat → Nat} : ∀ (j k : Nat) (d : Nat → Nat), thS n kd hs (j + 1) k d = if (thS n kd hs j k d).1 = k + j then (if mayS n kd (rstS n (thS n kd hs j k d).2) (nI (hs (k + j))) = true then (k + j + 1, tosS n kd (rstS n (thS n kd hs j k d).2) (hs (k + j))) else (k + j, rstS n (thS n kd hs j k d).2)) else thS n kd hs j k d
  | 0, k, d => by
    show (if mayS n kd (rstS n d) (nI (hs k)) = true then (k + 1, tosS n kd (rstS n d) (hs k)) else (k, rstS n d)) = if k = k + 0 then (if mayS n kd (rstS n d) (nI (hs (k + 0))) = true then (k + 0 + 1, tosS n kd (rstS n d) (hs (k + 0))) else (k + 0, rstS n d)) else (k, d)
    rw [if_pos (show k = k + 0 from rfl)]
    rfl
  | j + 1, k, d => by
    have e : ∀ m, thS n kd hs (m + 1) k d = if mayS n kd (rstS n d) (nI (hs k)) = true then thS n kd hs m (k + 1) (tosS n kd (rstS n d) (hs k)) else (k, rstS n d) := fun _ => rfl
    by_cases hm : mayS n kd (rstS n d) (nI (hs k)) = true
    · rw [e (j + 1), e j, if_pos hm, if_pos hm, thS_snoc j (k + 1), show k + 1 + j = k + (j + 1) by omega]
    · rw [e (j + 1), e j, if_neg hm, if_neg hm, if_neg (by show ¬ k = k + (j + 1); omega)]
theorem thS_cg {n : Nat} {kd hs hs' : Nat → Nat} : ∀ (j k : Nat) (d : Nat → Nat), (∀ i, k ≤ i → i < k + j → hs i = hs' i) → thS n kd hs j k d = thS n kd hs' j k d
  | 0, _, _, _ => rfl
  | j + 1, k, d, h => by
    unfold thS
    rw [h k (by omega) (by omega), thS_cg j (k + 1) _ (fun i h1 h2 => h i (by omega) (by omega))]
theorem fg_app {q c a i : Nat} (ha : a < 7) (hi : i < q) : fg (q + 1) (7 * c + a) i = fg q c i := by
  unfold fg
  rw [show q + 1 - 1 - i = (q - 1 - i) + 1 by omega, Nat.pow_succ, Nat.mul_comm (7 ^ (q - 1 - i)) 7, ← Nat.div_div_eq_div_mul, show (7 * c + a) / 7 = c by omega]
theorem fg_last {q c a : Nat} (ha : a < 7) : fg (q + 1) (7 * c + a) q = a + 1 := by
  unfold fg
  rw [show q + 1 - 1 - q = 0 by omega, Nat.pow_zero, Nat.div_one]
  omega
theorem ctS_app {n : Nat} {kd d : Nat → Nat} {q c a : Nat} (ha : a < 7) : ctS n kd (q + 1) (7 * c + a) d = if (ctS n kd q c d).1 = q then (if mayS n kd (rstS n (ctS n kd q c d).2) (nI (a + 1)) = true then (q + 1, tosS n kd (rstS n (ctS n kd q c d).2) (a + 1)) else (q, rstS n (ctS n kd q c d).2)) else ctS n kd q c d := by
  unfold ctS
  rw [thS_snoc q 0 d, thS_cg (hs' := fg q c) q 0 d (fun i _ h2 => fg_app ha (by omega)), Nat.zero_add, fg_last ha]
/-- what a row of throws is worth -/
def wvS (n : Nat) (kd : Nat → Nat) (all : Nat) (d : Nat → Nat) (q c : Nat) : Int32 := if (ctS n kd q c d).1 = q then bfS n kd (all - q) (ctS n kd q c d).2 else CN
theorem ct_le {n : Nat} {kd d : Nat → Nat} {q c : Nat} (hk : kdok n kd) (ha : apart n d) : (ctS n kd q c d).1 ≤ q := (ctS_ok hk ha).2
theorem wv_app {n : Nat} {kd d : Nat → Nat} {all q c a : Nat} (hk : kdok n kd) (hd : apart n d) (ha : a < 7) (h1 : (ctS n kd q c d).1 = q) : wvS n kd all d (q + 1) (7 * c + a) = if mayS n kd (rstS n (ctS n kd q c d).2) (nI (a + 1)) = true then bfS n kd (all - (q + 1)) (tosS n kd (rstS n (ctS n kd q c d).2) (a + 1)) else CN := by
  unfold wvS
  rw [ctS_app ha, if_pos h1]
  by_cases hm : mayS n kd (rstS n (ctS n kd q c d).2) (nI (a + 1)) = true
  · rw [if_pos hm, if_pos hm, if_pos rfl]
  · rw [if_neg hm, if_neg hm, if_neg (by show ¬ q = q + 1; omega)]
theorem wv_step {n : Nat} {kd d : Nat → Nat} {all q c : Nat} {w : Nat → Int32} (hn : n ≤ 6) (hk : kdok n kd) (hd : apart n d) (hq : q < all) (he : evB all = true) (h1 : (ctS n kd q c d).1 = q) (hw : ∀ a, a < 7 → w a = wvS n kd all d (q + 1) (7 * c + a)) : wvS n kd all d q c = if hgtS n kd (rstS n (ctS n kd q c d).2) = 0 then sumS n (rstS n (ctS n kd q c d).2) + pmI (evB q) else rbs w (evB q) 7 := by
  have hev : evB (all - q) = evB q := by
    unfold evB at he ⊢
    have := of_decide_eq_true he
    exact decide_eq_decide.mpr (by omega)
  have e0 : wvS n kd all d q c = bfS n kd (all - q) (ctS n kd q c d).2 := by
    unfold wvS
    rw [if_pos h1]
  have hap := (ctS_ok hk hd (q := q) (c := c)).1
  obtain ⟨l, hl⟩ : ∃ l, all - q = l + 1 := ⟨all - q - 1, by omega⟩
  rw [e0, ← hev, hl]
  have e1 : ∀ d', bfS n kd (l + 1) d' = if hgtS n kd (rstS n d') = 0 then sumS n (rstS n d') + pmI (evB (l + 1)) else bst (fun a => mayS n kd (rstS n d') (nI (a + 1))) (fun a => bfS n kd l (tosS n kd (rstS n d') (a + 1))) (evB (l + 1)) 7 := fun _ => rfl
  rw [e1]
  by_cases h0 : hgtS n kd (rstS n (ctS n kd q c d).2) = 0
  · rw [if_pos h0, if_pos h0]
  · rw [if_neg h0, if_neg h0]
    rcases bst_rbs (p := fun a => mayS n kd (rstS n (ctS n kd q c d).2) (nI (a + 1))) (v := fun a => bfS n kd l (tosS n kd (rstS n (ctS n kd q c d).2) (a + 1))) (w := w) (first := evB (l + 1)) 7 (fun a ha => by rw [hw a ha, wv_app hk hd ha h1, show all - (q + 1) = l by omega]) (fun a ha7 hm => bf_ok hn hk l _ (apart_tos (apart_rst hap) hk (by omega) hm)) with ⟨i1, _⟩ | ⟨_, i2, _⟩
    · exact absurd (hgt_0.mpr i1) h0
    · exact i2.symm
def spDuel (S : Sta) (q : Int32) : Int32 × Sta := if eN S = 0 then (-nI 4, S) else if in3 q (nI 0) (nI 2) = false then (-nI 1, S) else (nI 1, tellS S (bfS (eN S) (eK S) (2 * nat q) (duE (eE S))))

