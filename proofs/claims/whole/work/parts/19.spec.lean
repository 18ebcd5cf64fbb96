/-! ===== what every call answers and changes, told once for both ===== -/
/-- an evening: how many deeds; dues, times thrown, the beat ahead of each deed and now -/
abbrev Evn : Type := Nat × (Nat → Nat → Nat) × (Nat → Nat → Nat) × (Nat → Nat)
/-- things, their kinds, the evening, what is kept -/
abbrev Sky : Type := Nat × (Nat → Nat) × Evn × (Nat → Option Evn)
abbrev Txt : Type := (Nat → Int32) × (Nat → Nat → Int32)
abbrev Tld : Type := Int32 × Int32 × (Nat → Int32) × Int64 × Int64
abbrev Sta : Type := Sky × Txt × Txt × Tld
def sR (S : Sta) (R : Txt) : Sta := (S.1, R, S.2.2)
def sX (S : Sta) (T : Txt) : Sta := (S.1, S.2.1, T, S.2.2.2)
def sT (S : Sta) (t : Tld) : Sta := (S.1, S.2.1, S.2.2.1, t)
def sK (S : Sta) (k : Sky) : Sta := (k, S.2)
def tellS (S : Sta) (x : Int32) : Sta := sT S (x, S.2.2.2.2)
def fndS (S : Sta) (f : Nat) : Sta := sT S (S.2.2.2.1, nI f, upd S.2.2.2.2.2.1 f (S.2.2.2.2.2.1 f + nI 1), S.2.2.2.2.2.2)
def upS (S : Sta) (a b : Int64) : Sta := sT S (S.2.2.2.1, S.2.2.2.2.1, S.2.2.2.2.2.1, a, b)
def rz (S : Sta) (r : Nat) : Int32 := S.2.1.1 r
def rc (S : Sta) (r i : Nat) : Int32 := S.2.1.2 r i
def tz (S : Sta) (t : Nat) : Int32 := S.2.2.1.1 t
def tc (S : Sta) (t i : Nat) : Int32 := S.2.2.1.2 t i
def okR (r : Int32) : Bool := in3 r (nI 0) (nI 5)
def okT (t : Int32) : Bool := in3 t (nI 0) (nI 3)
def okH (h : Int32) : Bool := in3 h (nI 1) (nI 7)
def okS (s : Int32) : Bool := in3 s (nI 0) (nI 65535)
/-- the number in an int -/
def nat (x : Int32) : Nat := x.toNatClampNeg
theorem nat_nI {k : Nat} (h : k < 2 ^ 31) : nat (nI k) = k := nI_clamp h
theorem in3_nat {x : Int32} {a b : Nat} (hb : b < 2 ^ 31) (hab : a < 2 ^ 31) (h : in3 x (nI a) (nI b) = true) : ∃ j, a ≤ j ∧ j ≤ b ∧ x = nI j := by
  unfold in3 at h
  rw [Bool.and_eq_true, decide_eq_true_eq, decide_eq_true_eq] at h
  have h0 : ¬ x < 0 := by
    intro q
    have h1 : nI 0 ≤ nI a := nI_le (by omega) hab
    exact absurd (Int32.lt_of_lt_of_le q (Int32.le_trans h1 h.1)) Int32.lt_irrefl
  obtain ⟨j, hj, rfl⟩ := nI_of h0
  exact ⟨j, (nI_leI hab hj).mp h.1, (nI_leI hj hb).mp h.2, rfl⟩
theorem in3_nI {a b j : Nat} (hb : b < 2 ^ 31) (h1 : a ≤ j) (h2 : j ≤ b) : in3 (nI j) (nI a) (nI b) = true := by
  unfold in3
  rw [decide_eq_true (nI_le h1 (by omega)), decide_eq_true (nI_le h2 hb)]
  rfl
/-- sizes: missing, or 0 to m -/
def szOk (m : Nat) (x : Int32) : Prop := x = -nI 1 ∨ ∃ k, k ≤ m ∧ x = nI k
theorem szOk_neg {m : Nat} {x : Int32} (hm : m < 2 ^ 31) (h : szOk m x) : (x = -nI 1 ∧ x < 0 ∧ ¬ 0 ≤ x) ∨ ∃ k, k ≤ m ∧ x = nI k ∧ ¬ x < 0 ∧ 0 ≤ x := by
  rcases h with rfl | ⟨k, hk, rfl⟩
  · exact Or.inl ⟨rfl, by decide, by decide⟩
  · exact Or.inr ⟨k, hk, rfl, nI_pos (by omega), nI_pos' (by omega)⟩
def set2 (f : Nat → Nat → Int32) (r i : Nat) (x : Int32) : Nat → Nat → Int32 := fun a b => if a = r ∧ b = i then x else f a b
def new2 (f : Nat → Nat → Int32) (r n : Nat) (x : Int32) : Nat → Nat → Int32 := fun a b => if a = r ∧ b < n then x else f a b
def spRow (S : Sta) (r n : Int32) : Int32 × Sta := if okR r = false then (-nI 1, S) else if nI 40 < n then (-nI 1, S) else if n < 0 then (-nI 3, fndS S 5) else (n, sR S (upd S.2.1.1 (nat r) n, new2 S.2.1.2 (nat r) (nat n) (nI 0)))
/-- what is wrong about a row, about a place of it -/
def wrR (S : Sta) (r : Int32) (k : Int32 × Sta) : Int32 × Sta := if okR r = false then (-nI 1, S) else if rz S (nat r) < 0 then (-nI 3, fndS S 1) else k
def wrP (S : Sta) (r i : Int32) (k : Int32 × Sta) : Int32 × Sta := wrR S r (if in3 i (nI 0) (rz S (nat r) - nI 1) = false then (-nI 3, fndS S 2) else k)
def spLay (S : Sta) (r i x : Int32) : Int32 × Sta := wrP S r i (nI 1, tellS (sR S (S.2.1.1, set2 S.2.1.2 (nat r) (nat i) x)) (rc S (nat r) (nat i)))
def spAt (S : Sta) (r i : Int32) : Int32 × Sta := wrP S r i (nI 1, tellS S (rc S (nat r) (nat i)))
def spTear (S : Sta) (r : Int32) : Int32 × Sta := wrR S r (nI 1, sR S (upd S.2.1.1 (nat r) (-nI 1), S.2.1.2))
def prtB (z i n : Int32) : Bool := decide (0 ≤ i) && (decide (n ≤ nI 40) && decide (i ≤ z - n))
def cpy2 (f : Nat → Nat → Int32) (r i t j n : Nat) : Nat → Nat → Int32 := fun a b => if a = t ∧ j ≤ b ∧ b < j + n then f r (i + (b - j)) else f a b
def spCopy (S : Sta) (r i t j n : Int32) : Int32 × Sta := if okR r = false then (-nI 1, S) else if okR t = false then (-nI 1, S) else if n < 0 then (-nI 3, fndS S 5) else if rz S (nat r) < 0 then (-nI 3, fndS S 1) else if rz S (nat t) < 0 then (-nI 3, fndS S 1) else if prtB (rz S (nat r)) i n = false then (-nI 3, fndS S 2) else if prtB (rz S (nat t)) j n = false then (-nI 3, fndS S 2) else (nI 1, sR S (S.2.1.1, cpy2 S.2.1.2 (nat r) (nat i) (nat t) (nat j) (nat n)))
def sumL (f : Nat → Int32) : Nat → Int64
  | 0 => lN 0
  | n + 1 => sumL f n + (f n).toInt64
def spMean (S : Sta) (r : Int32) : Int32 × Sta := wrR S r (if rz S (nat r) = 0 then (-nI 3, fndS S 4) else (nI 1, tellS S (sumL (rc S (nat r)) (nat (rz S (nat r))) / (rz S (nat r)).toInt64).toInt32))
def spText (S : Sta) (t n : Int32) : Int32 × Sta := if okT t = false then (-nI 1, S) else if nI 60 < n then (-nI 1, S) else if n < 0 then (-nI 3, fndS S 5) else (n, sX S (upd S.2.2.1.1 (nat t) n, new2 S.2.2.1.2 (nat t) (nat n) (nI 32)))
def wrT (S : Sta) (t : Int32) (k : Int32 × Sta) : Int32 × Sta := if okT t = false then (-nI 1, S) else if tz S (nat t) < 0 then (-nI 3, fndS S 1) else k
def spPut (S : Sta) (t i x : Int32) : Int32 × Sta := wrT S t (if in3 i (nI 0) (tz S (nat t) - nI 1) = false then (-nI 3, fndS S 2) else (tc S (nat t) (nat i) + nI 1000, sX S (S.2.2.1.1, set2 S.2.2.1.2 (nat t) (nat i) x.toInt8.toInt32)))
/-! the reference holds it so -/
def evM (w : Nat → Int32) (o n : Nat) (E : Evn) : Prop := E.1 ≤ 40 ∧ w (o + 533) = nI E.1 ∧ (∀ k, k < n → w (o + k) = nI (E.2.1 E.1 k) ∧ w (o + 6 + k) = nI (E.2.2.1 E.1 k)) ∧ w (o + 12) = nI (E.2.2.2 E.1) ∧ ∀ d, d < E.1 → (∀ k, k < n → w (o + 13 + 13 * d + k) = nI (E.2.1 d k) ∧ w (o + 13 + 13 * d + 6 + k) = nI (E.2.2.1 d k)) ∧ w (o + 13 + 13 * d + 12) = nI (E.2.2.2 d)
def gdE (n : Nat) (E : Evn) : Prop := ∀ d, d ≤ E.1 → apart n (E.2.1 d)
def skyM (I : Nat → Int32) (F : Nat → Nat → Int32) (k : Sky) : Prop := I 2 = nI k.1 ∧ k.1 ≤ 6 ∧ (∀ i, i < k.1 → F 2 i = nI (k.2.1 i) ∧ k.2.1 i < 6) ∧ evM (F 1) 0 k.1 k.2.2.1 ∧ gdE k.1 k.2.2.1 ∧ ∀ q, q < 3 → match k.2.2.2 q with
  | none => F 3 q = -nI 1
  | some E => F 3 q = nI E.1 ∧ evM (F 1) (534 * (q + 1)) k.1 E ∧ gdE k.1 E
def rowM (F : Nat → Nat → Int32) (R : Txt) : Prop := ∀ r, r < 6 → F 5 r = R.1 r ∧ szOk 40 (R.1 r) ∧ ∀ i, i < nat (R.1 r) → F 4 (40 * r + i) = R.2 r i
def txtM (F : Nat → Nat → Int32) (T : Txt) : Prop := ∀ t, t < 4 → F 7 t = T.1 t ∧ szOk 60 (T.1 t) ∧ ∀ i, i < nat (T.1 t) → F 6 (60 * t + i) = T.2 t i
def tldM (I : Nat → Int32) (F : Nat → Nat → Int32) (t : Tld) : Prop := I 8 = t.1 ∧ I 11 = t.2.1 ∧ ∀ f, f < 6 → F 8 f = t.2.2.1 f
def RM (S : Sta) (hp : List Am_C) : Prop := ∃ I F, hp = mH I F S.2.2.2.2.2.2.1 S.2.2.2.2.2.2.2 ∧ skyM I F S.1 ∧ rowM F S.2.1 ∧ txtM F S.2.2.1 ∧ tldM I F S.2.2.2
