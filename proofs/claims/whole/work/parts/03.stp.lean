/-! ===== what one instruction asks of what follows ===== -/
abbrev Am_E : Type := Nat × Instr × Nat × Nat × Nat × Nat
abbrev Am_K : Type := Nat → List (Option Value) → List Value → List Am_C → Nat → Nat → Prop
def am_lk : List Am_E → Nat → Option (Instr × Nat × Nat × Nat × Nat)
  | [], _ => none
  | e :: t, pc => bif Nat.beq e.1 pc then some e.2 else am_lk t pc
def am_i1 (st : List Value) (q : Int32 → List Value → Prop) : Prop := match st with
  | .int x :: r => q x r
  | _ => False
def am_i2 (st : List Value) (q : Int32 → Int32 → List Value → Prop) : Prop := match st with
  | .int y :: .int x :: r => q x y r
  | _ => False
def am_j1 (st : List Value) (q : Int64 → List Value → Prop) : Prop := match st with
  | .long x :: r => q x r
  | _ => False
def am_j2 (st : List Value) (q : Int64 → Int64 → List Value → Prop) : Prop := match st with
  | .long y :: .long x :: r => q x y r
  | _ => False
def am_r1 (st : List Value) (q : Nat → List Value → Prop) : Prop := match st with
  | .ref x :: r => q x r
  | _ => False
theorem am_i1e {st : List Value} {q : Int32 → List Value → Prop} (h : am_i1 st q) : ∃ x r, st = .int x :: r ∧ q x r := by
  unfold am_i1 at h
  split at h
  · exact ⟨_, _, rfl, h⟩
  · exact h.elim
theorem am_i2e {st : List Value} {q : Int32 → Int32 → List Value → Prop} (h : am_i2 st q) : ∃ x y r, st = .int y :: .int x :: r ∧ q x y r := by
  unfold am_i2 at h
  split at h
  · exact ⟨_, _, _, rfl, h⟩
  · exact h.elim
theorem am_j1e {st : List Value} {q : Int64 → List Value → Prop} (h : am_j1 st q) : ∃ x r, st = .long x :: r ∧ q x r := by
  unfold am_j1 at h
  split at h
  · exact ⟨_, _, rfl, h⟩
  · exact h.elim
theorem am_j2e {st : List Value} {q : Int64 → Int64 → List Value → Prop} (h : am_j2 st q) : ∃ x y r, st = .long y :: .long x :: r ∧ q x y r := by
  unfold am_j2 at h
  split at h
  · exact ⟨_, _, _, rfl, h⟩
  · exact h.elim
theorem am_r1e {st : List Value} {q : Nat → List Value → Prop} (h : am_r1 st q) : ∃ x r, st = .ref x :: r ∧ q x r := by
  unfold am_r1 at h
  split at h
  · exact ⟨_, _, rfl, h⟩
  · exact h.elim
/-- a number out of the table's two places -/
def am_n (b a : Nat) (q : Int32 → Prop) : Prop := match b with
  | 0 => q (nI a)
  | _ => q (-nI a)
def am_nv (b a : Nat) : Int32 := match b with
  | 0 => nI a
  | _ => -nI a
theorem am_ne {b a : Nat} {q : Int32 → Prop} (h : am_n b a q) : q (am_nv b a) := by
  unfold am_n at h
  unfold am_nv
  split at h <;> exact h
def am_ld (loc : List (Option Value)) (i : Nat) (q : Value → Prop) : Prop := match loc[i]? with
  | some (some v) => q v
  | _ => False
theorem am_lde {loc : List (Option Value)} {i : Nat} {q : Value → Prop} (h : am_ld loc i q) : ∃ v, loc[i]? = some (some v) ∧ q v := by
  unfold am_ld at h
  split at h
  · next v hv => exact ⟨v, hv, h⟩
  · exact h.elim
def am_isI : Value → Bool
  | .int _ => true
  | _ => false
def am_isL : Value → Bool
  | .long _ => true
  | _ => false
def am_isR : Value → Bool
  | .ref _ => true
  | .retAddr _ => true
  | _ => false
theorem am_isIe {v : Value} (h : am_isI v = true) : ∃ x, v = .int x := by cases v <;> first | exact ⟨_, rfl⟩ | cases h
theorem am_isLe {v : Value} (h : am_isL v = true) : ∃ x, v = .long x := by cases v <;> first | exact ⟨_, rfl⟩ | cases h
theorem am_isRe {v : Value} (K : Am_X) (h : am_isR v = true) : ∃ x, am_v K v = .ref x := by cases v <;> first | exact ⟨_, rfl⟩ | cases h
/-- the array of ints, of bytes, of references at a handle -/
def am_ai (hp : List Am_C) (h : Nat) (q : Nat → (Nat → Int32) → Prop) : Prop := match hp[h]? with
  | some (.inl (0, n, .inl f)) => bif Nat.ble n 4096 then q n f else False
  | _ => False
def am_ab (hp : List Am_C) (h : Nat) (q : Nat → (Nat → Int32) → Prop) : Prop := match hp[h]? with
  | some (.inl (1, n, .inl f)) => bif Nat.ble n 4096 then q n f else False
  | _ => False
def am_ar (hp : List Am_C) (h : Nat) (q : Nat → Nat → (Nat → Option Nat) → Prop) : Prop := match hp[h]? with
  | some (.inl (t, n, .inr (.inr (.inr (.inr f))))) => bif Nat.ble n 4096 && (Nat.beq t 2 || Nat.beq t 3) then q t n f else False
  | _ => False
def am_ob (hp : List Am_C) (h : Nat) (q : Nat → List Value → Prop) : Prop := match hp[h]? with
  | some (.inr (ci, fs)) => q ci fs
  | _ => False
theorem am_aie {hp : List Am_C} {h : Nat} {q : Nat → (Nat → Int32) → Prop} (e : am_ai hp h q) : ∃ n f, hp[h]? = some (.inl (0, n, .inl f)) ∧ n ≤ 4096 ∧ q n f := by
  unfold am_ai at e
  split at e
  · next n f hv =>
    cases hb : Nat.ble n 4096 with
    | true => rw [hb] at e; exact ⟨n, f, hv, Nat.le_of_ble_eq_true hb, e⟩
    | false => rw [hb] at e; exact e.elim
  · exact e.elim
theorem am_abe {hp : List Am_C} {h : Nat} {q : Nat → (Nat → Int32) → Prop} (e : am_ab hp h q) : ∃ n f, hp[h]? = some (.inl (1, n, .inl f)) ∧ n ≤ 4096 ∧ q n f := by
  unfold am_ab at e
  split at e
  · next n f hv =>
    cases hb : Nat.ble n 4096 with
    | true => rw [hb] at e; exact ⟨n, f, hv, Nat.le_of_ble_eq_true hb, e⟩
    | false => rw [hb] at e; exact e.elim
  · exact e.elim
theorem am_are {hp : List Am_C} {h : Nat} {q : Nat → Nat → (Nat → Option Nat) → Prop} (e : am_ar hp h q) : ∃ t n f, hp[h]? = some (.inl (t, n, .inr (.inr (.inr (.inr f))))) ∧ n ≤ 4096 ∧ (t = 2 ∨ t = 3) ∧ q t n f := by
  unfold am_ar at e
  split at e
  · next t n f hv =>
    cases hb : Nat.ble n 4096 && (Nat.beq t 2 || Nat.beq t 3) with
    | true =>
      rw [hb] at e
      simp only [Bool.and_eq_true, Bool.or_eq_true] at hb
      exact ⟨t, n, f, hv, Nat.le_of_ble_eq_true hb.1, hb.2.imp Nat.eq_of_beq_eq_true Nat.eq_of_beq_eq_true, e⟩
    | false => rw [hb] at e; exact e.elim
  · exact e.elim
theorem am_obe {hp : List Am_C} {h : Nat} {q : Nat → List Value → Prop} (e : am_ob hp h q) : ∃ ci fs, hp[h]? = some (.inr (ci, fs)) ∧ q ci fs := by
  unfold am_ob at e
  split at e
  · next ci fs hv => exact ⟨ci, fs, hv, e⟩
  · exact e.elim
def am_t (b : Bool) (q : Prop) : Prop := bif b then q else False
theorem am_te {b : Bool} {q : Prop} (h : am_t b q) : b = true ∧ q := by
  unfold am_t at h
  cases b with
  | true => exact ⟨rfl, h⟩
  | false => exact h.elim
/-- a value fits a field -/
def am_fit : FieldType → Value → Bool
  | .int, .int _ => true
  | .long, .long _ => true
  | .object _, .ref _ => true
  | .array _, .ref _ => true
  | _, _ => false
theorem am_fite {K : Am_X} {ty : FieldType} {v : Value} (h : am_fit ty v = true) : narrow ty (am_v K v) = am_v K v ∧ fits ty (am_v K v) = true := by
  cases ty <;> cases v <;> first | exact ⟨rfl, rfl⟩ | cases h
/-- the static tables: numbers 0 to 3 -/
def am_tab (t : Nat) : Nat × (Nat → Int32) := match t with
  | 0 => (6, fun k => match k with | 0 => nI 98 | 1 => nI 99 | 2 => nI 102 | 3 => nI 108 | 4 => nI 116 | _ => nI 97)
  | 1 => (6, fun k => match k with | 0 => nI 0 | 1 => nI 0 | 2 => nI 0 | 3 => nI 0 | 4 => nI 1 | _ => nI 3)
  | 2 => (6, fun k => match k with | 0 => nI 1 | 1 => nI 1 | 2 => nI 1 | 3 => nI 1 | 4 => nI 3 | _ => nI 1)
  | _ => (6, fun k => match k with | 0 => nI 7 | 1 => nI 7 | 2 => nI 7 | 3 => nI 7 | 4 => nI 7 | _ => nI 4)
def am_tabN (t : Nat) : String := match t with
  | 0 => "LETTERS"
  | 1 => "ABOVE"
  | 2 => "LOWEST"
  | _ => "HIGHEST"
def am_sw (x : Int32) (pc : Nat) (q : Nat → Prop) : Int → List Int → Prop
  | _, [] => True
  | lo, o :: os => (x.toInt = lo → q ((pc : Int) + o).toNat) ∧ am_sw x pc q (lo + 1) os
def am_lsw (x : Int32) (pc : Nat) (q : Nat → Prop) (dflt : Int) : List (Int × Int) → Prop
  | [] => q ((pc : Int) + dflt).toNat
  | (a, o) :: r => (x.toInt = a → q ((pc : Int) + o).toNat) ∧ (¬ x.toInt = a → am_lsw x pc q dflt r)
def am_rok (rt : Option FieldType) (v : Int32) : Prop := match rt with
  | some .int => True
  | some .boolean => v = nI 0 ∨ v = nI 1
  | _ => False
/-- the locals' list, spelled out -/
def am_nf : List (Option Value) → (List (Option Value) → Prop) → Prop
  | [], q => q []
  | x :: l, q => am_nf l (fun l' => q (x :: l'))
theorem am_nfe : ∀ (l : List (Option Value)) {q : List (Option Value) → Prop}, am_nf l q → q l
  | [], _, h => h
  | x :: l, q, h => am_nfe l (q := fun l' => q (x :: l')) h
def am_cs (st : List Value) : Nat := (st.map fun v => v.category).sum
def am_has (loc : List (Option Value)) (i : Nat) (q : Prop) : Prop := match loc[i]? with
  | some _ => q
  | none => False
theorem am_hase {loc : List (Option Value)} {i : Nat} {q : Prop} (h : am_has loc i q) : i < loc.length ∧ q := by
  unfold am_has at h
  split at h
  · next v hv => exact ⟨(List.getElem?_eq_some_iff.mp hv).1, h⟩
  · exact h.elim
