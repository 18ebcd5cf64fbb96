/-! ===== an abstract machine: cells by handles, a code table, what one instruction asks ===== -/
/-- a cell: an array of ints (0), bytes (1), Sheets (2), Evenings (3); an object of a class by its number -/
abbrev Am_C : Type := (Nat × vp_A) ⊕ (Nat × List Value)
def am_ft (t : Nat) : FieldType := match t with
  | 0 => .int
  | 1 => .byte
  | 2 => .object "ThingsThrown$Sheet"
  | _ => .object "ThingsThrown$Evening"
abbrev Am_X : Type := va_G × (FieldType → ClassId) × (Nat → Nat) × (Nat → Nat)
def am_v (K : Am_X) : Value → Value
  | .ref k => .ref (K.2.2.1 k)
  | .retAddr k => .ref (K.2.2.2 k)
  | .int x => .int x
  | .long x => .long x
  | .float x => .float x
  | .double x => .double x
  | .null => .null
def am_vA (K : Am_X) (a : vp_A) : vp_A := (a.1, match a.2 with
  | .inr (.inr (.inr (.inr f))) => .inr (.inr (.inr (.inr (fun j => (f j).map K.2.2.1))))
  | .inl f => .inl f
  | .inr (.inl f) => .inr (.inl f)
  | .inr (.inr (.inl f)) => .inr (.inr (.inl f))
  | .inr (.inr (.inr (.inl f))) => .inr (.inr (.inr (.inl f))))
def am_c (K : Am_X) : Am_C → va_E
  | .inl (t, a) => .inl (K.2.1 (am_ft t), am_vA K a)
  | .inr (ci, fs) => .inr (ci, fs.map (am_v K))
def am_w (K : Am_X) (hp : List Am_C) : va_W := hp.mapIdx (fun k c => (K.2.2.1 k, am_c K c))
theorem am_w_at {K : Am_X} {hp : List Am_C} {k : Nat} {c : Am_C} (h : hp[k]? = some c) : (am_w K hp)[k]? = some (K.2.2.1 k, am_c K c) := by
  simp [am_w, List.getElem?_mapIdx, h]
theorem am_w_inv {K : Am_X} {hp : List Am_C} {k : Nat} {q : Nat × va_E} (h : (am_w K hp)[k]? = some q) : ∃ c, hp[k]? = some c ∧ q = (K.2.2.1 k, am_c K c) := by
  simp only [am_w, List.getElem?_mapIdx, Option.map_eq_some_iff] at h
  obtain ⟨c, h1, h2⟩ := h
  exact ⟨c, h1, h2.symm⟩
theorem am_w_set {K : Am_X} {hp : List Am_C} {k : Nat} {c : Am_C} : (am_w K hp).set k (K.2.2.1 k, am_c K c) = am_w K (hp.set k c) := by
  apply List.ext_getElem?
  intro j
  by_cases hj : k = j
  · subst hj
    by_cases hl : k < hp.length
    · simp [am_w, List.getElem?_mapIdx, hl]
    · simp [am_w, List.getElem?_mapIdx, hl]
  · simp [am_w, List.getElem?_mapIdx, hj]
theorem am_w_app {K : Am_X} {hp : List Am_C} {c : Am_C} : am_w K (hp ++ [c]) = am_w K hp ++ [(K.2.2.1 hp.length, am_c K c)] := by
  simp [am_w, List.mapIdx_append]
theorem am_cat (K : Am_X) (v : Value) : (am_v K v).category = v.category := by cases v <;> rfl
theorem am_cats (K : Am_X) (st : List Value) : ((st.map (am_v K)).map fun v => v.category) = st.map fun v => v.category := by
  rw [List.map_map]
  apply List.map_congr_left
  intro v _
  exact am_cat K v
/-! locals -/
def am_R (K : Am_X) (ls : Array Slot) (nL : Nat) (loc : List (Option Value)) : Prop := ls.size = nL ∧ lv_wf ls ∧ loc.length = nL ∧ ∀ (i : Nat) (v : Value), loc[i]? = some (some v) → ls[i]? = some (.val (am_v K v))
def am_all (K : Am_X) (loc : List (Option Value)) : List (Nat × Value) := (List.range loc.length).filterMap (fun i => match loc[i]? with
  | some (some v) => some (i, am_v K v)
  | _ => none)
theorem am_all_in {K : Am_X} {loc : List (Option Value)} {i : Nat} {v : Value} (h : loc[i]? = some (some v)) : (i, am_v K v) ∈ am_all K loc := by
  refine List.mem_filterMap.mpr ⟨i, List.mem_range.mpr (List.getElem?_eq_some_iff.mp h).1, ?_⟩
  simp [h]
theorem am_R_has {K : Am_X} {ls : Array Slot} {nL : Nat} {loc : List (Option Value)} (h : am_R K ls nL loc) : lv_has ls nL (am_all K loc) := by
  refine ⟨h.1, h.2.1, fun q hq => ?_⟩
  obtain ⟨i, -, hi⟩ := List.mem_filterMap.mp hq
  split at hi
  · next v hv =>
    cases hi
    exact h.2.2.2 i v hv
  · cases hi
def am_clr (loc : List (Option Value)) (i : Nat) : List (Option Value) := match i with
  | 0 => loc
  | j + 1 => match loc[j]? with
    | some (some (.long _)) => loc.set j none
    | some (some (.double _)) => loc.set j none
    | _ => loc
theorem am_clr_len (loc : List (Option Value)) (i : Nat) : (am_clr loc i).length = loc.length := by
  unfold am_clr
  split
  · rfl
  · split <;> simp
theorem am_clr_at {loc : List (Option Value)} {i j : Nat} {v : Value} (h : (am_clr loc i)[j]? = some (some v)) : loc[j]? = some (some v) ∧ ¬ (j + 1 = i ∧ v.category = 2) := by
  unfold am_clr at h
  split at h
  · exact ⟨h, fun q => by omega⟩
  · next n =>
    split at h
    · next x hx =>
      by_cases hj : n = j
      · subst hj
        rw [List.getElem?_set] at h
        split at h
        · split at h <;> cases h
        · next q => exact absurd rfl q
      · rw [List.getElem?_set_ne hj] at h
        exact ⟨h, fun q => by omega⟩
    · next x hx =>
      by_cases hj : n = j
      · subst hj
        rw [List.getElem?_set] at h
        split at h
        · split at h <;> cases h
        · next q => exact absurd rfl q
      · rw [List.getElem?_set_ne hj] at h
        exact ⟨h, fun q => by omega⟩
    · next hn1 hn2 =>
      refine ⟨h, fun q => ?_⟩
      have hj : j = n := by omega
      subst hj
      cases v with
      | long x => exact hn1 x h
      | double x => exact hn2 x h
      | _ => exact absurd q.2 (by simp [Value.category])
def am_s1 (loc : List (Option Value)) (i : Nat) (v : Value) : List (Option Value) := (am_clr loc i).set i (some v)
def am_s2 (loc : List (Option Value)) (i : Nat) (v : Value) : List (Option Value) := ((am_clr loc i).set i (some v)).set (i + 1) none
theorem am_R_s1 {K : Am_X} {ls ls' : Array Slot} {nL i : Nat} {loc : List (Option Value)} {v : Value} (h : am_R K ls nL loc) (h2 : lv_has ls' nL ((i, am_v K v) :: (am_all K loc).filter (fun q => !(q.1 == i) && !(q.1 + 1 == i && q.2.category == 2)))) : am_R K ls' nL (am_s1 loc i v) := by
  refine ⟨h2.1, h2.2.1, by rw [am_s1, List.length_set, am_clr_len]; exact h.2.2.1, fun j w hj => ?_⟩
  unfold am_s1 at hj
  by_cases hij : i = j
  · subst hij
    have hl := (List.getElem?_eq_some_iff.mp hj).1
    rw [List.length_set] at hl
    rw [List.getElem?_set_self hl] at hj
    cases hj
    exact h2.2.2 (i, am_v K v) List.mem_cons_self
  · rw [List.getElem?_set_ne hij] at hj
    obtain ⟨h3, h4⟩ := am_clr_at hj
    refine h2.2.2 (j, am_v K w) (List.mem_cons_of_mem _ (List.mem_filter.mpr ⟨am_all_in h3, ?_⟩))
    have e1 : (j == i) = false := by simp; omega
    simp only [e1, am_cat, Bool.not_false, Bool.true_and, Bool.not_eq_true', Bool.and_eq_false_iff, beq_eq_false_iff_ne, ne_eq]
    by_cases h5 : j + 1 = i
    · exact Or.inr (fun h6 => h4 ⟨h5, h6⟩)
    · exact Or.inl h5
theorem am_R_s2 {K : Am_X} {ls ls' : Array Slot} {nL i : Nat} {loc : List (Option Value)} {v : Value} (h : am_R K ls nL loc) (h2 : lv_has ls' nL ((i, am_v K v) :: (am_all K loc).filter (fun q => !(q.1 == i) && (!(q.1 == i + 1) && !(q.1 + 1 == i && q.2.category == 2))))) : am_R K ls' nL (am_s2 loc i v) := by
  refine ⟨h2.1, h2.2.1, by rw [am_s2, List.length_set, List.length_set, am_clr_len]; exact h.2.2.1, fun j w hj => ?_⟩
  unfold am_s2 at hj
  by_cases hi1 : i + 1 = j
  · subst hi1
    rw [List.getElem?_set] at hj
    split at hj
    · split at hj
      · cases hj
      · cases hj
    · next q => exact absurd rfl q
  rw [List.getElem?_set_ne hi1] at hj
  by_cases hij : i = j
  · subst hij
    have hl := (List.getElem?_eq_some_iff.mp hj).1
    rw [List.length_set] at hl
    rw [List.getElem?_set_self hl] at hj
    cases hj
    exact h2.2.2 (i, am_v K v) List.mem_cons_self
  · rw [List.getElem?_set_ne hij] at hj
    obtain ⟨h3, h4⟩ := am_clr_at hj
    refine h2.2.2 (j, am_v K w) (List.mem_cons_of_mem _ (List.mem_filter.mpr ⟨am_all_in h3, ?_⟩))
    have e1 : (j == i) = false := by simp; omega
    have e2 : (j == i + 1) = false := by simp; omega
    simp only [e1, e2, am_cat, Bool.not_false, Bool.true_and, Bool.not_eq_true', Bool.and_eq_false_iff, beq_eq_false_iff_ne, ne_eq]
    by_cases h5 : j + 1 = i
    · exact Or.inr (fun h6 => h4 ⟨h5, h6⟩)
    · exact Or.inl h5
def am_l0 : List Value → List (Option Value)
  | [] => []
  | v :: vs => match v with
    | .long x => some (.long x) :: none :: am_l0 vs
    | .double x => some (.double x) :: none :: am_l0 vs
    | v => some v :: am_l0 vs
theorem am_l0_len (K : Am_X) : ∀ vs : List Value, (am_l0 vs).length = (lg_sl (vs.map (am_v K))).length
  | [] => rfl
  | v :: vs => by
    have ih := am_l0_len K vs
    cases v <;> simp_all [am_l0, lg_sl, am_v, Value.category] <;> omega
theorem am_l0_in (K : Am_X) : ∀ (vs : List Value) (o i : Nat) (v : Value), (am_l0 vs)[i]? = some (some v) → (o + i, am_v K v) ∈ lv_args o (vs.map (am_v K))
  | [], o, i, v, h => by simp [am_l0] at h
  | x :: vs, o, i, v, h => by
    have ih := am_l0_in K vs
    cases x with
    | long z =>
      match i, h with
      | 0, h => simp [am_l0] at h; subst h; simp [lv_args]
      | 1, h => simp [am_l0] at h
      | i + 2, h =>
        have h1 : (am_l0 vs)[i]? = some (some v) := by simpa [am_l0] using h
        have h2 := ih (o + 2) i v h1
        have e : o + 2 + i = o + (i + 2) := by omega
        rw [e] at h2
        exact List.mem_cons_of_mem _ h2
    | double z =>
      match i, h with
      | 0, h => simp [am_l0] at h; subst h; simp [lv_args]
      | 1, h => simp [am_l0] at h
      | i + 2, h =>
        have h1 : (am_l0 vs)[i]? = some (some v) := by simpa [am_l0] using h
        have h2 := ih (o + 2) i v h1
        have e : o + 2 + i = o + (i + 2) := by omega
        rw [e] at h2
        exact List.mem_cons_of_mem _ h2
    | _ =>
      match i, h with
      | 0, h => simp [am_l0] at h; subst h; simp [lv_args]
      | i + 1, h =>
        have h1 : (am_l0 vs)[i]? = some (some v) := by simpa [am_l0] using h
        have h2 := ih (o + 1) i v h1
        have e : o + 1 + i = o + (i + 1) := by omega
        rw [e] at h2
        exact List.mem_cons_of_mem _ h2
def am_loc (n : Nat) (vs : List Value) : List (Option Value) := am_l0 vs ++ List.replicate (n - (am_l0 vs).length) none
theorem am_R_entry (K : Am_X) (vs : List Value) {n : Nat} (h : (am_l0 vs).length ≤ n) : am_R K ((lg_sl (vs.map (am_v K)) ++ List.replicate (n - (lg_sl (vs.map (am_v K))).length) Slot.unset).toArray) n (am_loc n vs) := by
  have h0 : (lg_sl (vs.map (am_v K))).length ≤ n := by rw [← am_l0_len]; exact h
  have h1 := lv_entry (vs.map (am_v K)) h0
  refine ⟨h1.1, h1.2.1, by simp [am_loc]; omega, fun i v hi => ?_⟩
  unfold am_loc at hi
  by_cases hl : i < (am_l0 vs).length
  · rw [List.getElem?_append_left hl] at hi
    have h2 := am_l0_in K vs 0 i v hi
    rw [Nat.zero_add] at h2
    exact h1.2.2 (i, am_v K v) h2
  · rw [List.getElem?_append_right (by omega), List.getElem?_replicate] at hi
    split at hi <;> cases hi
