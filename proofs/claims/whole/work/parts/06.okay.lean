/-! ===== a code table's rows, and what else the machine needs of the tables ===== -/
set_option maxRecDepth 20000 in
theorem am_obj_ok : Cond.instanceMethod Lib.objectInit ∈ am_TB ∧ Cond.code Lib.objectInit ⟨#[0xb1]⟩ 1 none ∈ am_TB ∧ Cond.native arraycopyName ∈ am_TB ∧ Cond.static arraycopyName ∈ am_TB ∧ Cond.initialized "java/lang/System" ∈ am_TB ∧ Cond.arrayClass .int ∈ am_TB ∧ Cond.arrayClass .byte ∈ am_TB := by decide +kernel
set_option maxRecDepth 20000 in
theorem am_mth_ok : Cond.static Lib.Math.max.name ∈ am_TB ∧ Cond.initialized "java/lang/Math" ∈ am_TB ∧ Cond.code Lib.Math.max.name Lib.Math.max.code 2 (some .int) ∈ am_TB ∧ Cond.static Lib.Math.min.name ∈ am_TB ∧ Cond.code Lib.Math.min.name Lib.Math.min.code 2 (some .int) ∈ am_TB := by decide +kernel
def am_clC (ci : Nat) (q : vw_C) : Bool := (u_ws q.1 q.2.1 q.2.2).all (fun w => decide (w ∈ am_TB)) && ((List.range q.2.2).all (fun k => decide (parseFieldDescriptor (q.2.1 k).2.2.1 = some (am_Y ci k)) && (decide (am_F ci k = (q.2.1 k).2.2.2) && (decide ((q.2.1 k).1 = q.1) && ((List.range q.2.2).all (fun j => decide (k = j) || decide ((q.2.1 k).2.1 ≠ (q.2.1 j).2.1)) && decide (defaultValue (am_Y ci k) = vp_V (am_dv ci) k))))) && (decide (Cond.instantiable q.1 q.2.2 ∈ am_TB) && (decide (Cond.initialized q.1 ∈ am_TB) && (decide (am_own ci = q.1) && decide ((am_dv ci).length = q.2.2 ∧ (am_dv ci).all (fun v => match v with | .ref _ => false | .retAddr _ => false | _ => true) = true)))))
set_option maxRecDepth 20000 in
theorem am_cl_ok : am_cl.zipIdx.all (fun q => am_clC q.2 q.1) = true := by decide +kernel
theorem am_cl_at {ci : Nat} {q : vw_C} (h : am_cl[ci]? = some q) : am_clC ci q = true := by
  have h1 := List.all_eq_true.mp am_cl_ok (q, ci) (List.mem_of_getElem? (i := ci) (by rw [List.getElem?_zipIdx, h]; simp))
  exact h1
theorem am_cl_ws {ci : Nat} {C : String} {T : u_T} {N : Nat} (h : am_cl[ci]? = some (C, T, N)) : ∀ w ∈ u_ws C T N, w ∈ am_TB := by
  have h1 := am_cl_at h
  simp only [am_clC, Bool.and_eq_true, List.all_eq_true, decide_eq_true_eq] at h1
  exact h1.1
theorem am_cl_f {ci : Nat} {C : String} {T : u_T} {N : Nat} (h : am_cl[ci]? = some (C, T, N)) {k : Nat} (hk : k < N) : parseFieldDescriptor (T k).2.2.1 = some (am_Y ci k) ∧ am_F ci k = (T k).2.2.2 ∧ (T k).1 = C ∧ (∀ j, j < N → k ≠ j → (T k).2.1 ≠ (T j).2.1) ∧ defaultValue (am_Y ci k) = vp_V (am_dv ci) k := by
  have h1 := am_cl_at h
  simp only [am_clC, Bool.and_eq_true, List.all_eq_true, decide_eq_true_eq, Bool.or_eq_true, List.mem_range] at h1
  obtain ⟨a1, a2, a3, a4, a5⟩ := h1.2.1 k hk
  exact ⟨a1, a2, a3, fun j hj hne => (a4 j hj).resolve_left hne, a5⟩
theorem am_cl_g {ci : Nat} {C : String} {T : u_T} {N : Nat} (h : am_cl[ci]? = some (C, T, N)) : Cond.instantiable C N ∈ am_TB ∧ Cond.initialized C ∈ am_TB ∧ am_own ci = C ∧ (am_dv ci).length = N ∧ (am_dv ci).all (fun v => match v with | .ref _ => false | .retAddr _ => false | _ => true) = true := by
  have h1 := am_cl_at h
  simp only [am_clC, Bool.and_eq_true, decide_eq_true_eq] at h1
  exact ⟨h1.2.2.1, h1.2.2.2.1, h1.2.2.2.2.1, h1.2.2.2.2.2⟩
theorem am_cl_lt {ci : Nat} (h : ci < 8) : ∃ q, am_cl[ci]? = some q := by
  have h1 : am_cl.length = 8 := rfl
  exact ⟨_, List.getElem?_eq_getElem (by omega)⟩
def am_len : Instr → Nat
  | .iconst _ => 1 | .bipush _ => 2 | .sipush _ => 3 | .ldc _ => 2 | .ldc_w _ => 3 | .lconst _ => 1 | .ldc2_w _ => 3
  | .iload _ => 2 | .iload_n _ => 1 | .lload _ => 2 | .lload_n _ => 1 | .aload _ => 2 | .aload_n _ => 1
  | .istore _ => 2 | .istore_n _ => 1 | .lstore _ => 2 | .lstore_n _ => 1 | .astore _ => 2 | .astore_n _ => 1
  | .iinc _ _ => 3 | .goto _ => 3 | .ifCond _ _ => 3 | .if_icmp _ _ => 3 | .tableswitch _ _ _ _ => 0 | .lookupswitch _ _ => 0
  | .getfield _ => 3 | .putfield _ => 3 | .getstatic _ => 3 | .invokevirtual _ => 3 | .invokestatic _ => 3 | .invokespecial _ => 3
  | .new _ => 3 | .newarray _ => 2 | .anewarray _ => 3
  | _ => 1
def am_okD (cc : ByteArray) (e : Am_E) : Bool := match am_len e.2.1 with
  | 0 => decide (decode cc e.1 = .ok (e.2.1, e.2.2.1 - e.1))
  | n + 1 => decide (e.2.2.1 = e.1 + (n + 1)) && decide (decode cc e.1 = .ok (e.2.1, n + 1))
theorem am_okDe {cc : ByteArray} {pc : Nat} {i : Instr} {nx : Nat} {q : Nat × Nat × Nat} (h : am_okD cc (pc, i, nx, q) = true) (n : Nat) (hn : am_len i = n + 1) : nx = pc + (n + 1) ∧ decode cc pc = .ok (i, n + 1) := by
  unfold am_okD at h
  simp only [hn, Bool.and_eq_true, decide_eq_true_eq] at h
  exact h
theorem am_okD0 {cc : ByteArray} {pc : Nat} {i : Instr} {nx : Nat} {q : Nat × Nat × Nat} (h : am_okD cc (pc, i, nx, q) = true) (hn : am_len i = 0) : decode cc pc = .ok (i, nx - pc) := by
  unfold am_okD at h
  simp only [hn, decide_eq_true_eq] at h
  exact h
/-- what else a row of a code table has to be -/
def am_okX (oc : Nat) (e : Am_E) : Bool := match e with
  | (pc, i, nx, a, b, c) => match i with
    | .iconst n => decide (Int32.ofInt n = am_nv b a)
    | .bipush n => decide ((Int8.ofInt n).toInt32 = am_nv b a)
    | .sipush n => decide ((Int16.ofInt n).toInt32 = am_nv b a)
    | .iinc _ n => decide (Int32.ofInt n = am_nv b a)
    | .lconst n => decide ((n : Nat) = a)
    | .ldc n => decide (Cond.constant (am_own oc) n (am_nv b a) ∈ am_TB)
    | .ldc_w n => decide (Cond.constant (am_own oc) n (am_nv b a) ∈ am_TB)
    | .ldc2_w n => decide (Cond.constantLong (am_own oc) n (lN a) ∈ am_TB)
    | .goto o => decide ((pc : Int) + o = (a : Int))
    | .ifCond _ o => decide ((pc : Int) + o = (a : Int))
    | .if_icmp _ o => decide ((pc : Int) + o = (a : Int))
    | .tableswitch d lo hi offs => decide (0 ≤ (pc : Int) + d) && (offs.toList.all (fun o => decide (0 ≤ (pc : Int) + o)) && decide (hi - lo + 1 = (offs.toList.length : Int)))
    | .lookupswitch d ps => decide (0 ≤ (pc : Int) + d) && (ps.toList.all (fun o => decide (0 ≤ (pc : Int) + o.2)) && (ps.toList.zip (ps.toList.drop 1)).all (fun (a, next) => a.1 < next.1))
    | .getfield n => am_fl.elem (oc, n, a, b)
    | .putfield n => am_fl.elem (oc, n, a, b) && (!am_F a b || Nat.beq a oc)
    | .getstatic n => decide (a < 4) && decide (Cond.fieldLink (am_own oc) n "ThingsThrown$Kinds" (am_tabN a) "[I" ∈ am_TB)
    | .invokevirtual n => am_mk.elem (oc, n, a, b, c, 0) && decide (0 < b)
    | .invokestatic n => bif Nat.beq a 9001 then am_mk.elem (oc, n, a, b, c, 4) else bif Nat.beq a 9002 then am_mk.elem (oc, n, a, b, c, 6) else bif Nat.beq a 9003 then am_mk.elem (oc, n, a, b, c, 7) else am_mk.elem (oc, n, a, b, c, 1)
    | .invokespecial n => bif Nat.beq a 9000 then am_mk.elem (oc, n, a, b, c, 3) else (am_mk.elem (oc, n, a, b, c, 2) || am_mk.elem (oc, n, a, b, c, 5)) && decide (0 < b)
    | .new n => decide (Cond.classLink (am_own oc) n (am_own a) ∈ am_TB) && decide ((am_dv a).length = b)
    | .anewarray n => decide (Cond.classLink (am_own oc) n (am_own a) ∈ am_TB) && decide (a = 4 ∨ a = 2)
    | _ => true
def am_okE (oc : Nat) (cc : ByteArray) (e : Am_E) : Bool := am_okD cc e && am_okX oc e
theorem am_lk_in : ∀ {cd : List Am_E} {pc : Nat} {r : Instr × Nat × Nat × Nat × Nat}, am_lk cd pc = some r → (pc, r) ∈ cd
  | [], pc, r, h => by simp [am_lk] at h
  | e :: t, pc, r, h => by
    unfold am_lk at h
    cases hb : Nat.beq e.1 pc with
    | true =>
      rw [hb] at h
      have h1 : some e.2 = some r := h
      cases h1
      have h2 := Nat.eq_of_beq_eq_true hb
      subst h2
      exact List.mem_cons_self
    | false =>
      rw [hb] at h
      exact List.mem_cons_of_mem _ (am_lk_in h)
