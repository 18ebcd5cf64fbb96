/-! ===== the law: the world that the Statement gives ===== -/
theorem lw_nest : ∀ w ∈ am_nest, w ∈ lw_tbl := List.forall_mem_cons.mpr ⟨lw_ne_0, List.forall_mem_cons.mpr ⟨lw_ne_1, List.forall_mem_cons.mpr ⟨lw_ne_2, List.forall_mem_cons.mpr ⟨lw_ne_3, fun _ h => absurd h List.not_mem_nil⟩⟩⟩⟩
set_option maxRecDepth 20000 in
theorem lw_tab_0 {args : Array Value} {s : State} {A : Nat → Prop} (hgv : (Jvm.Cond.and given_1 narrow_1).before args s = true) (hts : ∀ w ∈ lw_tbl, w.before args s = true) (hA : ∀ a : Nat, a < s.heap.size → ¬ A a) : ∃ a : Nat, va_T .int a (am_tab 0).1 (fun j => .int ((am_tab 0).2 j)) A s s.heap ∧ va_Z "ThingsThrown$Kinds" (am_tabN 0) "[I" (.ref a) A s s.heap := by
  have hs := flat_of_before _ hgv
  obtain ⟨a, ha, hT⟩ := va_Tof (args := args) (s := s) (tm := .static "ThingsThrown$Kinds" "LETTERS" "[I") (ty := .int) (N := 6) (f := fun j => .int ((am_tab 0).2 j)) (A := A) (by decide) (hs _ (by decide +kernel)) (va_eqt (hs _ (by decide +kernel))) (fun j hj => by
    rcases (show j = 0 ∨ j = 1 ∨ j = 2 ∨ j = 3 ∨ j = 4 ∨ j = 5 by omega) with rfl | rfl | rfl | rfl | rfl | rfl
    · exact va_eqt (hs _ (by decide +kernel))
    · exact va_eqt (hs _ (by decide +kernel))
    · exact va_eqt (hs _ (by decide +kernel))
    · exact va_eqt (hs _ (by decide +kernel))
    · exact va_eqt (hs _ (by decide +kernel))
    · exact va_eqt (hs _ (by decide +kernel))) hA
  exact ⟨a, hT, va_Zref (hts _ lw_ls_0) (hts _ lw_ki) ha hA⟩
set_option maxRecDepth 20000 in
theorem lw_tab_1 {args : Array Value} {s : State} {A : Nat → Prop} (hgv : (Jvm.Cond.and given_1 narrow_1).before args s = true) (hts : ∀ w ∈ lw_tbl, w.before args s = true) (hA : ∀ a : Nat, a < s.heap.size → ¬ A a) : ∃ a : Nat, va_T .int a (am_tab 1).1 (fun j => .int ((am_tab 1).2 j)) A s s.heap ∧ va_Z "ThingsThrown$Kinds" (am_tabN 1) "[I" (.ref a) A s s.heap := by
  have hs := flat_of_before _ hgv
  obtain ⟨a, ha, hT⟩ := va_Tof (args := args) (s := s) (tm := .static "ThingsThrown$Kinds" "ABOVE" "[I") (ty := .int) (N := 6) (f := fun j => .int ((am_tab 1).2 j)) (A := A) (by decide) (hs _ (by decide +kernel)) (va_eqt (hs _ (by decide +kernel))) (fun j hj => by
    rcases (show j = 0 ∨ j = 1 ∨ j = 2 ∨ j = 3 ∨ j = 4 ∨ j = 5 by omega) with rfl | rfl | rfl | rfl | rfl | rfl
    · exact va_eqt (hs _ (by decide +kernel))
    · exact va_eqt (hs _ (by decide +kernel))
    · exact va_eqt (hs _ (by decide +kernel))
    · exact va_eqt (hs _ (by decide +kernel))
    · exact va_eqt (hs _ (by decide +kernel))
    · exact va_eqt (hs _ (by decide +kernel))) hA
  exact ⟨a, hT, va_Zref (hts _ lw_ls_1) (hts _ lw_ki) ha hA⟩
set_option maxRecDepth 20000 in
theorem lw_tab_2 {args : Array Value} {s : State} {A : Nat → Prop} (hgv : (Jvm.Cond.and given_1 narrow_1).before args s = true) (hts : ∀ w ∈ lw_tbl, w.before args s = true) (hA : ∀ a : Nat, a < s.heap.size → ¬ A a) : ∃ a : Nat, va_T .int a (am_tab 2).1 (fun j => .int ((am_tab 2).2 j)) A s s.heap ∧ va_Z "ThingsThrown$Kinds" (am_tabN 2) "[I" (.ref a) A s s.heap := by
  have hs := flat_of_before _ hgv
  obtain ⟨a, ha, hT⟩ := va_Tof (args := args) (s := s) (tm := .static "ThingsThrown$Kinds" "LOWEST" "[I") (ty := .int) (N := 6) (f := fun j => .int ((am_tab 2).2 j)) (A := A) (by decide) (hs _ (by decide +kernel)) (va_eqt (hs _ (by decide +kernel))) (fun j hj => by
    rcases (show j = 0 ∨ j = 1 ∨ j = 2 ∨ j = 3 ∨ j = 4 ∨ j = 5 by omega) with rfl | rfl | rfl | rfl | rfl | rfl
    · exact va_eqt (hs _ (by decide +kernel))
    · exact va_eqt (hs _ (by decide +kernel))
    · exact va_eqt (hs _ (by decide +kernel))
    · exact va_eqt (hs _ (by decide +kernel))
    · exact va_eqt (hs _ (by decide +kernel))
    · exact va_eqt (hs _ (by decide +kernel))) hA
  exact ⟨a, hT, va_Zref (hts _ lw_ls_2) (hts _ lw_ki) ha hA⟩
set_option maxRecDepth 20000 in
theorem lw_tab_3 {args : Array Value} {s : State} {A : Nat → Prop} (hgv : (Jvm.Cond.and given_1 narrow_1).before args s = true) (hts : ∀ w ∈ lw_tbl, w.before args s = true) (hA : ∀ a : Nat, a < s.heap.size → ¬ A a) : ∃ a : Nat, va_T .int a (am_tab 3).1 (fun j => .int ((am_tab 3).2 j)) A s s.heap ∧ va_Z "ThingsThrown$Kinds" (am_tabN 3) "[I" (.ref a) A s s.heap := by
  have hs := flat_of_before _ hgv
  obtain ⟨a, ha, hT⟩ := va_Tof (args := args) (s := s) (tm := .static "ThingsThrown$Kinds" "HIGHEST" "[I") (ty := .int) (N := 6) (f := fun j => .int ((am_tab 3).2 j)) (A := A) (by decide) (hs _ (by decide +kernel)) (va_eqt (hs _ (by decide +kernel))) (fun j hj => by
    rcases (show j = 0 ∨ j = 1 ∨ j = 2 ∨ j = 3 ∨ j = 4 ∨ j = 5 by omega) with rfl | rfl | rfl | rfl | rfl | rfl
    · exact va_eqt (hs _ (by decide +kernel))
    · exact va_eqt (hs _ (by decide +kernel))
    · exact va_eqt (hs _ (by decide +kernel))
    · exact va_eqt (hs _ (by decide +kernel))
    · exact va_eqt (hs _ (by decide +kernel))
    · exact va_eqt (hs _ (by decide +kernel))) hA
  exact ⟨a, hT, va_Zref (hts _ lw_ls_3) (hts _ lw_ki) ha hA⟩
theorem lw_arrI {args : Array Value} {s : State} {ty : FieldType} (h : (Cond.arrayClass ty).before args s = true) (hn : ∀ C, ty ≠ .object C) : ∃ cA : ClassId, ArrOfT s cA ty ∧ va_RA s cA ty := by
  obtain ⟨cA, kA, comp, hfind, hk, hkind⟩ := Cond.arrayClass_spec h
  refine ⟨cA, fun n z => ⟨fun k h => (by cases h), kA, hk, comp, hkind⟩, ?_⟩
  cases ty with
  | object C => exact absurd rfl (hn C)
  | _ => exact hfind
theorem lw_arrO {args : Array Value} {s : State} {C : String} (h : (Cond.arrayOver (.object C)).before args s = true) : ∃ cA : ClassId, ArrOfT s cA (.object C) ∧ va_RA s cA (.object C) := by
  obtain ⟨comp, cA, kA, hcomp, hidx, hkA, hkindA, hnameA⟩ := Cond.arrayOver_spec h
  exact ⟨cA, fun n z => ⟨fun k h => (by cases h), kA, hkA, comp, hkindA⟩, kA, comp, hkA, hkindA, hcomp, hnameA⟩
theorem lw_world {p : Program} {s : State} {m : MethodId} {meth : Method} {c : Code} {b L : Nat} {xs : Nat → Int32} (C0 : lw_At p s m meth c b L xs) : ∃ (D : va_G) (cT : FieldType → ClassId) (tb : Nat → Nat), am_Cx (lw_K D cT tb s.heap.size) (fun q => s.heap.size ≤ q) p s m #[Value.ref b] meth c 10 4 code ret false := by
  obtain ⟨hx, hb, hr, hml, hown, hts, hX, hbl, hlocks, hgv⟩ := id C0
  have htb : ∀ w ∈ am_TB, w.before #[Value.ref b] s = true := fun w hw => hts w (List.mem_filter.mp hw).1
  have hA : ∀ a : Nat, a < s.heap.size → ¬ (fun q : Nat => s.heap.size ≤ q) a := fun a h => Nat.not_le.mpr h
  have h1 : ∀ ci : Nat, ∃ x : ClassId × (Nat → Nat), ∀ q, am_cl[ci]? = some q → u_Kn s q.1 q.2.1 q.2.2 x.1 x.2 := by
    intro ci
    cases hq : am_cl[ci]? with
    | none => exact ⟨(m.cls, fun _ => 0), fun q h => by cases h⟩
    | some q =>
      obtain ⟨C, T, N⟩ := q
      obtain ⟨cC, iS, hk⟩ := u_known htb (am_cl_ws hq) (htb _ (am_cl_g hq).1)
      exact ⟨(cC, iS), fun q h => by cases h; exact hk⟩
  have h2 : ∀ ty : FieldType, ∃ cA : ClassId, (ty = .int ∨ ty = .byte ∨ ty = .object "ThingsThrown$Sheet" ∨ ty = .object "ThingsThrown$Evening") → ArrOfT s cA ty ∧ va_RA s cA ty := by
    intro ty
    by_cases e0 : ty = .int
    · subst e0
      obtain ⟨cA, h⟩ := lw_arrI (htb _ am_obj_ok.2.2.2.2.2.1) (fun C q => by cases q)
      exact ⟨cA, fun _ => h⟩
    by_cases e1 : ty = .byte
    · subst e1
      obtain ⟨cA, h⟩ := lw_arrI (htb _ am_obj_ok.2.2.2.2.2.2) (fun C q => by cases q)
      exact ⟨cA, fun _ => h⟩
    by_cases e2 : ty = .object "ThingsThrown$Sheet"
    · subst e2
      obtain ⟨cA, h⟩ := lw_arrO (hts _ lw_ao_S)
      exact ⟨cA, fun _ => h⟩
    by_cases e3 : ty = .object "ThingsThrown$Evening"
    · subst e3
      obtain ⟨cA, h⟩ := lw_arrO (hts _ lw_ao_E)
      exact ⟨cA, fun _ => h⟩
    exact ⟨m.cls, fun h => by rcases h with h | h | h | h <;> contradiction⟩
  have h3 : ∀ t : Nat, ∃ a : Nat, t < 4 → va_T .int a (am_tab t).1 (fun j => .int ((am_tab t).2 j)) (fun q : Nat => s.heap.size ≤ q) s s.heap ∧ va_Z "ThingsThrown$Kinds" (am_tabN t) "[I" (.ref a) (fun q : Nat => s.heap.size ≤ q) s s.heap := by
    intro t
    by_cases ht : t < 4
    · rcases (show t = 0 ∨ t = 1 ∨ t = 2 ∨ t = 3 by omega) with rfl | rfl | rfl | rfl
      · obtain ⟨a, h⟩ := lw_tab_0 hgv hts hA
        exact ⟨a, fun _ => h⟩
      · obtain ⟨a, h⟩ := lw_tab_1 hgv hts hA
        exact ⟨a, fun _ => h⟩
      · obtain ⟨a, h⟩ := lw_tab_2 hgv hts hA
        exact ⟨a, fun _ => h⟩
      · obtain ⟨a, h⟩ := lw_tab_3 hgv hts hA
        exact ⟨a, fun _ => h⟩
    · exact ⟨0, fun h => absurd h ht⟩
  obtain ⟨f, hf⟩ := Classical.skolem.mp h1
  obtain ⟨cT, hcT⟩ := Classical.skolem.mp h2
  obtain ⟨tb, htbl⟩ := Classical.skolem.mp h3
  refine ⟨(fun ci => (f ci).1, fun ci => (f ci).2), cT, tb, hx, hb, hml, hr, hlocks, hown, htb, ⟨fun ci q hq => hf ci q hq, fun k q hk => ?_⟩, fun t ht => htbl t ht, fun q h => h, ⟨fun o i y h hh => va_Nw.of rfl (hts _ (lw_nest _ hh)), va_AO.of (hts _ lw_ao_S), va_AO.of (hts _ lw_ao_E)⟩, fun h => by cases h⟩
  have hk4 : k < 4 := (List.getElem?_eq_some_iff.mp hk).1
  rcases (show k = 0 ∨ k = 1 ∨ k = 2 ∨ k = 3 by omega) with rfl | rfl | rfl | rfl
  · cases hk
    exact hcT _ (Or.inl rfl)
  · cases hk
    exact hcT _ (Or.inr (Or.inl rfl))
  · cases hk
    exact hcT _ (Or.inr (Or.inr (Or.inl rfl)))
  · cases hk
    exact hcT _ (Or.inr (Or.inr (Or.inr rfl)))
/-! ===== the law: its loop ===== -/
theorem lw_63 (x : Int32) : ∃ k, k < 64 ∧ x &&& 63 = nI k := by
  refine ⟨(x &&& 63).toBitVec.toNat, ?_, ?_⟩
  · rw [Int32.toBitVec_and, BitVec.toNat_and]
    exact Nat.lt_of_le_of_lt Nat.and_le_right (by decide)
  · apply Int32.toBitVec_inj.mp
    show (x &&& 63).toBitVec = BitVec.ofNat 32 _
    apply BitVec.eq_of_toNat_eq
    rw [BitVec.toNat_ofNat, Nat.mod_eq_of_lt (BitVec.isLt _)]
theorem lw_cmpL {L i : Nat} (hL : L ≤ 3072) (hi : i ≤ 3078) : nI L - nI 6 < nI i ↔ ¬ i + 6 ≤ L := by
  rw [Int32.lt_iff_toInt_lt, pk_sub_toInt (by omega) (by omega), nI_toInt (by omega)]
  omega
theorem lw_sw {p : Program} {l : Launch} {e : Env} {s : State} {m : MethodId} {below : List Frame} {meth : Method} {c : Code} {D : va_G} {cT : FieldType → ClassId} {tb : Nat → Nat} {z b L cells slots : Nat} {xs : Nat → Int32} (hC : lw_Cx p s m #[Value.ref b] meth c D cT tb z b L xs cells slots) {i k : Nat} (hi : i + 6 ≤ L) (hk : k < 64) (hN : lw_Nx p l e s m #[Value.ref b] below meth c (lw_Z below #[Value.ref b] s) D cT tb z b cells slots 1217 (i)) {S : Sta} {H : Heap} {locs : List Loc} {ls : Array Slot} (hSh : lw_Sh D cT tb z s S S H locs) (hl : lw_Lv s b z i ls) : W p l e room_1 s m #[Value.ref b] below meth c H locs cells slots (lw_Z below #[Value.ref b] s) (F0 m 33 ls [.int (nI k)]) := by
  have hx := hC.1.1
  have hb := hC.1.2.1
  by_cases hk38 : k < 38
  · match k, hk38 with
    | 0, _ =>
      refine lv_tableIn (off := 167) (tgt := 200) hx hb d_law_33 (by decide) (by decide) (by decide) (by decide) ?_
      exact lw_c0 hC hi hN S H locs ls hSh hl
    | 1, _ =>
      refine lv_tableIn (off := 200) (tgt := 233) hx hb d_law_33 (by decide) (by decide) (by decide) (by decide) ?_
      exact lw_c1 hC hi hN S H locs ls hSh hl
    | 2, _ =>
      refine lv_tableIn (off := 243) (tgt := 276) hx hb d_law_33 (by decide) (by decide) (by decide) (by decide) ?_
      exact lw_c2 hC hi hN S H locs ls hSh hl
    | 3, _ =>
      refine lv_tableIn (off := 276) (tgt := 309) hx hb d_law_33 (by decide) (by decide) (by decide) (by decide) ?_
      exact lw_c3 hC hi hN S H locs ls hSh hl
    | 4, _ =>
      refine lv_tableIn (off := 299) (tgt := 332) hx hb d_law_33 (by decide) (by decide) (by decide) (by decide) ?_
      exact lw_c4 hC hi hN S H locs ls hSh hl
    | 5, _ =>
      refine lv_tableIn (off := 362) (tgt := 395) hx hb d_law_33 (by decide) (by decide) (by decide) (by decide) ?_
      exact lw_c5 hC hi hN S H locs ls hSh hl
    | 6, _ =>
      refine lv_tableIn (off := 385) (tgt := 418) hx hb d_law_33 (by decide) (by decide) (by decide) (by decide) ?_
      exact lw_c6 hC hi hN S H locs ls hSh hl
    | 7, _ =>
      refine lv_tableIn (off := 418) (tgt := 451) hx hb d_law_33 (by decide) (by decide) (by decide) (by decide) ?_
      exact lw_c7 hC hi hN S H locs ls hSh hl
    | 8, _ =>
      refine lv_tableIn (off := 461) (tgt := 494) hx hb d_law_33 (by decide) (by decide) (by decide) (by decide) ?_
      exact lw_c8 hC hi hN S H locs ls hSh hl
    | 9, _ =>
      refine lv_tableIn (off := 484) (tgt := 517) hx hb d_law_33 (by decide) (by decide) (by decide) (by decide) ?_
      exact lw_c9 hC hi hN S H locs ls hSh hl
    | 10, _ =>
      refine lv_tableIn (off := 507) (tgt := 540) hx hb d_law_33 (by decide) (by decide) (by decide) (by decide) ?_
      exact lw_c10 hC hi hN S H locs ls hSh hl
    | 11, _ =>
      refine lv_tableIn (off := 540) (tgt := 573) hx hb d_law_33 (by decide) (by decide) (by decide) (by decide) ?_
      exact lw_c11 hC hi hN S H locs ls hSh hl
    | 12, _ =>
      refine lv_tableIn (off := 573) (tgt := 606) hx hb d_law_33 (by decide) (by decide) (by decide) (by decide) ?_
      exact lw_c12 hC hi hN S H locs ls hSh hl
    | 13, _ =>
      refine lv_tableIn (off := 596) (tgt := 629) hx hb d_law_33 (by decide) (by decide) (by decide) (by decide) ?_
      exact lw_c13 hC hi hN S H locs ls hSh hl
    | 14, _ =>
      refine lv_tableIn (off := 609) (tgt := 642) hx hb d_law_33 (by decide) (by decide) (by decide) (by decide) ?_
      exact lw_c14 hC hi hN S H locs ls hSh hl
    | 15, _ =>
      refine lv_tableIn (off := 642) (tgt := 675) hx hb d_law_33 (by decide) (by decide) (by decide) (by decide) ?_
      exact lw_c15 hC hi hN S H locs ls hSh hl
    | 16, _ =>
      refine lv_tableIn (off := 665) (tgt := 698) hx hb d_law_33 (by decide) (by decide) (by decide) (by decide) ?_
      exact lw_c16 hC hi hN S H locs ls hSh hl
    | 17, _ =>
      refine lv_tableIn (off := 688) (tgt := 721) hx hb d_law_33 (by decide) (by decide) (by decide) (by decide) ?_
      exact lw_c17 hC hi hN S H locs ls hSh hl
    | 18, _ =>
      refine lv_tableIn (off := 711) (tgt := 744) hx hb d_law_33 (by decide) (by decide) (by decide) (by decide) ?_
      exact lw_c18 hC hi hN S H locs ls hSh hl
    | 19, _ =>
      refine lv_tableIn (off := 744) (tgt := 777) hx hb d_law_33 (by decide) (by decide) (by decide) (by decide) ?_
      exact lw_c19 hC hi hN S H locs ls hSh hl
    | 20, _ =>
      refine lv_tableIn (off := 757) (tgt := 790) hx hb d_law_33 (by decide) (by decide) (by decide) (by decide) ?_
      exact lw_c20 hC hi hN S H locs ls hSh hl
    | 21, _ =>
      refine lv_tableIn (off := 780) (tgt := 813) hx hb d_law_33 (by decide) (by decide) (by decide) (by decide) ?_
      exact lw_c21 hC hi hN S H locs ls hSh hl
    | 22, _ =>
      refine lv_tableIn (off := 803) (tgt := 836) hx hb d_law_33 (by decide) (by decide) (by decide) (by decide) ?_
      exact lw_c22 hC hi hN S H locs ls hSh hl
    | 23, _ =>
      refine lv_tableIn (off := 836) (tgt := 869) hx hb d_law_33 (by decide) (by decide) (by decide) (by decide) ?_
      exact lw_c23 hC hi hN S H locs ls hSh hl
    | 24, _ =>
      refine lv_tableIn (off := 859) (tgt := 892) hx hb d_law_33 (by decide) (by decide) (by decide) (by decide) ?_
      exact lw_c24 hC hi hN S H locs ls hSh hl
    | 25, _ =>
      refine lv_tableIn (off := 882) (tgt := 915) hx hb d_law_33 (by decide) (by decide) (by decide) (by decide) ?_
      exact lw_c25 hC hi hN S H locs ls hSh hl
    | 26, _ =>
      refine lv_tableIn (off := 915) (tgt := 948) hx hb d_law_33 (by decide) (by decide) (by decide) (by decide) ?_
      exact lw_c26 hC hi hN S H locs ls hSh hl
    | 27, _ =>
      refine lv_tableIn (off := 948) (tgt := 981) hx hb d_law_33 (by decide) (by decide) (by decide) (by decide) ?_
      exact lw_c27 hC hi hN S H locs ls hSh hl
    | 28, _ =>
      refine lv_tableIn (off := 971) (tgt := 1004) hx hb d_law_33 (by decide) (by decide) (by decide) (by decide) ?_
      exact lw_c28 hC hi hN S H locs ls hSh hl
    | 29, _ =>
      refine lv_tableIn (off := 1004) (tgt := 1037) hx hb d_law_33 (by decide) (by decide) (by decide) (by decide) ?_
      exact lw_c29 hC hi hN S H locs ls hSh hl
    | 30, _ =>
      refine lv_tableIn (off := 1037) (tgt := 1070) hx hb d_law_33 (by decide) (by decide) (by decide) (by decide) ?_
      exact lw_c30 hC hi hN S H locs ls hSh hl
    | 31, _ =>
      refine lv_tableIn (off := 1070) (tgt := 1103) hx hb d_law_33 (by decide) (by decide) (by decide) (by decide) ?_
      exact lw_c31 hC hi hN S H locs ls hSh hl
    | 32, _ =>
      refine lv_tableIn (off := 1083) (tgt := 1116) hx hb d_law_33 (by decide) (by decide) (by decide) (by decide) ?_
      exact lw_c32 hC hi hN S H locs ls hSh hl
    | 33, _ =>
      refine lv_tableIn (off := 1097) (tgt := 1130) hx hb d_law_33 (by decide) (by decide) (by decide) (by decide) ?_
      exact lw_c33 hC hi hN S H locs ls hSh hl
    | 34, _ =>
      refine lv_tableIn (off := 1111) (tgt := 1144) hx hb d_law_33 (by decide) (by decide) (by decide) (by decide) ?_
      exact lw_c34 hC hi hN S H locs ls hSh hl
    | 35, _ =>
      refine lv_tableIn (off := 1134) (tgt := 1167) hx hb d_law_33 (by decide) (by decide) (by decide) (by decide) ?_
      exact lw_c35 hC hi hN S H locs ls hSh hl
    | 36, _ =>
      refine lv_tableIn (off := 1147) (tgt := 1180) hx hb d_law_33 (by decide) (by decide) (by decide) (by decide) ?_
      exact lw_c36 hC hi hN S H locs ls hSh hl
    | 37, _ =>
      refine lv_tableIn (off := 1170) (tgt := 1203) hx hb d_law_33 (by decide) (by decide) (by decide) (by decide) ?_
      exact lw_c37 hC hi hN S H locs ls hSh hl
    | k + 38, h => exact absurd h (by omega)
  · refine lv_tableOut (tgt := 1217) hx hb d_law_33 (Or.inr ?_) (by decide) ?_
    · rw [nI_toInt (by omega)]
      omega
    · exact hN S H locs ls hSh hl
theorem lw_loop {p : Program} {l : Launch} {e : Env} {s : State} {m : MethodId} {below : List Frame} {meth : Method} {c : Code} {D : va_G} {cT : FieldType → ClassId} {tb : Nat → Nat} {z b L cells slots : Nat} {xs : Nat → Int32} (hC : lw_Cx p s m #[Value.ref b] meth c D cT tb z b L xs cells slots) : ∀ (n i : Nat), L + 6 ≤ i + 6 * n → i ≤ L + 6 → lw_Nx p l e s m #[Value.ref b] below meth c (lw_Z below #[Value.ref b] s) D cT tb z b cells slots 18 (i) := by
  obtain ⟨X, hX, hbl, hz, hL, hcs⟩ := id hC
  obtain ⟨hx, hb, hml, hrt, hlocks, hown, hts, hK, hTb, hA, hNx, hini⟩ := id X
  intro n
  induction n with
  | zero =>
    intro i h1 h2 S H locs ls hSh hl
    obtain ⟨hpC, hpM, hR1, hR2, hP1, hP2, hS⟩ := id hSh
    refine lv_iload_n hx hb d_law_18 rfl (lv_at hl 3 rfl) ?_
    refine lv_aload_n hx hb d_law_19 rfl (lv_at hl 0 rfl) ?_
    refine va_slen hx hb hX hbl (Nat.not_le.mpr hbl) hS d_law_20 ?_
    refine lv_bipush (v := nI 6) hx hb d_law_21 (by decide) ?_
    refine lv_isub hx hb d_law_23 ?_
    refine lv_icmp_gt (tgt := 1223) hx hb d_law_24 (by decide) (fun q => ?_) (fun q => ?_)
    · refine lv_iconst (v := 1) hx hb d_law_1223 (by decide) ?_
      refine va_forget (fun q hq => hS.2.2 q hq) ?_
      refine W.widen (k := 600000) (n := 7302250) hcs.1 hcs.2 ?_
      exact lw_ret hx hb hrt hlocks d_law_1224
    · exact absurd ((lw_cmpL hL (by omega)).mpr (by omega)) q
  | succ n ih =>
    intro i h1 h2 S H locs ls hSh hl
    obtain ⟨hpC, hpM, hR1, hR2, hP1, hP2, hS⟩ := id hSh
    refine lv_iload_n hx hb d_law_18 rfl (lv_at hl 3 rfl) ?_
    refine lv_aload_n hx hb d_law_19 rfl (lv_at hl 0 rfl) ?_
    refine va_slen hx hb hX hbl (Nat.not_le.mpr hbl) hS d_law_20 ?_
    refine lv_bipush (v := nI 6) hx hb d_law_21 (by decide) ?_
    refine lv_isub hx hb d_law_23 ?_
    refine lv_icmp_gt (tgt := 1223) hx hb d_law_24 (by decide) (fun q => ?_) (fun q => ?_)
    · refine lv_iconst (v := 1) hx hb d_law_1223 (by decide) ?_
      refine va_forget (fun q hq => hS.2.2 q hq) ?_
      refine W.widen (k := 600000) (n := 7302250) hcs.1 hcs.2 ?_
      exact lw_ret hx hb hrt hlocks d_law_1224
    · have hi : i + 6 ≤ L := by
        by_cases h : i + 6 ≤ L
        · exact h
        · exact absurd ((lw_cmpL hL (by omega)).mpr h) q
      refine lv_aload_n hx hb d_law_27 rfl (lv_at hl 0 rfl) ?_
      refine lv_iload_n hx hb d_law_28 rfl (lv_at hl 3 rfl) ?_
      refine va_sld hx hb hX hbl (Nat.not_le.mpr hbl) hS (vp_in_nI (n := i) (by omega) (by omega)) d_law_29 ?_
      refine lv_bipush (v := 63) hx hb d_law_30 (by decide) ?_
      refine lv_iand hx hb d_law_32 ?_
      obtain ⟨k, hk, ek⟩ := lw_63 (xs (nI i).toNatClampNeg)
      rw [ek]
      exact lw_sw hC hi hk (lw_inc hC (ih (i + 6) (by omega) (by omega))) hSh hl
set_option maxRecDepth 20000 in
theorem whole_start {p : Program} {e : Env} {s : State} {m : MethodId} {below : List Frame} {meth : Method} {c : Code} (l : Launch) (hflags : l.flags = flags0) {b L : Nat} {xs : Nat → Int32} (hL : L ≤ 3072) (C0 : lw_At p s m meth c b L xs) : W p l e room_1 s m #[Value.ref b] below meth c s.heap [] 0 0 (lw_Z below #[Value.ref b] s) (entryFrame m ([Value.ref b] : List Value).toArray 4) := by
  obtain ⟨hx, hb, hr, hml, hown, hts, hX, hbl, hlocks, hgv⟩ := id C0
  obtain ⟨D, cT, tb, X⟩ := lw_world C0
  have hl := lv_entry ([.ref b]) (n := 4) (Nat.le_of_ble_eq_true rfl)
  rw [lg_entry_eq]
  generalize (lg_sl ([.ref b]) ++ List.replicate (4 - (lg_sl ([.ref b])).length) Slot.unset).toArray = ls at hl ⊢
  have hl : lv_has ls 4 [(0, .ref b)] := hl
  refine lw_new (K := lw_K D cT tb s.heap.size) X (a := 0) (by decide) rfl lw_cl_0 ⟨Nat.le_of_ble_eq_true rfl, Nat.le_of_ble_eq_true rfl⟩ d_law_0 (fun H1 hat z1 o1 => ?_)
  refine lv_dup hx hb d_law_3 rfl ?_
  have hP1 : va_P D am_cl (am_w (lw_K D cT tb s.heap.size) [.inr (0, am_dv 0)]) H1 := by
    intro k q hq
    have hz : k < 1 := (List.getElem?_eq_some_iff.mp hq).1
    rw [show k = 0 by omega] at hq
    cases hq
    exact hat
  have hS1 : va_S (fun q => s.heap.size ≤ q) s.heap H1 [] := ⟨by omega, fun q h1 h2 => o1 q h1, fun q h => by cases h⟩
  refine lw_callI (K := lw_K D cT tb s.heap.size) X am_mkr_10_9 c_T_init ⟨Nat.le_of_ble_eq_true rfl, Nat.le_of_ble_eq_true rfl⟩ hP1 (lw_D (fun k => Nat.le_add_right _ _)) hS1 (fun k hk => ?_) hl.1 (Nat.le_of_ble_eq_true rfl) ⟨Nat.le_of_ble_eq_true rfl, Nat.le_of_ble_eq_true rfl⟩ d_law_4 (fun H2 locs2 hP2 hS2 hz2 hk2 => ?_)
  · have hk1 : 1 ≤ k := hk
    show s.heap.size + k = H1.size + (k - 1)
    omega
  have hz53 : s.heap.size + 53 ≤ H2.size := by
    have h := (hP2 52 _ (am_w_at (hp := tH0) (k := 52) rfl)).lt
    have h' : s.heap.size + 52 < H2.size := h
    omega
  refine lv_astore_n (lv' := [(1, .ref s.heap.size), (0, .ref b)]) hx hb d_law_7 rfl hl (by decide) rfl (fun ls hl => ?_)
  refine lw_new (K := lw_K D cT tb H2.size) X (a := 7) (by decide) rfl lw_cl_7 ⟨Nat.le_of_ble_eq_true rfl, Nat.le_of_ble_eq_true rfl⟩ d_law_8 (fun H3 hat3 z3 o3 => ?_)
  refine lv_dup hx hb d_law_11 rfl ?_
  have hP3 : va_P D am_cl (am_w (lw_K D cT tb H2.size) [.inr (7, am_dv 7)]) H3 := by
    intro k q hq
    have hz : k < 1 := (List.getElem?_eq_some_iff.mp hq).1
    rw [show k = 0 by omega] at hq
    cases hq
    exact hat3
  have hP23 : va_P D am_cl (am_w (lw_K D cT tb s.heap.size) tH0) H3 := hP2.kept (fun k q hq => o3 q.1 (hP2 k q hq).lt)
  have hS3 : va_S (fun q => s.heap.size ≤ q) s.heap H3 locs2 := ⟨Nat.le_trans hS2.1 (by omega), fun x g1 g2 => (o3 x (Nat.lt_of_lt_of_le g1 hS2.1)).trans (hS2.2.1 x g1 g2), hS2.2.2⟩
  refine lw_callI (K := lw_K D cT tb H2.size) X am_mkr_10_12 c_M_init ⟨Nat.le_of_ble_eq_true rfl, Nat.le_of_ble_eq_true rfl⟩ hP3 (lw_D (fun k => by show s.heap.size ≤ H2.size + k; omega)) hS3 (fun k hk => ?_) hl.1 (Nat.le_of_ble_eq_true rfl) ⟨Nat.le_of_ble_eq_true rfl, Nat.le_of_ble_eq_true rfl⟩ d_law_12 (fun H4 locs4 hP4 hS4 hz4 hk4 => ?_)
  · have hk1 : 1 ≤ k := hk
    show H2.size + k = H3.size + (k - 1)
    omega
  have hP24 := lw_keep hP23 hk4 (fun i j h1 h2 => by
    have h1' : i < 1 := h1
    have h2' : j < 53 := h2
    omega)
  refine lv_astore_n (lv' := [(2, .ref H2.size), (1, .ref s.heap.size), (0, .ref b)]) hx hb d_law_15 rfl hl (by decide) rfl (fun ls hl => ?_)
  refine lv_iconst (v := nI 0) hx hb d_law_16 (by decide) ?_
  refine lv_istore_n (lv' := [(3, .int (nI 0)), (2, .ref H2.size), (1, .ref s.heap.size), (0, .ref b)]) hx hb d_law_17 rfl hl (by decide) rfl (fun ls hl => ?_)
  exact lw_loop ⟨X, hX, hbl, hz53, hL, Nat.le_of_ble_eq_true rfl, Nat.le_of_ble_eq_true rfl⟩ (L + 6) 0 (by omega) (by omega) S0 H4 locs4 ls ⟨tH0, mH0, RC_0, RM_0, hP24, hP4, hS4⟩ (lv_sub hl [3, 2, 1, 0] rfl)
