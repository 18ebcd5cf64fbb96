def am_grp : Instr → Nat
  | .getfield _ => 1 | .putfield _ => 1 | .getstatic _ => 1 | .iaload => 1 | .baload => 1 | .aaload => 1 | .iastore => 1 | .bastore => 1 | .aastore => 1 | .arraylength => 1
  | .invokevirtual _ => 2 | .invokestatic _ => 2 | .invokespecial _ => 2 | .new _ => 2 | .newarray _ => 2 | .anewarray _ => 2 | .ireturn => 2 | .lreturn => 2 | .return_ => 2
  | _ => 0
section AMT
variable {p : Program} {l : Launch} {e : Env} {s : State} {m : MethodId} {args : Array Value} {below : List Frame} {meth : Method} {c : Code} {K : Am_X} {A : Nat → Prop} {oc nL h0 : Nat} {cc : ByteArray} {rt : Option FieldType} {ini al : Bool} {d mc ms : Nat} {Q : State → Prop}
variable {pc : Nat} {loc : List (Option Value)} {st : List Value} {hp : List Am_C} {nc ns : Nat} {ls : Array Slot} {H : Heap} {locs : List Loc}
variable {post : Option Value → List Am_C → Nat → Nat → Prop} {k : Am_K}
theorem am_set_i {h n j : Nat} {f : Nat → Int32} {t : Nat} {x : Int32} (hj : j < n) (hn : n ≤ 4096) : (am_w K hp).set h (K.2.2.1 h, .inl (K.2.1 (am_ft t), n, .inl (upd f (nI j).toNatClampNeg x))) = am_w K (hp.set h (.inl (t, n, .inl (upd f j x)))) := by
  rw [nI_clamp (by omega)]
  exact am_w_set (c := .inl (t, n, .inl (upd f j x)))
theorem am_set_o {h ci b : Nat} {fs : List Value} {v : Value} : (am_w K hp).set h (K.2.2.1 h, .inr (ci, (fs.map (am_v K)).set b (am_v K v))) = am_w K (hp.set h (.inr (ci, fs.set b v))) := by
  rw [← List.map_set]
  exact am_w_set (c := .inr (ci, fs.set b v))
theorem am_tysAt {t : Nat} (h : t < 4) : (am_tys K)[t]? = some (K.2.1 (am_ft t), am_ft t) := by
  rcases (show t = 0 ∨ t = 1 ∨ t = 2 ∨ t = 3 by omega) with rfl | rfl | rfl | rfl <;> rfl
theorem am_sw_at {x : Int32} {q : Nat → Prop} : ∀ {os : List Int} {lo : Int}, am_sw x pc q lo os → ∀ (j : Nat) (o : Int), os[j]? = some o → x.toInt = lo + j → q ((pc : Int) + o).toNat
  | [], _, _, j, o, ho, _ => by simp at ho
  | o' :: os, lo, h, 0, o, ho, hx => by
    simp at ho
    subst ho
    exact h.1 (by simpa using hx)
  | o' :: os, lo, h, j + 1, o, ho, hx => by
    have ho' : os[j]? = some o := by simpa using ho
    exact am_sw_at h.2 j o ho' (by rw [hx]; push_cast; omega)
theorem am_lsw_at {x : Int32} {q : Nat → Prop} {dflt : Int} : ∀ {ps : List (Int × Int)}, am_lsw x pc q dflt ps → q ((pc : Int) + Op.lookupswitch.offset ps dflt x.toInt).toNat
  | [], h => by
    rw [show Op.lookupswitch.offset [] dflt x.toInt = dflt from rfl]
    exact h
  | (a, o) :: r, h => by
    rw [Op.lookupswitch.offset_cons]
    by_cases hx : x.toInt = a
    · first
        | (rw [if_pos hx]; exact h.1 hx)
        | (rw [if_pos (by simp [hx])]; exact h.1 hx)
        | (rw [if_pos hx.symm]; exact h.1 hx)
    · first
        | (rw [if_neg hx]; exact am_lsw_at (h.2 hx))
        | (rw [if_neg (by simp [hx])]; exact am_lsw_at (h.2 hx))
        | (rw [if_neg (Ne.symm hx)]; exact am_lsw_at (h.2 hx))
theorem am_lsw_in {x : Int} {d : Int} : ∀ {ps : List (Int × Int)}, Op.lookupswitch.offset ps d x = d ∨ ∃ q ∈ ps, Op.lookupswitch.offset ps d x = q.2
  | [] => Or.inl rfl
  | (a, o) :: r => by
    rw [Op.lookupswitch.offset_cons]
    split
    · exact Or.inr ⟨(a, o), List.mem_cons_self, rfl⟩
    · rcases am_lsw_in (x := x) (d := d) (ps := r) with h | ⟨q, hq, h⟩
      · exact Or.inl h
      · exact Or.inr ⟨q, List.mem_cons_of_mem _ hq, h⟩
set_option maxHeartbeats 4000000 in
theorem am_okS {nx a b c' : Nat} {i : Instr} (X : am_Cx K A p s m args meth c oc nL cc rt ini) (hE : am_okE oc cc (pc, i, nx, a, b, c') = true)
    (hk : ∀ pc loc st hp nc ns, k pc loc st hp nc ns → am_Go K A p l e s m args below meth c nL al h0 d mc ms Q pc loc st hp nc ns)
    (h : am_stp d mc ms al ini rt post k i nx a b c' pc loc st hp nc ns) (hgrp : am_grp i = 0) :
    am_Go K A p l e s m args below meth c nL al h0 d mc ms Q pc loc st hp nc ns := by
  obtain ⟨hx, hb, hml, hrt, hlocks, hown, hts, hK, hTb, hA, hNx, hini⟩ := id X
  unfold am_okE at hE
  rw [Bool.and_eq_true] at hE
  obtain ⟨hE1, hE2⟩ := hE
  intro ls H locs hl hP hD hS hal
  cases i with
  | iconst n =>
    obtain ⟨rfl, hd⟩ := am_okDe hE1 0 rfl
    have h : am_n b a (fun v => k _ loc (.int v :: st) hp nc ns) := h
    have h := am_ne h
    exact lv_iconst hx hb hd (of_decide_eq_true hE2) (hk _ _ _ _ _ _ h ls H locs hl hP hD hS hal)
  | bipush n =>
    obtain ⟨rfl, hd⟩ := am_okDe hE1 1 rfl
    have h : am_n b a (fun v => k _ loc (.int v :: st) hp nc ns) := h
    have h := am_ne h
    exact lv_bipush hx hb hd (of_decide_eq_true hE2) (hk _ _ _ _ _ _ h ls H locs hl hP hD hS hal)
  | sipush n =>
    obtain ⟨rfl, hd⟩ := am_okDe hE1 2 rfl
    have h : am_n b a (fun v => k _ loc (.int v :: st) hp nc ns) := h
    have h := am_ne h
    exact lv_sipush hx hb hd (of_decide_eq_true hE2) (hk _ _ _ _ _ _ h ls H locs hl hP hD hS hal)
  | ldc n =>
    obtain ⟨rfl, hd⟩ := am_okDe hE1 1 rfl
    have hE3 : decide (Cond.constant (am_own oc) n (am_nv b a) ∈ am_TB) = true := hE2
    have h : am_n b a (fun v => k _ loc (.int v :: st) hp nc ns) := h
    have h := am_ne h
    exact lv_ldc hx hb hown (hts _ (of_decide_eq_true hE3)) hd (hk _ _ _ _ _ _ h ls H locs hl hP hD hS hal)
  | ldc_w n =>
    obtain ⟨rfl, hd⟩ := am_okDe hE1 2 rfl
    have hE3 : decide (Cond.constant (am_own oc) n (am_nv b a) ∈ am_TB) = true := hE2
    have h : am_n b a (fun v => k _ loc (.int v :: st) hp nc ns) := h
    have h := am_ne h
    exact lv_ldcw hx hb hown (hts _ (of_decide_eq_true hE3)) hd (hk _ _ _ _ _ _ h ls H locs hl hP hD hS hal)
  | lconst n =>
    obtain ⟨rfl, hd⟩ := am_okDe hE1 0 rfl
    have he : (n : Nat) = a := of_decide_eq_true hE2
    exact lv_lconst hx hb hd (by rw [he]; rfl) (hk _ _ _ _ _ _ h ls H locs hl hP hD hS hal)
  | ldc2_w n =>
    obtain ⟨rfl, hd⟩ := am_okDe hE1 2 rfl
    have hE3 : decide (Cond.constantLong (am_own oc) n (lN a) ∈ am_TB) = true := hE2
    exact lv_ldc2 hx hb hown (hts _ (of_decide_eq_true hE3)) hd (hk _ _ _ _ _ _ h ls H locs hl hP hD hS hal)
  | iload j =>
    obtain ⟨rfl, hd⟩ := am_okDe hE1 1 rfl
    obtain ⟨v, hv, h⟩ := am_lde h
    obtain ⟨h1, h⟩ := am_te h
    obtain ⟨x, rfl⟩ := am_isIe h1
    exact lv_iload hx hb hd (hl.2.2.2 _ _ hv) (hk _ _ _ _ _ _ h ls H locs hl hP hD hS hal)
  | iload_n j =>
    obtain ⟨rfl, hd⟩ := am_okDe hE1 0 rfl
    obtain ⟨v, hv, h⟩ := am_lde h
    obtain ⟨h1, h⟩ := am_te h
    obtain ⟨x, rfl⟩ := am_isIe h1
    exact lv_iload_n hx hb hd rfl (hl.2.2.2 _ _ hv) (hk _ _ _ _ _ _ h ls H locs hl hP hD hS hal)
  | lload j =>
    obtain ⟨rfl, hd⟩ := am_okDe hE1 1 rfl
    obtain ⟨v, hv, h⟩ := am_lde h
    obtain ⟨h1, h⟩ := am_te h
    obtain ⟨x, rfl⟩ := am_isLe h1
    exact lv_lload hx hb hd (hl.2.2.2 _ _ hv) (hk _ _ _ _ _ _ h ls H locs hl hP hD hS hal)
  | lload_n j =>
    obtain ⟨rfl, hd⟩ := am_okDe hE1 0 rfl
    obtain ⟨v, hv, h⟩ := am_lde h
    obtain ⟨h1, h⟩ := am_te h
    obtain ⟨x, rfl⟩ := am_isLe h1
    exact lv_lload_n hx hb hd rfl (hl.2.2.2 _ _ hv) (hk _ _ _ _ _ _ h ls H locs hl hP hD hS hal)
  | aload j =>
    obtain ⟨rfl, hd⟩ := am_okDe hE1 1 rfl
    obtain ⟨v, hv, h⟩ := am_lde h
    obtain ⟨h1, h⟩ := am_te h
    obtain ⟨x, hx1⟩ := am_isRe K h1
    have h2 := hl.2.2.2 _ _ hv
    rw [hx1] at h2
    have h3 := hk _ _ _ _ _ _ h ls H locs hl hP hD hS hal
    rw [List.map_cons, hx1] at h3
    exact lv_aload hx hb hd h2 h3
  | aload_n j =>
    obtain ⟨rfl, hd⟩ := am_okDe hE1 0 rfl
    obtain ⟨v, hv, h⟩ := am_lde h
    obtain ⟨h1, h⟩ := am_te h
    obtain ⟨x, hx1⟩ := am_isRe K h1
    have h2 := hl.2.2.2 _ _ hv
    rw [hx1] at h2
    have h3 := hk _ _ _ _ _ _ h ls H locs hl hP hD hS hal
    rw [List.map_cons, hx1] at h3
    exact lv_aload_n hx hb hd rfl h2 h3
  | istore j =>
    obtain ⟨rfl, hd⟩ := am_okDe hE1 1 rfl
    obtain ⟨x, r, rfl, h⟩ := am_i1e h
    obtain ⟨h1, h⟩ := am_hase h
    exact lv_istore hx hb hd (am_R_has hl) (by rw [← hl.2.2.1]; exact h1) rfl (fun ls' h2 => hk _ _ _ _ _ _ (am_nfe _ h) ls' H locs (am_R_s1 (v := .int x) hl h2) hP hD hS hal)
  | istore_n j =>
    obtain ⟨rfl, hd⟩ := am_okDe hE1 0 rfl
    obtain ⟨x, r, rfl, h⟩ := am_i1e h
    obtain ⟨h1, h⟩ := am_hase h
    exact lv_istore_n hx hb hd rfl (am_R_has hl) (by rw [← hl.2.2.1]; exact h1) rfl (fun ls' h2 => hk _ _ _ _ _ _ (am_nfe _ h) ls' H locs (am_R_s1 (v := .int x) hl h2) hP hD hS hal)
  | lstore j =>
    obtain ⟨rfl, hd⟩ := am_okDe hE1 1 rfl
    obtain ⟨x, r, rfl, h⟩ := am_j1e h
    obtain ⟨h1, h⟩ := am_hase h
    exact lv_lstore hx hb hd (am_R_has hl) (by rw [← hl.2.2.1]; exact h1) rfl (fun ls' h2 => hk _ _ _ _ _ _ (am_nfe _ h) ls' H locs (am_R_s2 (v := .long x) hl h2) hP hD hS hal)
  | lstore_n j =>
    obtain ⟨rfl, hd⟩ := am_okDe hE1 0 rfl
    obtain ⟨x, r, rfl, h⟩ := am_j1e h
    obtain ⟨h1, h⟩ := am_hase h
    exact lv_lstore_n hx hb hd rfl (am_R_has hl) (by rw [← hl.2.2.1]; exact h1) rfl (fun ls' h2 => hk _ _ _ _ _ _ (am_nfe _ h) ls' H locs (am_R_s2 (v := .long x) hl h2) hP hD hS hal)
  | astore j =>
    obtain ⟨rfl, hd⟩ := am_okDe hE1 1 rfl
    obtain ⟨x, r, rfl, h⟩ := am_r1e h
    obtain ⟨h1, h⟩ := am_hase h
    exact lv_astore hx hb hd (am_R_has hl) (by rw [← hl.2.2.1]; exact h1) rfl (fun ls' h2 => hk _ _ _ _ _ _ (am_nfe _ h) ls' H locs (am_R_s1 (v := .ref x) hl h2) hP hD hS hal)
  | astore_n j =>
    obtain ⟨rfl, hd⟩ := am_okDe hE1 0 rfl
    obtain ⟨x, r, rfl, h⟩ := am_r1e h
    obtain ⟨h1, h⟩ := am_hase h
    exact lv_astore_n hx hb hd rfl (am_R_has hl) (by rw [← hl.2.2.1]; exact h1) rfl (fun ls' h2 => hk _ _ _ _ _ _ (am_nfe _ h) ls' H locs (am_R_s1 (v := .ref x) hl h2) hP hD hS hal)
  | iinc j n =>
    obtain ⟨rfl, hd⟩ := am_okDe hE1 2 rfl
    obtain ⟨v, hv, h2⟩ := am_lde h
    obtain ⟨x, r, he, h3⟩ := am_i1e h2
    have he1 : v = .int x := (List.cons.inj he).1
    clear h2 h
    subst he1
    have h := am_ne h3
    obtain ⟨kk, hkk⟩ := List.getElem?_of_mem (am_all_in (K := K) hv)
    exact lv_iinc (v := x + am_nv b a) hx hb hd (am_R_has hl) hkk (by rw [of_decide_eq_true hE2]) (by rw [← hl.2.2.1]; exact (List.getElem?_eq_some_iff.mp hv).1) rfl (fun ls' h2 => hk _ _ _ _ _ _ (am_nfe _ h) ls' H locs (am_R_s1 (v := .int (x + am_nv b a)) hl h2) hP hD hS hal)
  | iadd =>
    obtain ⟨rfl, hd⟩ := am_okDe hE1 0 rfl
    obtain ⟨x, y, r, rfl, h⟩ := am_i2e h
    exact lv_iadd hx hb hd (hk _ _ _ _ _ _ h ls H locs hl hP hD hS hal)
  | isub =>
    obtain ⟨rfl, hd⟩ := am_okDe hE1 0 rfl
    obtain ⟨x, y, r, rfl, h⟩ := am_i2e h
    exact lv_isub hx hb hd (hk _ _ _ _ _ _ h ls H locs hl hP hD hS hal)
  | imul =>
    obtain ⟨rfl, hd⟩ := am_okDe hE1 0 rfl
    obtain ⟨x, y, r, rfl, h⟩ := am_i2e h
    exact lv_imul hx hb hd (hk _ _ _ _ _ _ h ls H locs hl hP hD hS hal)
  | iand =>
    obtain ⟨rfl, hd⟩ := am_okDe hE1 0 rfl
    obtain ⟨x, y, r, rfl, h⟩ := am_i2e h
    exact lv_iand hx hb hd (hk _ _ _ _ _ _ h ls H locs hl hP hD hS hal)
  | ior =>
    obtain ⟨rfl, hd⟩ := am_okDe hE1 0 rfl
    obtain ⟨x, y, r, rfl, h⟩ := am_i2e h
    exact lv_ior hx hb hd (hk _ _ _ _ _ _ h ls H locs hl hP hD hS hal)
  | ixor =>
    obtain ⟨rfl, hd⟩ := am_okDe hE1 0 rfl
    obtain ⟨x, y, r, rfl, h⟩ := am_i2e h
    exact lv_ixor hx hb hd (hk _ _ _ _ _ _ h ls H locs hl hP hD hS hal)
  | ishl =>
    obtain ⟨rfl, hd⟩ := am_okDe hE1 0 rfl
    obtain ⟨x, y, r, rfl, h⟩ := am_i2e h
    exact lv_ishl hx hb hd (hk _ _ _ _ _ _ h ls H locs hl hP hD hS hal)
  | ishr =>
    obtain ⟨rfl, hd⟩ := am_okDe hE1 0 rfl
    obtain ⟨x, y, r, rfl, h⟩ := am_i2e h
    exact lv_ishr hx hb hd (hk _ _ _ _ _ _ h ls H locs hl hP hD hS hal)
  | iushr =>
    obtain ⟨rfl, hd⟩ := am_okDe hE1 0 rfl
    obtain ⟨x, y, r, rfl, h⟩ := am_i2e h
    exact lv_iushr hx hb hd rfl (hk _ _ _ _ _ _ h ls H locs hl hP hD hS hal)
  | idiv =>
    obtain ⟨rfl, hd⟩ := am_okDe hE1 0 rfl
    obtain ⟨x, y, r, rfl, h1, h⟩ := am_i2e h
    exact lv_idiv hx hb hd h1 (hk _ _ _ _ _ _ h ls H locs hl hP hD hS hal)
  | irem =>
    obtain ⟨rfl, hd⟩ := am_okDe hE1 0 rfl
    obtain ⟨x, y, r, rfl, h1, h⟩ := am_i2e h
    exact lv_irem hx hb hd h1 (hk _ _ _ _ _ _ h ls H locs hl hP hD hS hal)
  | ladd =>
    obtain ⟨rfl, hd⟩ := am_okDe hE1 0 rfl
    obtain ⟨x, y, r, rfl, h⟩ := am_j2e h
    exact lv_ladd hx hb hd (hk _ _ _ _ _ _ h ls H locs hl hP hD hS hal)
  | lmul =>
    obtain ⟨rfl, hd⟩ := am_okDe hE1 0 rfl
    obtain ⟨x, y, r, rfl, h⟩ := am_j2e h
    exact lv_lmul hx hb hd (hk _ _ _ _ _ _ h ls H locs hl hP hD hS hal)
  | ldiv =>
    obtain ⟨rfl, hd⟩ := am_okDe hE1 0 rfl
    obtain ⟨x, y, r, rfl, h1, h⟩ := am_j2e h
    exact lv_ldiv hx hb hd h1 (hk _ _ _ _ _ _ h ls H locs hl hP hD hS hal)
  | lrem =>
    obtain ⟨rfl, hd⟩ := am_okDe hE1 0 rfl
    obtain ⟨x, y, r, rfl, h1, h⟩ := am_j2e h
    exact lv_lrem hx hb hd h1 (hk _ _ _ _ _ _ h ls H locs hl hP hD hS hal)
  | lcmp =>
    obtain ⟨rfl, hd⟩ := am_okDe hE1 0 rfl
    obtain ⟨x, y, r, rfl, h⟩ := am_j2e h
    exact W.lcmp hx hb hd (hk _ _ _ _ _ _ h ls H locs hl hP hD hS hal)
  | i2l =>
    obtain ⟨rfl, hd⟩ := am_okDe hE1 0 rfl
    obtain ⟨x, r, rfl, h⟩ := am_i1e h
    exact lv_i2l hx hb hd rfl (hk _ _ _ _ _ _ h ls H locs hl hP hD hS hal)
  | l2i =>
    obtain ⟨rfl, hd⟩ := am_okDe hE1 0 rfl
    obtain ⟨x, r, rfl, h⟩ := am_j1e h
    exact lv_l2i hx hb hd rfl (hk _ _ _ _ _ _ h ls H locs hl hP hD hS hal)
  | i2b =>
    obtain ⟨rfl, hd⟩ := am_okDe hE1 0 rfl
    obtain ⟨x, r, rfl, h⟩ := am_i1e h
    exact lv_i2b hx hb hd rfl (hk _ _ _ _ _ _ h ls H locs hl hP hD hS hal)
  | dup =>
    obtain ⟨rfl, hd⟩ := am_okDe hE1 0 rfl
    match st, h with
    | v :: r, h =>
      obtain ⟨h1, h⟩ := am_te h
      exact lv_dup hx hb hd (by rw [am_cat]; exact Nat.eq_of_beq_eq_true h1) (hk _ _ _ _ _ _ h ls H locs hl hP hD hS hal)
    | [], h => exact (show False from h).elim
  | pop =>
    obtain ⟨rfl, hd⟩ := am_okDe hE1 0 rfl
    match st, h with
    | v :: r, h =>
      obtain ⟨h1, h⟩ := am_te h
      exact lv_pop hx hb hd (by rw [am_cat]; exact Nat.eq_of_beq_eq_true h1) (hk _ _ _ _ _ _ h ls H locs hl hP hD hS hal)
    | [], h => exact (show False from h).elim
  | dup2 =>
    obtain ⟨rfl, hd⟩ := am_okDe hE1 0 rfl
    match st, h with
    | v :: w :: r, h =>
      obtain ⟨h1, h⟩ := am_te h
      rw [Bool.and_eq_true] at h1
      exact lv_dup2_11 hx hb hd (by rw [am_cat]; exact Nat.eq_of_beq_eq_true h1.1) (by rw [am_cat]; exact Nat.eq_of_beq_eq_true h1.2) (hk _ _ _ _ _ _ h ls H locs hl hP hD hS hal)
    | [v], h => exact (show False from h).elim
    | [], h => exact (show False from h).elim
  | goto o =>
    obtain ⟨rfl, hd⟩ := am_okDe hE1 2 rfl
    exact lv_goto hx hb hd (of_decide_eq_true hE2) (hk _ _ _ _ _ _ h ls H locs hl hP hD hS hal)
  | ifCond q o =>
    obtain ⟨rfl, hd⟩ := am_okDe hE1 2 rfl
    have ht : (pc : Int) + o = (a : Int) := of_decide_eq_true hE2
    cases q with
    | eq =>
      obtain ⟨x, r, rfl, h1, h2⟩ := am_i1e h
      exact lv_if_eq hx hb hd ht (fun q => hk _ _ _ _ _ _ (h1 q) ls H locs hl hP hD hS hal) (fun q => hk _ _ _ _ _ _ (h2 q) ls H locs hl hP hD hS hal)
    | ne =>
      obtain ⟨x, r, rfl, h1, h2⟩ := am_i1e h
      exact lv_if_ne hx hb hd ht (fun q => hk _ _ _ _ _ _ (h1 q) ls H locs hl hP hD hS hal) (fun q => hk _ _ _ _ _ _ (h2 q) ls H locs hl hP hD hS hal)
    | lt =>
      obtain ⟨x, r, rfl, h1, h2⟩ := am_i1e h
      exact lv_if_lt hx hb hd ht (fun q => hk _ _ _ _ _ _ (h1 q) ls H locs hl hP hD hS hal) (fun q => hk _ _ _ _ _ _ (h2 q) ls H locs hl hP hD hS hal)
    | ge =>
      obtain ⟨x, r, rfl, h1, h2⟩ := am_i1e h
      exact lv_if_ge hx hb hd ht (fun q => hk _ _ _ _ _ _ (h1 q) ls H locs hl hP hD hS hal) (fun q => hk _ _ _ _ _ _ (h2 q) ls H locs hl hP hD hS hal)
    | gt =>
      obtain ⟨x, r, rfl, h1, h2⟩ := am_i1e h
      exact lv_if_gt hx hb hd ht (fun q => hk _ _ _ _ _ _ (h1 q) ls H locs hl hP hD hS hal) (fun q => hk _ _ _ _ _ _ (h2 q) ls H locs hl hP hD hS hal)
    | le =>
      obtain ⟨x, r, rfl, h1, h2⟩ := am_i1e h
      exact lv_if_le hx hb hd ht (fun q => hk _ _ _ _ _ _ (h1 q) ls H locs hl hP hD hS hal) (fun q => hk _ _ _ _ _ _ (h2 q) ls H locs hl hP hD hS hal)
  | if_icmp q o =>
    obtain ⟨rfl, hd⟩ := am_okDe hE1 2 rfl
    have ht : (pc : Int) + o = (a : Int) := of_decide_eq_true hE2
    cases q with
    | eq =>
      obtain ⟨x, y, r, rfl, h1, h2⟩ := am_i2e h
      exact lv_icmp_eq hx hb hd ht (fun q => hk _ _ _ _ _ _ (h1 q) ls H locs hl hP hD hS hal) (fun q => hk _ _ _ _ _ _ (h2 q) ls H locs hl hP hD hS hal)
    | ne =>
      obtain ⟨x, y, r, rfl, h1, h2⟩ := am_i2e h
      exact lv_icmp_ne hx hb hd ht (fun q => hk _ _ _ _ _ _ (h1 q) ls H locs hl hP hD hS hal) (fun q => hk _ _ _ _ _ _ (h2 q) ls H locs hl hP hD hS hal)
    | lt =>
      obtain ⟨x, y, r, rfl, h1, h2⟩ := am_i2e h
      exact lv_icmp_lt hx hb hd ht (fun q => hk _ _ _ _ _ _ (h1 q) ls H locs hl hP hD hS hal) (fun q => hk _ _ _ _ _ _ (h2 q) ls H locs hl hP hD hS hal)
    | ge =>
      obtain ⟨x, y, r, rfl, h1, h2⟩ := am_i2e h
      exact lv_icmp_ge hx hb hd ht (fun q => hk _ _ _ _ _ _ (h1 q) ls H locs hl hP hD hS hal) (fun q => hk _ _ _ _ _ _ (h2 q) ls H locs hl hP hD hS hal)
    | gt =>
      obtain ⟨x, y, r, rfl, h1, h2⟩ := am_i2e h
      exact lv_icmp_gt hx hb hd ht (fun q => hk _ _ _ _ _ _ (h1 q) ls H locs hl hP hD hS hal) (fun q => hk _ _ _ _ _ _ (h2 q) ls H locs hl hP hD hS hal)
    | le =>
      obtain ⟨x, y, r, rfl, h1, h2⟩ := am_i2e h
      exact lv_icmp_le hx hb hd ht (fun q => hk _ _ _ _ _ _ (h1 q) ls H locs hl hP hD hS hal) (fun q => hk _ _ _ _ _ _ (h2 q) ls H locs hl hP hD hS hal)
  | tableswitch dflt lo hi offs =>
    have hd := am_okD0 hE1 rfl
    obtain ⟨x, r, rfl, h1, h2⟩ := am_i1e h
    simp only [am_okX, Bool.and_eq_true, decide_eq_true_eq, List.all_eq_true] at hE2
    obtain ⟨g1, g2, g3⟩ := hE2
    by_cases q : x.toInt < lo ∨ hi < x.toInt
    · exact lv_tableOut hx hb hd q (tgt := ((pc : Int) + dflt).toNat) (Int.toNat_of_nonneg g1).symm (hk _ _ _ _ _ _ (h1 q) ls H locs hl hP hD hS hal)
    · have q1 : ¬ x.toInt < lo := fun z => q (Or.inl z)
      have q2 : ¬ hi < x.toInt := fun z => q (Or.inr z)
      have hj : (x.toInt - lo).toNat < offs.toList.length := by omega
      have ho : offs.toList[(x.toInt - lo).toNat]? = some (offs.toList[(x.toInt - lo).toNat]'hj) := List.getElem?_eq_getElem hj
      have h3 := am_sw_at h2 _ _ ho (by omega)
      exact lv_tableIn hx hb hd q1 q2 (by rw [← Array.getElem?_toList]; exact ho) (tgt := ((pc : Int) + offs.toList[(x.toInt - lo).toNat]'hj).toNat) (Int.toNat_of_nonneg (g2 _ (List.getElem_mem hj))).symm (hk _ _ _ _ _ _ h3 ls H locs hl hP hD hS hal)
  | lookupswitch dflt ps =>
    have hd := am_okD0 hE1 rfl
    obtain ⟨x, r, rfl, h⟩ := am_i1e h
    have hE3 := hE2
    simp only [am_okX, Bool.and_eq_true, decide_eq_true_eq] at hE3
    obtain ⟨g1, g2, g3⟩ := hE3
    have h1 := am_lsw_at h
    refine lv_lookup hx hb hd g3 rfl (tgt := ((pc : Int) + Op.lookupswitch.offset ps.toList dflt x.toInt).toNat) (Int.toNat_of_nonneg ?_).symm (hk _ _ _ _ _ _ h1 ls H locs hl hP hD hS hal)
    rcases am_lsw_in (x := x.toInt) (d := dflt) (ps := ps.toList) with q | ⟨z, hz, q⟩
    · rw [q]; exact g1
    · rw [q]; exact of_decide_eq_true (List.all_eq_true.mp g2 z hz)
  | _ => first | exact absurd (show (1 : Nat) = 0 from hgrp) (by decide) | exact absurd (show (2 : Nat) = 0 from hgrp) (by decide) | exact (show False from h).elim
end AMT
