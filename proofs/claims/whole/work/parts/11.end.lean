section AMN
variable {p : Program} {l : Launch} {e : Env} {s : State} {m : MethodId} {args : Array Value} {below : List Frame} {meth : Method} {c : Code} {K : Am_X} {A : Nat → Prop} {oc nL h0 : Nat} {cc : ByteArray} {rt : Option FieldType} {ini al : Bool} {d mc ms : Nat} {Q : State → Prop}
variable {pc : Nat} {loc : List (Option Value)} {st : List Value} {hp : List Am_C} {nc ns : Nat} {ls : Array Slot} {H : Heap} {locs : List Loc}
variable {post : Option Value → List Am_C → Nat → Nat → Prop} {k : Am_K}
/-- one new cell at the heap's end -/
theorem am_push {H1 : Heap} {cn : Am_C} (hA : ∀ q, s.heap.size ≤ q → A q) (hP : va_P K.1 am_cl (am_w K hp) H) (hD : va_D A (am_w K hp)) (hS : va_S A s.heap H locs) (hal : am_Al K s al h0 mc ms hp nc ns) (hle : H.size ≤ s.heap.size + nc) (ha : al = true) (hz : H1.size = H.size + 1) (ho : ∀ q, q < H.size → H1[q]? = H[q]?) (hc : va_at K.1 am_cl (H.size, am_c K cn) H1) :
    K.2.2.1 hp.length = H.size ∧ va_P K.1 am_cl (am_w K (hp ++ [cn])) H1 ∧ va_D A (am_w K (hp ++ [cn])) ∧ va_S A s.heap H1 locs := by
  have h1 := hal.2 ha
  have h2 := am_size hP hS h1 hle
  refine ⟨h2.symm, ?_, ?_, ?_⟩
  · rw [am_w_app, ← h2]
    refine (hP.kept (fun k q hq => ho q.1 (hP k q hq).lt)).app (fun k q hq => ?_)
    have hz : k < 1 := (List.getElem?_eq_some_iff.mp hq).1
    rw [show k = 0 by omega] at hq
    cases hq
    exact hc
  · rw [am_w_app, ← h2]
    exact hD.push hP rfl (hA _ hS.1)
  · exact ⟨Nat.le_trans hS.1 (by omega), fun x g1 g2 => (ho x (Nat.lt_of_lt_of_le g1 hS.1)).trans (hS.2.1 x g1 g2), hS.2.2⟩
theorem am_alS {cn : Am_C} {n : Nat} (hal : am_Al K s al h0 mc ms hp nc ns) (h1 : nc + 1 ≤ mc) (h2 : ns + n ≤ ms) : am_Al K s al h0 mc ms (hp ++ [cn]) (nc + 1) (ns + n) := by
  refine ⟨⟨h1, h2⟩, fun q => ?_⟩
  obtain ⟨g1, g2⟩ := hal.2 q
  refine ⟨?_, g2⟩
  rw [List.length_append, g1]
  rfl
theorem am_dvv {ci : Nat} {C : String} {T : u_T} {N : Nat} (h : am_cl[ci]? = some (C, T, N)) : (am_dv ci).map (am_v K) = am_dv ci := by
  have h1 := (am_cl_g h).2.2.2.2
  have h2 : ∀ v ∈ am_dv ci, am_v K v = v := by
    intro v hv
    have h3 := List.all_eq_true.mp h1 v hv
    cases v <;> first | rfl | cases h3
  conv => rhs; rw [← List.map_id (am_dv ci)]
  exact List.map_congr_left h2
set_option maxHeartbeats 4000000 in
theorem am_okA {nx a b c' : Nat} {i : Instr} (X : am_Cx K A p s m args meth c oc nL cc rt ini) (hE : am_okE oc cc (pc, i, nx, a, b, c') = true)
    (hk : ∀ pc loc st hp nc ns, k pc loc st hp nc ns → am_Go K A p l e s m args below meth c nL al h0 d mc ms Q pc loc st hp nc ns)
    (h : am_stp d mc ms al ini rt post k i nx a b c' pc loc st hp nc ns) (hgrp : match i with
      | .new _ => True | .newarray _ => True | .anewarray _ => True | _ => False) :
    am_Go K A p l e s m args below meth c nL al h0 d mc ms Q pc loc st hp nc ns := by
  obtain ⟨hx, hb, hml, hrt, hlocks, hown, hts, hK, hTb, hA, hNx, hini⟩ := id X
  unfold am_okE at hE
  rw [Bool.and_eq_true] at hE
  obtain ⟨hE1, hE2⟩ := hE
  intro ls H locs hl hP hD hS hal
  refine am_W_size (fun hle => ?_)
  cases i with
  | new n =>
    obtain ⟨rfl, hd⟩ := am_okDe hE1 2 rfl
    simp only [am_okX, Bool.and_eq_true, decide_eq_true_eq] at hE2
    obtain ⟨w1, w2⟩ := hE2
    obtain ⟨h1, h9⟩ := am_te h
    simp only [Bool.and_eq_true] at h1
    obtain ⟨⟨⟨h1, h2⟩, h3⟩, h4⟩ := h1
    have h2 := Nat.le_of_ble_eq_true h2
    have h3 := Nat.le_of_ble_eq_true h3
    have h4 : a < 8 := by
      have := Nat.le_of_ble_eq_true h4
      omega
    obtain ⟨⟨C, T, N⟩, hq⟩ := am_cl_lt h4
    obtain ⟨g1, g2, g3, g4, g5⟩ := am_cl_g hq
    have hN : N = b := by rw [← g4]; exact w2
    subst hN
    rw [g3] at w1
    refine W.newcK hx hb hown (hts _ w1) (hts _ g1) (hts _ g2) rfl hd h2 h3 (hK.1 a _ hq).2.1 rfl fun H1 kC hkC e1 z1 o1 => ?_
    have hcell : va_at K.1 am_cl (H.size, am_c K (.inr (a, am_dv a))) H1 := by
      refine ⟨_, hq, ?_⟩
      have h5 := (u_born (am_Y a) hts (am_cl_ws hq) (hK.1 a _ hq) hkC e1 (fun k hk => (am_cl_f hq hk).1)).to (V' := vp_V (am_dv a)) (fun j hj => (am_cl_f hq hj).2.2.2.2)
      rw [am_dvv hq]
      exact h5
    obtain ⟨q1, q2, q3, q4⟩ := am_push (cn := .inr (a, am_dv a)) hA hP hD hS hal hle h1 z1 o1 hcell
    have h6 := hk _ _ _ _ _ _ h9 ls H1 locs hl q2 q3 q4 (am_alS hal h2 h3)
    rw [List.map_cons, show am_v K (.ref hp.length) = .ref H.size from by rw [← q1]; rfl] at h6
    exact h6
  | newarray ty =>
    obtain ⟨rfl, hd⟩ := am_okDe hE1 1 rfl
    cases ty with
    | int =>
      obtain ⟨x, r, rfl, n, rfl, h8⟩ := am_i1e h
      obtain ⟨h1, h9⟩ := am_te h8
      simp only [Bool.and_eq_true] at h1
      obtain ⟨⟨⟨h1, h2⟩, h3⟩, h4⟩ := h1
      have h2 := Nat.le_of_ble_eq_true h2
      have h3 := Nat.le_of_ble_eq_true h3
      have h4 := Nat.le_of_ble_eq_true h4
      refine va_newaK (atype := .int) hx hb (hts _ am_obj_ok.2.2.2.2.2.1) rfl hd rfl (nI_pos (by omega)) (nI_clamp (by omega)) (show n * 4 ≤ 536870912 by omega) h3 h4 rfl fun H1 cA e1 z1 o1 hAr hNm => ?_
      have hcA : cA = K.2.1 (am_ft 0) := by
        have h5 := (hK.2 0 _ (am_tysAt (by decide))).2
        exact Option.some.inj (hNm.symm.trans h5)
      have hcell : va_at K.1 am_cl (H.size, am_c K (.inl (0, n, .inl (fun _ => 0)))) H1 := by
        show H1[H.size]? = some (vp_cell (K.2.1 (am_ft 0)) (n, .inl (fun _ => 0)))
        rw [← hcA]
        exact e1
      obtain ⟨q1, q2, q3, q4⟩ := am_push (cn := .inl (0, n, .inl (fun _ => 0))) hA hP hD hS hal hle h1 z1 o1 hcell
      have h6 := hk _ _ _ _ _ _ h9 ls H1 locs hl q2 q3 q4 (am_alS hal h3 h4)
      rw [List.map_cons, show am_v K (.ref hp.length) = .ref H.size from by rw [← q1]; rfl] at h6
      exact h6
    | byte =>
      obtain ⟨x, r, rfl, n, rfl, h8⟩ := am_i1e h
      obtain ⟨h1, h9⟩ := am_te h8
      simp only [Bool.and_eq_true] at h1
      obtain ⟨⟨⟨h1, h2⟩, h3⟩, h4⟩ := h1
      have h2 := Nat.le_of_ble_eq_true h2
      have h3 := Nat.le_of_ble_eq_true h3
      have h4 := Nat.le_of_ble_eq_true h4
      refine va_newaK (atype := .byte) hx hb (hts _ am_obj_ok.2.2.2.2.2.2) rfl hd rfl (nI_pos (by omega)) (nI_clamp (by omega)) (show n * 1 ≤ 536870912 by omega) h3 h4 rfl fun H1 cA e1 z1 o1 hAr hNm => ?_
      have hcA : cA = K.2.1 (am_ft 1) := by
        have h5 := (hK.2 1 _ (am_tysAt (by decide))).2
        exact Option.some.inj (hNm.symm.trans h5)
      have hcell : va_at K.1 am_cl (H.size, am_c K (.inl (1, n, .inl (fun _ => 0)))) H1 := by
        show H1[H.size]? = some (vp_cell (K.2.1 (am_ft 1)) (n, .inl (fun _ => 0)))
        rw [← hcA]
        exact e1
      obtain ⟨q1, q2, q3, q4⟩ := am_push (cn := .inl (1, n, .inl (fun _ => 0))) hA hP hD hS hal hle h1 z1 o1 hcell
      have h6 := hk _ _ _ _ _ _ h9 ls H1 locs hl q2 q3 q4 (am_alS hal h3 h4)
      rw [List.map_cons, show am_v K (.ref hp.length) = .ref H.size from by rw [← q1]; rfl] at h6
      exact h6
    | _ => exact (show False from h).elim
  | anewarray n =>
    obtain ⟨rfl, hd⟩ := am_okDe hE1 2 rfl
    simp only [am_okX, Bool.and_eq_true, decide_eq_true_eq] at hE2
    obtain ⟨w1, w2⟩ := hE2
    obtain ⟨x, r, rfl, n', rfl, h8⟩ := am_i1e h
    obtain ⟨h1, h9⟩ := am_te h8
    simp only [Bool.and_eq_true] at h1
    obtain ⟨⟨⟨h1, h2⟩, h3⟩, h4⟩ := h1
    have h2 := Nat.le_of_ble_eq_true h2
    have h3 := Nat.le_of_ble_eq_true h3
    have h4 := Nat.le_of_ble_eq_true h4
    have e0 : (nI n').toNatClampNeg = n' := nI_clamp (by omega)
    have hft : am_ft (am_tag a) = .object (am_own a) ∧ va_AO (am_own a) s ∧ am_tag a < 4 := by
      rcases w2 with rfl | rfl
      · exact ⟨rfl, hNx.2.1, by decide⟩
      · exact ⟨rfl, hNx.2.2, by decide⟩
    refine W.anew hx hb hown (hts _ w1) (va_AO.use hft.2.1) rfl hd rfl (nI_pos (by omega)) (by rw [e0]; omega) h3 (by rw [e0]; exact h4) fun cA kA comp f1 f2 f3 f4 => ?_
    rw [e0]
    have hcA : cA = K.2.1 (am_ft (am_tag a)) := by
      have h5 := (hK.2 _ _ (am_tysAt hft.2.2)).2
      rw [hft.1] at h5 ⊢
      obtain ⟨_, _, _, _, _, h6⟩ := h5
      exact Option.some.inj (f1.symm.trans h6)
    generalize hH1 : H.push ({ cls := cA, slots := Array.replicate n' .null, vm := .none } : Cell) = H1
    have z1 : H1.size = H.size + 1 := by rw [← hH1, Array.size_push]
    have e1 : H1[H.size]? = some (arrV cA n' (fun _ => .null)) := by rw [← hH1, Array.getElem?_push_size, ← arrV_new]
    have o1 : ∀ q : Nat, q < H.size → H1[q]? = H[q]? := fun q hq => by rw [← hH1, Array.getElem?_push, if_neg (Nat.ne_of_lt hq)]
    have hcell : va_at K.1 am_cl (H.size, am_c K (.inl (am_tag a, n', .inr (.inr (.inr (.inr (fun _ => none))))))) H1 := by
      show H1[H.size]? = some (vp_cell (K.2.1 (am_ft (am_tag a))) (n', .inr (.inr (.inr (.inr (fun _ => none))))))
      rw [← hcA]
      exact e1
    obtain ⟨q1, q2, q3, q4⟩ := am_push (cn := .inl (am_tag a, n', .inr (.inr (.inr (.inr (fun _ => none)))))) hA hP hD hS hal hle h1 z1 o1 hcell
    have h6 := hk _ _ _ _ _ _ h9 ls H1 locs hl q2 q3 q4 (am_alS hal h3 h4)
    rw [List.map_cons, show am_v K (.ref hp.length) = .ref H.size from by rw [← q1]; rfl] at h6
    exact h6
  | _ => exact (show False from hgrp).elim
end AMN
section AMQ
variable {p : Program} {l : Launch} {e : Env} {s : State} {m : MethodId} {args : Array Value} {below : List Frame} {meth : Method} {c : Code} {K : Am_X} {oc nL : Nat} {cc : ByteArray} {rt : Option FieldType} {ini al : Bool} {d mc ms : Nat}
variable {pc : Nat} {loc : List (Option Value)} {st : List Value} {hp hp0 hpE : List Am_C} {nc ns : Nat} {r0 : Option Value}
variable {k : Am_K}
def am_post (r0 : Option Value) (hpE : List Am_C) (mc ms : Nat) : Option Value → List Am_C → Nat → Nat → Prop := fun v h n1 n2 => v = r0 ∧ h = hpE ∧ n1 = mc ∧ n2 = ms
abbrev am_Q (K : Am_X) (s : State) (args : Array Value) (below : List Frame) (hp0 hpE : List Am_C) (r0 : Option Value) (mc ms : Nat) : State → Prop := MQ below (am_Post K hp0 hpE s.heap.size r0) args s mc ms (am_fr K hp0 s.heap.size)
set_option maxHeartbeats 4000000 in
theorem am_okR {nx a b c' h0 : Nat} {i : Instr} (X : am_Cx K (am_fr K hp0 s.heap.size) p s m args meth c oc nL cc rt ini) (hE : am_okE oc cc (pc, i, nx, a, b, c') = true)
    (h : am_stp d mc ms al ini rt (am_post r0 hpE mc ms) k i nx a b c' pc loc st hp nc ns) (hgrp : match i with
      | .ireturn => True | .lreturn => True | .return_ => True | _ => False) :
    am_Go K (am_fr K hp0 s.heap.size) p l e s m args below meth c nL al h0 d mc ms (am_Q K s args below hp0 hpE r0 mc ms) pc loc st hp nc ns := by
  obtain ⟨hx, hb, hml, hrt, hlocks, hown, hts, hK, hTb, hA, hNx, hini⟩ := id X
  unfold am_okE at hE
  rw [Bool.and_eq_true] at hE
  obtain ⟨hE1, hE2⟩ := hE
  intro ls H locs hl hP hD hS hal
  cases i with
  | ireturn =>
    obtain ⟨rfl, hd⟩ := am_okDe hE1 0 rfl
    unfold am_stp at h
    dsimp only at h
    split at h
    · next v =>
      obtain ⟨rfl, rfl, rfl, rfl⟩ := h
      exact W.iret hx hb hrt (fun t ht hW => ⟨rfl, by rw [ht]; exact hP, hD, hS.F ht⟩) hS.2.2 hd hlocks
    · next v =>
      obtain ⟨hv, rfl, rfl, rfl, rfl⟩ := h
      exact W.zret hx hb hrt (by rcases hv with rfl | rfl <;> rfl) (fun t ht hW => ⟨rfl, by rw [ht]; exact hP, hD, hS.F ht⟩) hS.2.2 hd hlocks
    · exact h.elim
  | lreturn =>
    obtain ⟨rfl, hd⟩ := am_okDe hE1 0 rfl
    unfold am_stp at h
    dsimp only at h
    split at h
    · next v =>
      obtain ⟨rfl, rfl, rfl, rfl⟩ := h
      exact W.lret hx hb hrt (fun t ht hW => ⟨rfl, by rw [ht]; exact hP, hD, hS.F ht⟩) hS.2.2 hd hlocks
    · exact h.elim
  | return_ =>
    obtain ⟨rfl, hd⟩ := am_okDe hE1 0 rfl
    unfold am_stp at h
    dsimp only at h
    split at h
    · obtain ⟨rfl, rfl, rfl, rfl⟩ := h
      exact W.vret hx hb hrt (fun t ht hW => ⟨rfl, by rw [ht]; exact hP, hD, hS.F ht⟩) hS.2.2 hd hlocks
    · exact h.elim
  | _ => exact (show False from hgrp).elim
theorem am_okI {nx a b c' h0 : Nat} {i : Instr} (X : am_Cx K (am_fr K hp0 s.heap.size) p s m args meth c oc nL cc rt ini) (hE : am_okE oc cc (pc, i, nx, a, b, c') = true)
    (hk : ∀ pc loc st hp nc ns, k pc loc st hp nc ns → am_Go K (am_fr K hp0 s.heap.size) p l e s m args below meth c nL al h0 d mc ms (am_Q K s args below hp0 hpE r0 mc ms) pc loc st hp nc ns)
    (h : am_stp d mc ms al ini rt (am_post r0 hpE mc ms) k i nx a b c' pc loc st hp nc ns) :
    am_Go K (am_fr K hp0 s.heap.size) p l e s m args below meth c nL al h0 d mc ms (am_Q K s args below hp0 hpE r0 mc ms) pc loc st hp nc ns := by
  by_cases g0 : am_grp i = 0
  · exact am_okS X hE hk h g0
  by_cases g1 : am_grp i = 1
  · exact am_okH X hE hk h g1
  cases i with
  | invokevirtual n => exact am_okC X hE hk h trivial
  | invokestatic n => exact am_okC X hE hk h trivial
  | invokespecial n => exact am_okC X hE hk h trivial
  | new n => exact am_okA X hE hk h trivial
  | newarray n => exact am_okA X hE hk h trivial
  | anewarray n => exact am_okA X hE hk h trivial
  | ireturn => exact am_okR X hE h trivial
  | lreturn => exact am_okR X hE h trivial
  | return_ => exact am_okR X hE h trivial
  | _ => first | exact absurd rfl g0 | exact absurd rfl g1
theorem am_okB {h0 : Nat} {cd : List Am_E} {cuts : List Nat} {Go : Am_K} (X : am_Cx K (am_fr K hp0 s.heap.size) p s m args meth c oc nL cc rt ini) (hcd : ∀ e ∈ cd, am_okE oc cc e = true)
    (hGo : ∀ pc loc st hp nc ns, Go pc loc st hp nc ns → am_Go K (am_fr K hp0 s.heap.size) p l e s m args below meth c nL al h0 d mc ms (am_Q K s args below hp0 hpE r0 mc ms) pc loc st hp nc ns) :
    ∀ (n : Nat) pc loc st hp nc ns, am_blk cd cuts d mc ms al ini rt (am_post r0 hpE mc ms) Go n pc loc st hp nc ns → am_Go K (am_fr K hp0 s.heap.size) p l e s m args below meth c nL al h0 d mc ms (am_Q K s args below hp0 hpE r0 mc ms) pc loc st hp nc ns
  | 0, pc, loc, st, hp, nc, ns, h => (show False from h).elim
  | n + 1, pc, loc, st, hp, nc, ns, h => by
    have ih := am_okB (cuts := cuts) X hcd hGo n
    unfold am_blk at h
    split at h
    · exact h.elim
    · next i nx a b c' hlk =>
      refine am_okI X (hcd _ (am_lk_in hlk)) (fun pc' loc' st' hp' nc' ns' h' => ?_) h
      cases hb : cuts.elem pc' with
      | true => rw [hb] at h'; exact hGo _ _ _ _ _ _ h'
      | false => rw [hb] at h'; exact ih _ _ _ _ _ _ h'
end AMQ
/-- a method's code table is right -/
def am_okM (mi : Nat) (cd : List Am_E) : Prop := cd.all (am_okE (am_m mi).2.2.2.2 (am_m mi).2.1) = true
/-- THE RULE: a contract out of the abstract machine -/
theorem am_ev {al : Bool} {d mc ms mi : Nat} {args : List Value} {hp : List Am_C} {r : Option Value} {hp' : List Am_C} {cd : List Am_E} (nL : Nat) (rt : Option FieldType) (ini : Bool) (cuts : List Nat) (hok : am_okM mi cd) (hm : am_mP mi) (hnL : (am_m mi).2.2.1 = nL) (hrt : (am_m mi).2.2.2.1 = rt) (hini : ini = true → (am_m mi).1.name = "<init>") (hlen : (am_l0 args).length ≤ nL)
    (body : ∀ Go : Am_K, (∀ (n pc : Nat) (loc : List (Option Value)) (st : List Value) (hp : List Am_C) (nc ns : Nat), am_blk cd cuts d mc ms al ini rt (am_post r hp' mc ms) Go n pc loc st hp nc ns → Go pc loc st hp nc ns) → Go 0 (am_loc nL args) [] hp 0 0) : Am_Ev al d mc ms mi args hp r hp' := by
  intro l K sz
  refine Met.ofW (cc := (am_m mi).2.1) (maxL := (am_m mi).2.2.1) (ret := (am_m mi).2.2.2.1) hm.2.2.2.2.1 rfl ?_
  intro p e s m ar below meth c s₁ B hml hv
  obtain ⟨rfl, hsz, hP, hK, hD0, hTb, hNx, hrd⟩ := hv
  subst hsz
  have hts : ∀ w ∈ am_TB, w.before ((args.map (am_v K)).toArray) s = true := fun w hw => atoms_spec (ws := am_ws mi) B.pre w (List.mem_cons_of_mem _ hw)
  have hown : s.vm.findClass (am_own (am_m mi).2.2.2.2) = some m.cls := by
    rw [← hm.2.2.2.2.2]
    exact findClass_of_methodNamed B.named
  have X : am_Cx K (am_fr K hp s.heap.size) p s m ((args.map (am_v K)).toArray) meth c (am_m mi).2.2.2.2 nL (am_m mi).2.1 rt ini := ⟨B.exec, B.bytes, by rw [hml]; exact hnL, by rw [B.returns]; exact hrt, B.notSynchronized, hown, hts, hK, hTb, fun q h => Or.inr h, hNx, fun q => by rw [← hini q]; exact (name_of_methodNamed B.named B.method).1⟩
  have hG := body (am_Go K (am_fr K hp s.heap.size) p l e s m ((args.map (am_v K)).toArray) below meth c nL al hp.length d mc ms (am_Q K s ((args.map (am_v K)).toArray) below hp hp' r mc ms)) (fun n pc loc st hp1 nc ns h => am_okB X (fun e he => List.all_eq_true.mp hok e he) (fun _ _ _ _ _ _ h => h) n pc loc st hp1 nc ns h)
  rw [hnL, lg_entry_eq]
  exact hG _ s.heap [] (am_R_entry K args hlen) hP hD0.self va_S.rf ⟨⟨Nat.zero_le _, Nat.zero_le _⟩, fun q => ⟨rfl, hrd q⟩⟩
