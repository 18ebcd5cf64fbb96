section AMC
variable {p : Program} {l : Launch} {e : Env} {s : State} {m : MethodId} {args : Array Value} {below : List Frame} {meth : Method} {c : Code} {K : Am_X} {A : Nat → Prop} {oc nL h0 : Nat} {cc : ByteArray} {rt : Option FieldType} {ini al : Bool} {d mc ms : Nat} {Q : State → Prop}
variable {pc : Nat} {loc : List (Option Value)} {st : List Value} {hp : List Am_C} {nc ns : Nat} {ls : Array Slot} {H : Heap} {locs : List Loc}
variable {post : Option Value → List Am_C → Nat → Nat → Prop} {k : Am_K}
theorem am_good {Ts : List Cond} (hT : ∀ w ∈ am_TB, w ∈ Ts) {ws : List Cond} (h : ∀ w ∈ ws, w ∈ am_TB) : GoodIn Ts ws := fun w hw => ⟨hT w (h w hw), good_of_word (List.mem_filter.mp (h w hw)).2⟩
theorem am_wsTB {mi : Nat} (h : am_mP mi) : ∀ w ∈ am_ws mi, w ∈ am_TB := by
  intro w hw
  rcases List.mem_cons.mp hw with rfl | hw
  · exact h.1
  · exact hw
theorem am_rmR {d' mc' ms' maxL : Nat} (h : d' < d) (hm : maxL ≤ 20) : (am_rm d' mc' ms').frames + 1 ≤ (am_rm d mc ms).frames ∧ 8 + (maxL + 11) + (am_rm d' mc' ms').locals ≤ (am_rm d mc ms).locals := by
  show d' + 1 ≤ d ∧ 8 + (maxL + 11) + 40 * d' ≤ 40 * d
  omega
theorem am_rcve {ci : Nat} {v : Option Value} (h : am_rcv ci v hp = true) : ∃ x fs, v = some (.ref x) ∧ hp[x]? = some (.inr (ci, fs)) := by
  unfold am_rcv at h
  split at h
  · next x =>
    split at h
    · next c' fs hc =>
      have h1 := Nat.eq_of_beq_eq_true h
      subst h1
      exact ⟨x, fs, rfl, hc⟩
    · cases h
  · cases h
theorem am_split {b x : Nat} (hb : 0 < b) (h : st[b - 1]? = some (.ref x)) : st = st.take (b - 1) ++ .ref x :: st.drop b ∧ (st.take b).reverse = .ref x :: (st.take (b - 1)).reverse ∧ (st.take (b - 1)).length = b - 1 := by
  have hlt := (List.getElem?_eq_some_iff.mp h).1
  have hge : st[b - 1] = .ref x := (List.getElem?_eq_some_iff.mp h).2
  have e1 : st.take b = st.take (b - 1) ++ [.ref x] := by
    have h1 := List.take_succ_eq_append_getElem (l := st) (i := b - 1) hlt
    rw [show b - 1 + 1 = b by omega, hge] at h1
    exact h1
  refine ⟨?_, ?_, by rw [List.length_take]; omega⟩
  · conv => lhs; rw [← List.take_append_drop b st, e1]
    simp
  · rw [e1]; simp
theorem am_sumle {b : Nat} (h : Nat.ble (am_cs (st.drop b)) 8 = true) : 2 * (F0 m pc ls (st.map (am_v K))).monitorRoom + (((st.drop b).map (am_v K)).map fun v => v.category).sum ≤ 8 := by
  refine lv_room ?_
  rw [am_cats]
  exact Nat.le_of_ble_eq_true h
theorem am_lenp {desc : String} {b : Nat} (h : (parseMethodDescriptor desc).map (fun d => d.parameters.length + 1) = some b) : (parseMethodDescriptor desc).map (fun d => d.parameters.length) = some (b - 1) := by
  cases hq : parseMethodDescriptor desc with
  | none => rw [hq] at h; cases h
  | some q =>
    rw [hq] at h
    have h1 : q.parameters.length + 1 = b := Option.some.inj h
    rw [← h1]
    rfl
theorem am_rdyOf {al' : Bool} (hP : va_P K.1 am_cl (am_w K hp) H) (hS : va_S A s.heap H locs) (hal : am_Al K s al h0 mc ms hp nc ns) (hle : H.size ≤ s.heap.size + nc) (h : al' = true → al = true) : al' = true → ∀ k, hp.length ≤ k → K.2.2.1 k = H.size + (k - hp.length) := by
  intro q j hj
  have h1 := hal.2 (h q)
  have h2 := am_size hP hS h1 hle
  have h3 : K.2.2.1 hp.length = s.heap.size + nc := by rw [h1.2 hp.length (by omega)]; omega
  rw [h2, h3, h1.2 j (by omega)]
  omega
set_option maxHeartbeats 4000000 in
theorem am_okC {nx a b c' : Nat} {i : Instr} (X : am_Cx K A p s m args meth c oc nL cc rt ini) (hE : am_okE oc cc (pc, i, nx, a, b, c') = true)
    (hk : ∀ pc loc st hp nc ns, k pc loc st hp nc ns → am_Go K A p l e s m args below meth c nL al h0 d mc ms Q pc loc st hp nc ns)
    (h : am_stp d mc ms al ini rt post k i nx a b c' pc loc st hp nc ns) (hgrp : match i with
      | .invokevirtual _ => True | .invokestatic _ => True | .invokespecial _ => True | _ => False) :
    am_Go K A p l e s m args below meth c nL al h0 d mc ms Q pc loc st hp nc ns := by
  obtain ⟨hx, hb, hml, hrt, hlocks, hown, hts, hK, hTb, hA, hNx, hini⟩ := id X
  unfold am_okE at hE
  rw [Bool.and_eq_true] at hE
  obtain ⟨hE1, hE2⟩ := hE
  intro ls H locs hl hP hD hS hal
  have hfix : CallFix p m c cc nL s args am_TB (am_own oc) := ⟨hx, hb, hml, hown, hts⟩
  cases i with
  | invokevirtual n =>
    obtain ⟨rfl, hd⟩ := am_okDe hE1 2 rfl
    simp only [am_okX, Bool.and_eq_true, decide_eq_true_eq] at hE2
    obtain ⟨hE2, hb0⟩ := hE2
    obtain ⟨mP, w1, w2, w3, w4, w5, w6⟩ : am_mkP (oc, n, a, b, c', 0) := am_mk_ok _ (List.mem_of_elem_eq_true hE2)
    obtain ⟨h1, d', r, hp', hd', hEv, h2⟩ := am_te h
    obtain ⟨h2, h3⟩ := am_te h2
    rw [Bool.and_eq_true] at h1
    obtain ⟨x, fs, hv, hc⟩ := am_rcve h1.1
    obtain ⟨s1, s2, s3⟩ := am_split hb0 hv
    obtain ⟨q, hq⟩ := am_cl_lt w6
    obtain ⟨C, T, N⟩ := q
    have hCn : C = (am_m a).1.cls := by rw [← (am_cl_g hq).2.2.1]; exact w5
    refine am_after (hp := hp) (hp' := hp') (r := r) (rest := st.drop b) (mc' := 0) (ms' := 0) (a := ((st.take b).reverse.map (am_v K)).toArray) X hP hD hS ?_ (fun H1 locs1 hP1 hD1 hS1 => hk _ _ _ _ _ _ h3 ls H1 locs1 hl hP1 hD1 hS1 ?_)
    · have hM := hEv l K H.size
      rw [s2, List.map_cons] at hM ⊢
      refine va_runV (b := K.2.2.1 x) (C := C) (As := (st.take (b - 1)).reverse.map (am_v K)) (rest := (st.drop b).map (am_v K)) hfix hM (cwV (b - 1) hts (am_good (fun _ h => h) ?_) rfl rfl rfl ⟨hCn.symm, mP.2.2.1.1, mP.2.2.1.2, am_lenp w4⟩ (am_rmR hd' mP.2.2.2.1)) ⟨am_blind _, va_recv hK hP hq (am_w_at hc), ?_⟩ rfl ?_ hl.1 ?_ (am_sumle h1.2) hd ⟨?_, ?_⟩
      · intro w hw
        rw [hCn] at hw
        simp only [wsV, List.mem_append, List.mem_cons, List.not_mem_nil, or_false] at hw
        rcases hw with (rfl | rfl | rfl | rfl) | hw
        · exact w1
        · exact w2
        · exact w3
        · exact mP.2.1
        · exact am_wsTB mP w hw
      · have h5 := am_pre (al' := false) X hP hD hS (fun q => by cases q) ((st.take b).reverse.map (am_v K))
        rw [s2, List.map_cons] at h5
        exact h5
      · rw [List.length_map, List.length_reverse]; exact s3
      · show st.map (am_v K) = _
        conv => lhs; rw [s1]
        simp
        rfl
      · exact hal.1.1
      · exact hal.1.2
    · refine ⟨hal.1, fun q => ?_⟩
      have h6 := hal.2 q
      have h7 : hp'.length = hp.length := by
        rw [q] at h2
        exact Nat.eq_of_beq_eq_true (by simpa using h2)
      rw [h7]
      exact h6
  | invokestatic n =>
    obtain ⟨rfl, hd⟩ := am_okDe hE1 2 rfl
    simp only [am_okX] at hE2
    unfold am_stp at h
    dsimp only at h
    have hszl : ls.size = nL := hl.1
    cases e1 : Nat.beq a 9001 with
    | true =>
      rw [e1] at h hE2
      dsimp only [cond_true] at h hE2
      have w1 : am_mkP (oc, n, a, b, c', 4) := am_mk_ok _ (List.mem_of_elem_eq_true hE2)
      split at h
      · next n' dp dst sp src r _ =>
        obtain ⟨n0, f, hc0, hn0, h⟩ := am_aie h
        obtain ⟨n1, g, hc1, hn1, h⟩ := am_aie h
        obtain ⟨h1, nn, dpn, spn, rfl, rfl, rfl, q1, q2, h9⟩ := am_te h
        rw [Bool.and_eq_true] at h1
        have hd0 : 0 < d := by
          have := Nat.le_of_ble_eq_true h1.2
          omega
        have a1 : (nI nn).toNatClampNeg = nn := nI_clamp (by omega)
        have a2 : (nI dpn).toNatClampNeg = dpn := nI_clamp (by omega)
        have a3 : (nI spn).toNatClampNeg = spn := nI_clamp (by omega)
        refine va_copyi (D := K.1) (cl := am_cl) (ty := .int) hx hb (by rw [hml, hszl]) hown (hts _ w1) (hts _ am_obj_ok.2.2.1) (hts _ am_obj_ok.2.2.2.1) (hts _ am_obj_ok.2.2.2.2.1) hK hP hD hS src dst 0 0 (am_w_at hc0) (am_w_at hc1) (am_tysAt (by decide)) (am_tysAt (by decide)) rfl (nI_pos (by omega)) (nI_pos (by omega)) (nI_pos (by omega)) (by rw [a1, a3]; exact q1) (by rw [a1, a2]; exact q2) (fun _ _ => rfl) hd0 ?_ hd (fun H1 locs1 hP1 hD1 hS1 => ?_)
        · rw [am_cats]
          have h5 : am_cs r ≤ 8 := Nat.le_of_ble_eq_true h1.1
          have h6 : nativeFrameWords "java/lang/System" "arraycopy" 5 + 11 ≤ 32 := by decide
          show (r.map fun v => v.category).sum + _ ≤ 40 * d
          unfold am_cs at h5
          omega
        · have e5 : (am_w K hp).set dst (K.2.2.1 dst, .inl (K.2.1 (am_ft 0), n1, .inl (va_cpy f g (nI spn).toNatClampNeg (nI dpn).toNatClampNeg (nI nn).toNatClampNeg))) = am_w K (hp.set dst (.inl (0, n1, .inl (va_cpy f g spn dpn nn)))) := by
            rw [a1, a2, a3]
            exact am_w_set (c := .inl (0, n1, .inl (va_cpy f g spn dpn nn)))
          have e6 : am_vA K (n1, .inl g) = (n1, .inl g) := rfl
          have hP2 : va_P K.1 am_cl (am_w K (hp.set dst (.inl (0, n1, .inl (va_cpy f g spn dpn nn))))) H1 := by rw [← e5]; exact hP1
          have hD2 : va_D A (am_w K (hp.set dst (.inl (0, n1, .inl (va_cpy f g spn dpn nn))))) := by rw [← e5]; exact hD1
          exact hk _ _ _ _ _ _ h9 ls H1 locs1 hl hP2 hD2 hS1 hal.set
      · exact h.elim
    | false =>
      rw [e1] at h hE2
      dsimp only [cond_false] at h hE2
      cases e2 : Nat.beq a 9002 with
      | true =>
        rw [e2] at h hE2
        dsimp only [cond_true] at h hE2
        have w1 : am_mkP (oc, n, a, b, c', 6) := am_mk_ok _ (List.mem_of_elem_eq_true hE2)
        obtain ⟨x, y, r, rfl, h⟩ := am_i2e h
        obtain ⟨h1, h9⟩ := am_te h
        rw [Bool.and_eq_true] at h1
        have hd0 : 0 < d := by
          have := Nat.le_of_ble_eq_true h1.2
          omega
        refine va_mmax (R := am_rm d mc ms) hx hb (by rw [hml, hszl]) hown (hts _ w1) (hts _ am_mth_ok.1) (hts _ am_mth_ok.2.1) (hts _ am_mth_ok.2.2.1) hd0 ?_ hal.1.1 hal.1.2 hd (hk _ _ _ _ _ _ h9 ls H locs hl hP hD hS hal)
        rw [am_cats]
        have h5 : am_cs r ≤ 8 := Nat.le_of_ble_eq_true h1.1
        show (r.map fun v => v.category).sum + 13 ≤ 40 * d
        unfold am_cs at h5
        omega
      | false =>
        rw [e2] at h hE2
        dsimp only [cond_false] at h hE2
        cases e3 : Nat.beq a 9003 with
        | true =>
          rw [e3] at h hE2
          dsimp only [cond_true] at h hE2
          have w1 : am_mkP (oc, n, a, b, c', 7) := am_mk_ok _ (List.mem_of_elem_eq_true hE2)
          obtain ⟨x, y, r, rfl, h⟩ := am_i2e h
          obtain ⟨h1, h9⟩ := am_te h
          rw [Bool.and_eq_true] at h1
          have hd0 : 0 < d := by
            have := Nat.le_of_ble_eq_true h1.2
            omega
          refine va_mmin (R := am_rm d mc ms) hx hb (by rw [hml, hszl]) hown (hts _ w1) (hts _ am_mth_ok.2.2.2.1) (hts _ am_mth_ok.2.1) (hts _ am_mth_ok.2.2.2.2) hd0 ?_ hal.1.1 hal.1.2 hd (hk _ _ _ _ _ _ h9 ls H locs hl hP hD hS hal)
          rw [am_cats]
          have h5 : am_cs r ≤ 8 := Nat.le_of_ble_eq_true h1.1
          show (r.map fun v => v.category).sum + 13 ≤ 40 * d
          unfold am_cs at h5
          omega
        | false =>
          rw [e3] at h hE2
          dsimp only [cond_false] at h hE2
          obtain ⟨mP, w1, w2, w4⟩ : am_mkP (oc, n, a, b, c', 1) := am_mk_ok _ (List.mem_of_elem_eq_true hE2)
          obtain ⟨h1, d', r, hp', hd', hEv, h2⟩ := am_te h
          obtain ⟨h2, h3⟩ := am_te h2
          rw [Bool.and_eq_true] at h1
          have hlen : b ≤ st.length := Nat.le_of_ble_eq_true h1.1
          refine am_after (hp := hp) (hp' := hp') (r := r) (rest := st.drop b) (mc' := 0) (ms' := 0) (a := ((st.take b).reverse.map (am_v K)).toArray) X hP hD hS ?_ (fun H1 locs1 hP1 hD1 hS1 => hk _ _ _ _ _ _ h3 ls H1 locs1 hl hP1 hD1 hS1 ?_)
          · refine va_runS (As := (st.take b).reverse.map (am_v K)) (rest := (st.drop b).map (am_v K)) hfix (hEv l K H.size) (va_cwS b hts (am_good (fun _ h => h) ?_) rfl rfl rfl ⟨mP.2.2.1.1, mP.2.2.1.2, w4⟩ (am_rmR hd' mP.2.2.2.1)) ⟨am_blind _, am_pre (al' := false) X hP hD hS (fun q => by cases q) _⟩ rfl ?_ hl.1 ?_ (am_sumle h1.2) hd ⟨hal.1.1, hal.1.2⟩
            · intro w hw
              simp only [va_wsS, List.mem_append, List.mem_cons, List.not_mem_nil, or_false] at hw
              rcases hw with (rfl | rfl | rfl) | hw
              · exact w1
              · exact w2
              · exact mP.2.1
              · exact am_wsTB mP w hw
            · rw [List.length_map, List.length_reverse, List.length_take]; omega
            · show st.map (am_v K) = _
              conv => lhs; rw [← List.take_append_drop b st]
              simp
          · refine ⟨hal.1, fun q => ?_⟩
            have h6 := hal.2 q
            have h7 : hp'.length = hp.length := by
              rw [q] at h2
              exact Nat.eq_of_beq_eq_true (by simpa using h2)
            rw [h7]
            exact h6
  | invokespecial n =>
    obtain ⟨rfl, hd⟩ := am_okDe hE1 2 rfl
    simp only [am_okX] at hE2
    unfold am_stp at h
    dsimp only at h
    have hszl : ls.size = nL := hl.1
    cases e1 : Nat.beq a 9000 with
    | true =>
      rw [e1] at h hE2
      dsimp only [cond_true] at h hE2
      have w1 : am_mkP (oc, n, a, b, c', 3) := am_mk_ok _ (List.mem_of_elem_eq_true hE2)
      obtain ⟨x, r, rfl, h⟩ := am_r1e h
      obtain ⟨h1, h9⟩ := am_te h
      rw [Bool.and_eq_true] at h1
      have hd0 : 0 < d := by
        have := Nat.le_of_ble_eq_true h1.2
        omega
      refine W.objInit hx hb hown (hts _ w1) (hts _ am_obj_ok.1) (hts _ am_obj_ok.2.1) rfl (by rw [hml]; exact hszl) rfl hd hd0 ?_ (hk _ _ _ _ _ _ h9 ls H locs hl hP hD hS hal)
      have h5 : am_cs r ≤ 8 := Nat.le_of_ble_eq_true h1.1
      show 2 * 0 + ((r.map (am_v K)).map fun v => v.category).sum + 12 ≤ 40 * d
      rw [am_cats]
      unfold am_cs at h5
      omega
    | false =>
      rw [e1] at h hE2
      dsimp only [cond_false] at h hE2
      simp only [Bool.and_eq_true, Bool.or_eq_true, decide_eq_true_eq] at hE2
      obtain ⟨hE2, hb0⟩ := hE2
      obtain ⟨h1, al', d', mc', ms', hp', hal', hd', hmc, hms, hEv, h2⟩ := am_te h
      obtain ⟨h2, h3⟩ := am_te h2
      rw [Bool.and_eq_true] at h1
      obtain ⟨x, fs, hv, hc⟩ := am_rcve h1.1
      obtain ⟨s1, s2, s3⟩ := am_split hb0 hv
      refine am_W_size (fun hsz => ?_)
      have hrd := am_rdyOf hP hS hal hsz hal'
      refine am_after (hp := hp) (hp' := hp') (r := none) (rest := st.drop b) (mc' := mc') (ms' := ms') (a := ((st.take b).reverse.map (am_v K)).toArray) X hP hD hS ?_ (fun H1 locs1 hP1 hD1 hS1 => hk _ _ _ _ _ _ h3 ls H1 locs1 hl hP1 hD1 hS1 ⟨⟨hmc, hms⟩, fun q => ?_⟩)
      · have hM := hEv l K H.size
        have h5 := am_pre (al' := al') X hP hD hS hrd ((st.take b).reverse.map (am_v K))
        rw [s2, List.map_cons] at hM h5 ⊢
        have hstk : st.map (am_v K) = ((st.take (b - 1)).reverse.map (am_v K)).reverse ++ .ref (K.2.2.1 x) :: (st.drop b).map (am_v K) := by
          conv => lhs; rw [s1]
          simp
          rfl
        rcases hE2 with hE2 | hE2
        · obtain ⟨mP, w1, w2, w4, w5, w6⟩ : am_mkP (oc, n, a, b, c', 2) := am_mk_ok _ (List.mem_of_elem_eq_true hE2)
          have hws : am_ws a = Cond.code (am_m a).1 (am_m a).2.1 (am_m a).2.2.1 none :: am_TB := by unfold am_ws; rw [w6]
          exact va_runI (b := K.2.2.1 x) (As := (st.take (b - 1)).reverse.map (am_v K)) (rest := (st.drop b).map (am_v K)) hfix hM (cwI (b - 1) hts (am_good (fun _ h => h) (am_wsTB mP)) hws rfl rfl (hts _ mP.2.1) (hts _ w1) (hts _ w2) w5 ⟨mP.2.2.1.1, mP.2.2.1.2, am_lenp w4⟩ (am_rmR hd' mP.2.2.2.1)) ⟨am_blind _, h5⟩ rfl (by rw [List.length_map, List.length_reverse]; exact s3) hl.1 hstk (am_sumle h1.2) hd ⟨hmc, hms⟩
        · obtain ⟨mP, w1, w2, w4, w5, w6⟩ : am_mkP (oc, n, a, b, c', 5) := am_mk_ok _ (List.mem_of_elem_eq_true hE2)
          have hws : am_ws a = Cond.code (am_m a).1 (am_m a).2.1 (am_m a).2.2.1 none :: am_TB := by unfold am_ws; rw [w6]
          exact va_runIN (b := K.2.2.1 x) (As := (st.take (b - 1)).reverse.map (am_v K)) (rest := (st.drop b).map (am_v K)) hfix hM ⟨va_cnB (b - 1) hts (am_good (fun _ h => h) (am_wsTB mP)) hws rfl rfl (hNx.1 _ _ _ _ w1) (hts _ mP.2.1) ⟨mP.2.2.1.1, mP.2.2.1.2, am_lenp w4⟩ (am_rmR hd' mP.2.2.2.1), w5, hts _ w2⟩ ⟨am_blind _, h5⟩ rfl (by rw [List.length_map, List.length_reverse]; exact s3) hl.1 hstk (am_sumle h1.2) hd ⟨hmc, hms⟩
      · have h6 := hal.2 q
        have h7 := Nat.eq_of_beq_eq_true h2
        refine ⟨?_, h6.2⟩
        rw [h7, h6.1]
        omega
  | _ => exact (show False from hgrp).elim
end AMC
