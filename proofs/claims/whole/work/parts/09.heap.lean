section AMH
variable {p : Program} {l : Launch} {e : Env} {s : State} {m : MethodId} {args : Array Value} {below : List Frame} {meth : Method} {c : Code} {K : Am_X} {A : Nat → Prop} {oc nL h0 : Nat} {cc : ByteArray} {rt : Option FieldType} {ini al : Bool} {d mc ms : Nat} {Q : State → Prop}
variable {pc : Nat} {loc : List (Option Value)} {st : List Value} {hp : List Am_C} {nc ns : Nat} {ls : Array Slot} {H : Heap} {locs : List Loc}
variable {post : Option Value → List Am_C → Nat → Nat → Prop} {k : Am_K}
theorem am_set_r {h n j t v : Nat} {f : Nat → Option Nat} (hj : j < n) (hn : n ≤ 4096) : (am_w K hp).set h (K.2.2.1 h, .inl (K.2.1 (am_ft t), n, .inr (.inr (.inr (.inr (va_up (fun j => (f j).map K.2.2.1) (nI j).toNatClampNeg (some (K.2.2.1 v)))))))) = am_w K (hp.set h (.inl (t, n, .inr (.inr (.inr (.inr (va_up f j (some v)))))))) := by
  rw [nI_clamp (by omega)]
  have he : (va_up (fun j => (f j).map K.2.2.1) j (some (K.2.2.1 v))) = (fun i => (va_up f j (some v) i).map K.2.2.1) := by
    funext i
    unfold va_up
    split <;> rfl
  rw [he]
  exact am_w_set (c := .inl (t, n, .inr (.inr (.inr (.inr (va_up f j (some v)))))))
theorem am_fl_at {n a b : Nat} (h : am_fl.elem (oc, n, a, b) = true) : ∃ C T N, am_cl[a]? = some (C, T, N) ∧ b < N ∧ Cond.fieldLink (am_own oc) n (T b).1 (T b).2.1 (T b).2.2.1 ∈ am_TB := by
  have h1 : am_flP (oc, n, a, b) := am_fl_ok _ (List.mem_of_elem_eq_true h)
  unfold am_flP at h1
  dsimp only at h1
  split at h1
  · next C T N hc => exact ⟨C, T, N, hc, h1⟩
  · exact h1.elim
set_option maxHeartbeats 4000000 in
theorem am_okH {nx a b c' : Nat} {i : Instr} (X : am_Cx K A p s m args meth c oc nL cc rt ini) (hE : am_okE oc cc (pc, i, nx, a, b, c') = true)
    (hk : ∀ pc loc st hp nc ns, k pc loc st hp nc ns → am_Go K A p l e s m args below meth c nL al h0 d mc ms Q pc loc st hp nc ns)
    (h : am_stp d mc ms al ini rt post k i nx a b c' pc loc st hp nc ns) (hgrp : am_grp i = 1) :
    am_Go K A p l e s m args below meth c nL al h0 d mc ms Q pc loc st hp nc ns := by
  obtain ⟨hx, hb, hml, hrt, hlocks, hown, hts, hK, hTb, hA, hNx, hini⟩ := id X
  unfold am_okE at hE
  rw [Bool.and_eq_true] at hE
  obtain ⟨hE1, hE2⟩ := hE
  intro ls H locs hl hP hD hS hal
  cases i with
  | getfield n =>
    obtain ⟨rfl, hd⟩ := am_okDe hE1 2 rfl
    obtain ⟨C, T, N, hcl, hbN, hlk⟩ := am_fl_at hE2
    obtain ⟨x, r, rfl, h⟩ := am_r1e h
    obtain ⟨ci, fs, hc, h⟩ := am_obe h
    obtain ⟨h1, h4⟩ := am_te h
    have h1 := Nat.eq_of_beq_eq_true h1
    rw [h1] at hc
    clear h
    split at h4
    · next v hv =>
      exact va_get (D := K.1) (cl := am_cl) (v := am_v K v) hx hb hts (am_cl_ws hcl) hown hK hP x (am_w_at hc) hcl b hbN (hts _ hlk) (fun _ h9 => h9) (by rw [List.getElem?_map, hv]; rfl) hd (hk _ _ _ _ _ _ h4 ls H locs hl hP hD hS hal)
    · exact h4.elim
  | putfield n =>
    obtain ⟨rfl, hd⟩ := am_okDe hE1 2 rfl
    simp only [am_okX, Bool.and_eq_true] at hE2
    obtain ⟨hE2, hE3⟩ := hE2
    obtain ⟨C, T, N, hcl, hbN, hlk⟩ := am_fl_at hE2
    match st, h with
    | v :: .ref x :: r, h =>
      obtain ⟨ci, fs, hc, h⟩ := am_obe h
      obtain ⟨h1, h9⟩ := am_te h
      simp only [Bool.and_eq_true] at h1
      obtain ⟨⟨⟨h1, h2⟩, h3⟩, h4⟩ := h1
      have h1 := Nat.eq_of_beq_eq_true h1
      clear h
      subst h1
      have hlt : b < fs.length := by
        have := Nat.le_of_ble_eq_true h2
        omega
      obtain ⟨f1, f2⟩ := am_fite (K := K) h3
      obtain ⟨g1, g2, g3, g4, g5⟩ := am_cl_f hcl hbN
      have kk : ∀ (H1 : Heap) (locs1 : List Loc), va_P K.1 am_cl ((am_w K hp).set x (K.2.2.1 x, .inr (ci, (fs.map (am_v K)).set b (am_v K v)))) H1 → va_D A ((am_w K hp).set x (K.2.2.1 x, .inr (ci, (fs.map (am_v K)).set b (am_v K v)))) → va_S A s.heap H1 locs1 → W p l e (am_rm d mc ms) s m args below meth c H1 locs1 nc ns Q (F0 m (pc + 3) ls (r.map (am_v K))) := fun H1 locs1 hP1 hD1 hS1 => by
        rw [am_set_o] at hP1 hD1
        exact hk _ _ _ _ _ _ h9 ls H1 locs1 hl hP1 hD1 hS1 hal.set
      cases hf : am_F ci b with
      | false =>
        exact va_put (D := K.1) (cl := am_cl) (v := am_v K v) (ty := am_Y ci b) hx hb hts (am_cl_ws hcl) (am_Y ci) (fun k hk => (am_cl_f hcl hk).1) (fun a ha b hb hne => (am_cl_f hcl ha).2.2.2.1 b hb hne) hown hK hP hD hS x (am_w_at hc) hcl b hbN (hts _ hlk) (fun _ h9 => h9) (by rw [← g2]; exact hf) g1 f1 f2 (by rw [List.length_map]; exact hlt) hd kk
      | true =>
        rw [hf] at h4 hE3
        have hini1 : ini = true := by simpa using h4
        have hoc : ci = oc := by
          have h5 : Nat.beq ci oc = true := by simpa using hE3
          exact Nat.eq_of_beq_eq_true h5
        exact va_putF (D := K.1) (cl := am_cl) (v := am_v K v) (ty := am_Y ci b) hx hb hts (am_cl_ws hcl) (am_Y ci) (fun k hk => (am_cl_f hcl hk).1) (fun a ha b hb hne => (am_cl_f hcl ha).2.2.2.1 b hb hne) hown hK hP hD hS x (am_w_at hc) hcl b hbN (hts _ hlk) (fun _ h9 => h9) (by rw [← g2]; exact hf) (hini hini1) (by rw [g3, ← (am_cl_g hcl).2.2.1, hoc]) g1 f1 f2 (by rw [List.length_map]; exact hlt) hd kk
    | [], h => exact (show False from h).elim
    | [v], h => exact (show False from h).elim
    | v :: .int _ :: r, h => exact (show False from h).elim
    | v :: .long _ :: r, h => exact (show False from h).elim
    | v :: .float _ :: r, h => exact (show False from h).elim
    | v :: .double _ :: r, h => exact (show False from h).elim
    | v :: .null :: r, h => exact (show False from h).elim
    | v :: .retAddr _ :: r, h => exact (show False from h).elim
  | getstatic n =>
    obtain ⟨rfl, hd⟩ := am_okDe hE1 2 rfl
    simp only [am_okX, Bool.and_eq_true, decide_eq_true_eq] at hE2
    exact va_gets hx hb (hTb a hE2.1).2 hS hown (hts _ hE2.2) (fun _ h9 => h9) hd (hk _ _ _ _ _ _ h ls H locs hl hP hD hS hal)
  | iaload =>
    obtain ⟨rfl, hd⟩ := am_okDe hE1 0 rfl
    unfold am_stp at h
    dsimp only at h
    split at h
    · next i x r =>
      obtain ⟨n, f, hc, hn, j, hj, rfl, h9⟩ := am_aie h
      have he : (nI j).toNatClampNeg = j := nI_clamp (by omega)
      refine va_iald (D := K.1) (cl := am_cl) hx hb hK hP x 0 (am_w_at hc) (am_tysAt (by decide)) (vp_in_nI hj (by omega)) hd ?_
      rw [he]
      exact hk _ _ _ _ _ _ h9 ls H locs hl hP hD hS hal
    · next i t r =>
      obtain ⟨h1, j, hj, rfl, h9⟩ := am_te h
      have h1 : t < 4 := by
        have := Nat.le_of_ble_eq_true h1
        omega
      have he : (nI j).toNatClampNeg = j := nI_clamp (by omega)
      refine va_ti hx hb (hTb t h1).1 hS (by rw [am_tab6]; exact vp_in_nI hj (by omega)) rfl hd ?_
      rw [he]
      exact hk _ _ _ _ _ _ h9 ls H locs hl hP hD hS hal
    · exact h.elim
  | baload =>
    obtain ⟨rfl, hd⟩ := am_okDe hE1 0 rfl
    unfold am_stp at h
    dsimp only at h
    split at h
    · next i x r =>
      obtain ⟨n, f, hc, hn, j, hj, rfl, h9⟩ := am_abe h
      have he : (nI j).toNatClampNeg = j := nI_clamp (by omega)
      refine va_bald (D := K.1) (cl := am_cl) hx hb hK hP x 1 (am_w_at hc) (am_tysAt (by decide)) (vp_in_nI hj (by omega)) hd ?_
      rw [he]
      exact hk _ _ _ _ _ _ h9 ls H locs hl hP hD hS hal
    · exact h.elim
  | aaload =>
    obtain ⟨rfl, hd⟩ := am_okDe hE1 0 rfl
    unfold am_stp at h
    dsimp only at h
    split at h
    · next i x r =>
      obtain ⟨t, n, f, hc, hn, ht, j, q, hj, rfl, hq, h9⟩ := am_are h
      have he : (nI j).toNatClampNeg = j := nI_clamp (by omega)
      have ht4 : t < 4 := by omega
      have hob : ∃ C, am_ft t = .object C := by rcases ht with rfl | rfl <;> exact ⟨_, rfl⟩
      obtain ⟨C, hC⟩ := hob
      refine va_aldq (D := K.1) (cl := am_cl) (C := C) hx hb hK hP x t (am_w_at hc) (by rw [am_tysAt ht4, hC]) (vp_in_nI hj (by omega)) hd ?_
      rw [he, hq]
      exact hk _ _ _ _ _ _ h9 ls H locs hl hP hD hS hal
    · exact h.elim
  | iastore =>
    obtain ⟨rfl, hd⟩ := am_okDe hE1 0 rfl
    unfold am_stp at h
    dsimp only at h
    split at h
    · next y i x r =>
      obtain ⟨n, f, hc, hn, j, hj, rfl, h9⟩ := am_aie h
      refine va_iast (D := K.1) (cl := am_cl) hx hb hK hP hD hS x 0 (am_w_at hc) (am_tysAt (by decide)) (vp_in_nI hj (by omega)) hd (fun H1 locs1 hP1 hD1 hS1 => ?_)
      rw [am_set_i (t := 0) hj hn] at hP1 hD1
      exact hk _ _ _ _ _ _ h9 ls H1 locs1 hl hP1 hD1 hS1 hal.set
    · exact h.elim
  | bastore =>
    obtain ⟨rfl, hd⟩ := am_okDe hE1 0 rfl
    unfold am_stp at h
    dsimp only at h
    split at h
    · next y i x r =>
      obtain ⟨n, f, hc, hn, j, hj, rfl, h9⟩ := am_abe h
      refine va_bast (D := K.1) (cl := am_cl) hx hb hK hP hD hS x 1 (am_w_at hc) (am_tysAt (by decide)) (vp_in_nI hj (by omega)) hd (fun H1 locs1 hP1 hD1 hS1 => ?_)
      rw [vp_nar_byte, am_set_i (t := 1) hj hn] at hP1 hD1
      exact hk _ _ _ _ _ _ h9 ls H1 locs1 hl hP1 hD1 hS1 hal.set
    · exact h.elim
  | aastore =>
    obtain ⟨rfl, hd⟩ := am_okDe hE1 0 rfl
    unfold am_stp at h
    dsimp only at h
    split at h
    · next v i x r =>
      obtain ⟨t, n, f, hc, hn, ht, h⟩ := am_are h
      obtain ⟨ci, fs, hv, h⟩ := am_obe h
      obtain ⟨h1, j, hj, rfl, h9⟩ := am_te h
      simp only [Bool.or_eq_true, Bool.and_eq_true] at h1
      have ht4 : t < 4 := by omega
      have hcl : ∃ q : vw_C, am_cl[ci]? = some q ∧ am_ft t = .object q.1 := by
        rcases h1 with ⟨h1, h2⟩ | ⟨h1, h2⟩
        · have h1 := Nat.eq_of_beq_eq_true h1
          have h2 := Nat.eq_of_beq_eq_true h2
          subst h1 h2
          exact ⟨_, rfl, rfl⟩
        · have h1 := Nat.eq_of_beq_eq_true h1
          have h2 := Nat.eq_of_beq_eq_true h2
          subst h1 h2
          exact ⟨_, rfl, rfl⟩
      obtain ⟨q, hq, hft⟩ := hcl
      refine va_astq (D := K.1) (cl := am_cl) hx hb hK hP hD hS x t v ci (am_w_at hc) (by rw [am_tysAt ht4, hft]) (am_w_at hv) hq (vp_in_nI hj (by omega)) hd (fun H1 locs1 hP1 hD1 hS1 => ?_)
      rw [am_set_r (t := t) hj hn] at hP1 hD1
      exact hk _ _ _ _ _ _ h9 ls H1 locs1 hl hP1 hD1 hS1 hal.set
    · exact h.elim
  | arraylength =>
    obtain ⟨rfl, hd⟩ := am_okDe hE1 0 rfl
    obtain ⟨x, r, rfl, h9⟩ := am_r1e h
    clear h
    split at h9
    · next n f hc =>
      exact va_alen (D := K.1) (cl := am_cl) (v := nI n) hx hb hK hP x 0 (am_w_at hc) (am_tysAt (by decide)) rfl hd (hk _ _ _ _ _ _ h9 ls H locs hl hP hD hS hal)
    · next t n f hc =>
      obtain ⟨h1, h⟩ := am_te h9
      simp only [Bool.or_eq_true] at h1
      have ht : t = 2 ∨ t = 3 := h1.imp Nat.eq_of_beq_eq_true Nat.eq_of_beq_eq_true
      exact va_alen (D := K.1) (cl := am_cl) (v := nI n) hx hb hK hP x t (am_w_at hc) (am_tysAt (by omega)) rfl hd (hk _ _ _ _ _ _ h ls H locs hl hP hD hS hal)
    · exact h9.elim
  | _ => first | exact absurd (show (0 : Nat) = 1 from hgrp) (by decide) | exact absurd (show (2 : Nat) = 1 from hgrp) (by decide)
end AMH
