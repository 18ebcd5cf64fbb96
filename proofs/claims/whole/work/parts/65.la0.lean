section LWA
variable {p : Program} {l : Launch} {e : Env} {R : Room} {s : State} {m : MethodId} {args : Array Value} {below : List Frame} {meth : Method} {c : Code} {K : Am_X} {A : Nat → Prop} {oc nL : Nat} {cc : ByteArray} {rt : Option FieldType} {ini : Bool} {Q : State → Prop}
variable {pc cells slots : Nat} {ls : Array Slot} {H : Heap} {locs : List Loc}
theorem lw_after {mc' ms' : Nat} {hp hp' : List Am_C} {r : Option Value} {rest st0 : List Value} {a : Array Value} (X : am_Cx K A p s m args meth c oc nL cc rt ini) (hD : va_D A (am_w K hp)) (hS : va_S A s.heap H locs)
    (hr : va_Run p l e R s m args below meth c H locs cells slots mc' ms' (F0 m pc ls st0) rest (am_Post K hp hp' H.size r a) (am_fr K hp H.size))
    (kk : ∀ (H1 : Heap) (locs1 : List Loc), va_P K.1 am_cl (am_w K hp') H1 → va_S A s.heap H1 locs1 → H.size ≤ H1.size → (∀ q : Nat, q < H.size → ¬ am_fr K hp H.size q → H1[q]? = H[q]?) → W p l e R s m args below meth c H1 locs1 (cells + mc') (slots + ms') Q (F0 m (pc + 3) ls ((r.map (am_v K)).toList ++ rest))) :
    W p l e R s m args below meth c H locs cells slots Q (F0 m pc ls st0) := by
  obtain ⟨hx, hb, hml, hrt, hlocks, hown, hts, hK, hTb, hA, hNx, hini⟩ := X
  have hsub : ∀ q, am_fr K hp H.size q → A q := by
    intro q hq
    rcases hq with ⟨k, e, h⟩ | h
    · exact hD.2 k (q, e) h
    · exact hA q (Nat.le_trans hS.1 h)
  intro T hT Y
  obtain ⟨v, st₀, t, T', L, h0, Y', hL, e1, e2, ⟨hv, hP1, hD1, hz, hkp⟩, stp⟩ := hr T hT Y
  have hv' : v = r.map (am_v K) := by
    injection hv
  rw [h0] at hz hkp
  have hS1 : va_S A s.heap T'.heap (locs ++ L) := by
    refine ⟨Nat.le_trans hS.1 (by rw [e1]; exact hz), fun q h1 h2 => ?_, fun q hq => ?_⟩
    · rw [e1, hkp q (Nat.lt_of_lt_of_le h1 hS.1) (fun z => h2 (hsub q z))]
      exact hS.2.1 q h1 h2
    · rcases List.mem_append.mp hq with h | h
      · exact hS.2.2 q h
      · exact hsub _ (hL q h)
  obtain ⟨t2, a1, b1⟩ := kk T'.heap (locs ++ L) (by rw [e1]; exact hP1) hS1 (by rw [e1]; exact hz) (fun q h1 h2 => by rw [e1]; exact hkp q h1 h2) T' rfl Y'
  refine ⟨t2, stp t2 ?_, b1⟩
  show Steps p.tables e below (T'.setTop { (F0 m pc ls st0) with pc := pc + 3, stack := v.toList ++ rest }) t2
  rw [hv']
  exact a1
theorem lw_ints (is : List Int32) : (is.map Value.int).map (am_v K) = is.map Value.int := by
  rw [List.map_map]
  rfl
theorem lw_callV {mi idx b' ci d : Nat} {hp hp' : List Am_C} {r : Option Value} {fs rest : List Value} {is : List Int32} (X : am_Cx K A p s m args meth c 10 nL cc rt ini) (hk : am_mkP (10, idx, mi, b', ci, 0)) (hE : Am_Ev false d 0 0 mi (.ref 0 :: is.map Value.int) hp r hp') (hd : d + 1 ≤ R.frames ∧ 39 + 40 * d ≤ R.locals) (hlen : is.length + 1 = b') (hc : hp[0]? = some (.inr (ci, fs))) (hP : va_P K.1 am_cl (am_w K hp) H) (hD : va_D A (am_w K hp)) (hS : va_S A s.heap H locs) (hl : ls.size = nL) (hrest : (rest.map fun v => v.category).sum ≤ 8) (hcs : cells ≤ R.cells ∧ slots ≤ R.slots) (hdg : decode cc pc = .ok (.invokevirtual idx, 3))
    (kk : ∀ (H1 : Heap) (locs1 : List Loc), va_P K.1 am_cl (am_w K hp') H1 → va_S A s.heap H1 locs1 → H.size ≤ H1.size → (∀ q : Nat, q < H.size → ¬ am_fr K hp H.size q → H1[q]? = H[q]?) → W p l e R s m args below meth c H1 locs1 cells slots Q (F0 m (pc + 3) ls ((r.map (am_v K)).toList ++ rest))) :
    W p l e R s m args below meth c H locs cells slots Q (F0 m pc ls ((is.map Value.int).reverse ++ .ref (K.2.2.1 0) :: rest)) := by
  obtain ⟨hx, hb, hml, hrt, hlocks, hown, hts, hK, hTb, hA, hNx, hini⟩ := id X
  have hfix : CallFix p m c cc nL s args am_TB (am_own 10) := ⟨hx, hb, hml, hown, hts⟩
  obtain ⟨mP, w1, w2, w3, w4, w5, w6⟩ : am_mkP (10, idx, mi, b', ci, 0) := hk
  obtain ⟨⟨C, T, N⟩, hq⟩ := am_cl_lt w6
  have hCn : C = (am_m mi).1.cls := by rw [← (am_cl_g hq).2.2.1]; exact w5
  refine lw_after (hp := hp) (hp' := hp') (r := r) (rest := rest) (mc' := 0) (ms' := 0) (a := (.ref (K.2.2.1 0) :: is.map Value.int : List Value).toArray) X hD hS ?_ kk
  have hM := hE l K H.size
  have h5 := am_pre (al' := false) X hP hD hS (fun q => by cases q) (.ref (K.2.2.1 0) :: is.map Value.int)
  rw [List.map_cons, lw_ints] at hM
  refine va_runV (b := K.2.2.1 0) (C := C) (As := is.map Value.int) (rest := rest) hfix hM (cwV (b' - 1) hts (am_good (fun _ h => h) ?_) rfl rfl rfl ⟨hCn.symm, mP.2.2.1.1, mP.2.2.1.2, am_lenp w4⟩ ?_) ⟨am_blind _, va_recv hK hP hq (am_w_at hc), h5⟩ rfl ?_ hl rfl (lv_room hrest) hdg ⟨hcs.1, hcs.2⟩
  · intro w hw
    rw [hCn] at hw
    simp only [wsV, List.mem_append, List.mem_cons, List.not_mem_nil, or_false] at hw
    rcases hw with (rfl | rfl | rfl | rfl) | hw
    · exact w1
    · exact w2
    · exact w3
    · exact mP.2.1
    · exact am_wsTB mP w hw
  · have hm := mP.2.2.2.1
    show d + 1 ≤ R.frames ∧ 8 + ((am_m mi).2.2.1 + 11) + 40 * d ≤ R.locals
    omega
  · rw [List.length_map]
    omega
theorem lw_callI {mi idx ci d mc' ms' : Nat} {hp hp' : List Am_C} {rest : List Value} (X : am_Cx K A p s m args meth c 10 nL cc rt ini) (hk : am_mkP (10, idx, mi, 1, ci, 2)) (hE : Am_Ev true d mc' ms' mi (.ref 0 :: List.nil) hp none hp') (hd : d + 1 ≤ R.frames ∧ 39 + 40 * d ≤ R.locals) (hP : va_P K.1 am_cl (am_w K hp) H) (hD : va_D A (am_w K hp)) (hS : va_S A s.heap H locs) (hrd : ∀ k, hp.length ≤ k → K.2.2.1 k = H.size + (k - hp.length)) (hl : ls.size = nL) (hrest : (rest.map fun v => v.category).sum ≤ 8) (hcs : cells + mc' ≤ R.cells ∧ slots + ms' ≤ R.slots) (hdg : decode cc pc = .ok (.invokespecial idx, 3))
    (kk : ∀ (H1 : Heap) (locs1 : List Loc), va_P K.1 am_cl (am_w K hp') H1 → va_S A s.heap H1 locs1 → H.size ≤ H1.size → (∀ q : Nat, q < H.size → ¬ am_fr K hp H.size q → H1[q]? = H[q]?) → W p l e R s m args below meth c H1 locs1 (cells + mc') (slots + ms') Q (F0 m (pc + 3) ls rest)) :
    W p l e R s m args below meth c H locs cells slots Q (F0 m pc ls (.ref (K.2.2.1 0) :: rest)) := by
  obtain ⟨hx, hb, hml, hrt, hlocks, hown, hts, hK, hTb, hA, hNx, hini⟩ := id X
  have hfix : CallFix p m c cc nL s args am_TB (am_own 10) := ⟨hx, hb, hml, hown, hts⟩
  obtain ⟨mP, w1, w2, w4, w5, w6⟩ : am_mkP (10, idx, mi, 1, ci, 2) := hk
  have hws : am_ws mi = Cond.code (am_m mi).1 (am_m mi).2.1 (am_m mi).2.2.1 none :: am_TB := by unfold am_ws; rw [w6]
  refine lw_after (hp := hp) (hp' := hp') (r := none) (rest := rest) (mc' := mc') (ms' := ms') (a := (.ref (K.2.2.1 0) :: List.nil : List Value).toArray) X hD hS ?_ kk
  have hM := hE l K H.size
  have h5 := am_pre (al' := true) X hP hD hS (fun _ => hrd) (.ref (K.2.2.1 0) :: List.nil)
  refine va_runI (b := K.2.2.1 0) (As := List.nil) (rest := rest) hfix hM (cwI 0 hts (am_good (fun _ h => h) (am_wsTB mP)) hws rfl rfl (hts _ mP.2.1) (hts _ w1) (hts _ w2) w5 ⟨mP.2.2.1.1, mP.2.2.1.2, am_lenp w4⟩ ?_) ⟨am_blind _, h5⟩ rfl rfl hl rfl (lv_room hrest) hdg hcs
  have hm := mP.2.2.2.1
  show d + 1 ≤ R.frames ∧ 8 + ((am_m mi).2.2.1 + 11) + 40 * d ≤ R.locals
  omega
theorem lw_new {a n N : Nat} {rest : List Value} (X : am_Cx K A p s m args meth c oc nL cc rt ini) (ha : a < 8) (hN : (am_dv a).length = N) (hw : Cond.classLink (am_own oc) n (am_own a) ∈ am_TB) (hcs : cells + 1 ≤ R.cells ∧ slots + N ≤ R.slots) (hd : decode cc pc = .ok (.new n, 3))
    (kk : ∀ H1 : Heap, va_at K.1 am_cl (H.size, am_c K (.inr (a, am_dv a))) H1 → H1.size = H.size + 1 → (∀ q : Nat, q < H.size → H1[q]? = H[q]?) → W p l e R s m args below meth c H1 locs (cells + 1) (slots + N) Q (F0 m (pc + 3) ls (.ref H.size :: rest))) :
    W p l e R s m args below meth c H locs cells slots Q (F0 m pc ls rest) := by
  obtain ⟨hx, hb, hml, hrt, hlocks, hown, hts, hK, hTb, hA, hNx, hini⟩ := id X
  obtain ⟨⟨C, T, N'⟩, hq⟩ := am_cl_lt ha
  obtain ⟨g1, g2, g3, g4, g5⟩ := am_cl_g hq
  have hNN : N' = N := by rw [← g4]; exact hN
  subst hNN
  rw [g3] at hw
  refine W.newcK hx hb hown (hts _ hw) (hts _ g1) (hts _ g2) rfl hd hcs.1 hcs.2 (hK.1 a _ hq).2.1 rfl fun H1 kC hkC e1 z1 o1 => ?_
  refine kk H1 ⟨_, hq, ?_⟩ z1 o1
  have h5 := (u_born (am_Y a) hts (am_cl_ws hq) (hK.1 a _ hq) hkC e1 (fun k hk => (am_cl_f hq hk).1)).to (V' := vp_V (am_dv a)) (fun j hj => (am_cl_f hq hj).2.2.2.2)
  rw [am_dvv hq]
  exact h5
end LWA
/-! ===== two worlds side by side ===== -/
def lw_K (D : va_G) (cT : FieldType → ClassId) (tb : Nat → Nat) (z : Nat) : Am_X := (D, cT, (fun k => z + k), tb)
theorem lw_D {A : Nat → Prop} {D : va_G} {cT : FieldType → ClassId} {tb : Nat → Nat} {z : Nat} {hp : List Am_C} (hz : ∀ k, A (z + k)) : va_D A (am_w (lw_K D cT tb z) hp) := by
  refine ⟨fun i j p q h1 h2 h3 => ?_, fun k q h => ?_⟩
  · obtain ⟨c1, _, rfl⟩ := am_w_inv h1
    obtain ⟨c2, _, rfl⟩ := am_w_inv h2
    have h4 : z + i = z + j := h3
    omega
  · obtain ⟨c1, _, rfl⟩ := am_w_inv h
    exact hz k
theorem lw_frm {D : va_G} {cT : FieldType → ClassId} {tb : Nat → Nat} {z sz q : Nat} {hp : List Am_C} (h : am_fr (lw_K D cT tb z) hp sz q) : (∃ k, k < hp.length ∧ q = z + k) ∨ sz ≤ q := by
  rcases h with ⟨k, e, h⟩ | h
  · obtain ⟨c1, h1, h2⟩ := am_w_inv h
    have h3 : q = z + k := congrArg Prod.fst h2
    exact Or.inl ⟨k, (List.getElem?_eq_some_iff.mp h1).1, h3⟩
  · exact Or.inr h
theorem lw_keep {D : va_G} {cT : FieldType → ClassId} {tb : Nat → Nat} {z1 z2 : Nat} {hp1 hp2 : List Am_C} {H H1 : Heap} (hP : va_P D am_cl (am_w (lw_K D cT tb z2) hp2) H) (hk : ∀ q : Nat, q < H.size → ¬ am_fr (lw_K D cT tb z1) hp1 H.size q → H1[q]? = H[q]?) (hd : ∀ i j, i < hp1.length → j < hp2.length → ¬ z1 + i = z2 + j) : va_P D am_cl (am_w (lw_K D cT tb z2) hp2) H1 := by
  refine hP.kept (fun k q hq => ?_)
  have hlt := (hP k q hq).lt
  obtain ⟨c1, h1, rfl⟩ := am_w_inv hq
  have h2 : z2 + k < H.size := hlt
  refine hk (z2 + k) h2 (fun h => ?_)
  rcases lw_frm h with ⟨i, h3, h4⟩ | h3
  · exact hd i k h3 (List.getElem?_eq_some_iff.mp h1).1 h4.symm
  · omega
theorem RC_len {S : Sta} {hp : List Am_C} (h : RC S hp) : hp.length = 53 ∧ ∃ fs, hp[0]? = some (.inr (0, fs)) := by
  obtain ⟨I, F, rfl, _⟩ := h
  exact ⟨rfl, _, rfl⟩
theorem RM_len {S : Sta} {hp : List Am_C} (h : RM S hp) : hp.length = 12 ∧ ∃ fs, hp[0]? = some (.inr (7, fs)) := by
  obtain ⟨I, F, rfl, _⟩ := h
  exact ⟨rfl, _, rfl⟩
def lw_Sh (D : va_G) (cT : FieldType → ClassId) (tb : Nat → Nat) (z : Nat) (s : State) (S1 S2 : Sta) (H : Heap) (locs : List Loc) : Prop := ∃ hpC hpM, RC S1 hpC ∧ RM S2 hpM ∧ va_P D am_cl (am_w (lw_K D cT tb s.heap.size) hpC) H ∧ va_P D am_cl (am_w (lw_K D cT tb z) hpM) H ∧ va_S (fun q => s.heap.size ≤ q) s.heap H locs
def lw_Cx (p : Program) (s : State) (m : MethodId) (args : Array Value) (meth : Method) (c : Code) (D : va_G) (cT : FieldType → ClassId) (tb : Nat → Nat) (z b L : Nat) (xs : Nat → Int32) (cells slots : Nat) : Prop := am_Cx (lw_K D cT tb s.heap.size) (fun q => s.heap.size ≤ q) p s m args meth c 10 4 code ret false ∧ va_X b L xs s s.heap ∧ b < s.heap.size ∧ s.heap.size + 53 ≤ z ∧ L ≤ 3072 ∧ cells ≤ 600000 ∧ slots ≤ 7302250
def lw_Lv (s : State) (b z i : Nat) (ls : Array Slot) : Prop := lv_has ls 4 [(0, .ref b), (1, .ref s.heap.size), (2, .ref z), (3, .int (nI i))]
def lw_Nx (p : Program) (l : Launch) (e : Env) (s : State) (m : MethodId) (args : Array Value) (below : List Frame) (meth : Method) (c : Code) (Q : State → Prop) (D : va_G) (cT : FieldType → ClassId) (tb : Nat → Nat) (z b cells slots pc i : Nat) : Prop := ∀ (S : Sta) (H : Heap) (locs : List Loc) (ls : Array Slot), lw_Sh D cT tb z s S S H locs → lw_Lv s b z i ls → W p l e room_1 s m args below meth c H locs cells slots Q (F0 m pc ls [])
/-- an argument of a call: the script's number behind this place -/
def lw_aok (pc j : Nat) : Prop := decode code pc = .ok (.aload_n 0, 1) ∧ decode code (pc + 1) = .ok (.iload_n 3, 1) ∧ decode code (pc + 2) = .ok (.iconst (j : Int), 1) ∧ decode code (pc + 3) = .ok (.iadd, 1) ∧ decode code (pc + 4) = .ok (.iaload, 1)
section LWB
variable {p : Program} {l : Launch} {e : Env} {s : State} {m : MethodId} {args : Array Value} {below : List Frame} {meth : Method} {c : Code} {Q : State → Prop} {D : va_G} {cT : FieldType → ClassId} {tb : Nat → Nat} {z b L cells slots : Nat} {xs : Nat → Int32}
variable {pc i : Nat} {ls : Array Slot} {H : Heap} {locs : List Loc} {S1 S2 : Sta} {rest : List Value}
theorem lw_arg (hC : lw_Cx p s m args meth c D cT tb z b L xs cells slots) (hi : i + 6 ≤ L) (hl : lw_Lv s b z i ls) (hSh : lw_Sh D cT tb z s S1 S2 H locs) {j : Nat} (hj : j ≤ 5) (hd : lw_aok pc j)
    (kk : W p l e room_1 s m args below meth c H locs cells slots Q (F0 m (pc + 5) ls (.int (xs (i + j)) :: rest))) : W p l e room_1 s m args below meth c H locs cells slots Q (F0 m pc ls rest) := by
  obtain ⟨X, hX, hbl, hz, hL, hcs⟩ := hC
  obtain ⟨hpC, hpM, hR1, hR2, hP1, hP2, hS⟩ := hSh
  obtain ⟨d0, d1, d2, d3, d4⟩ := hd
  have hx := X.1
  have hb := X.2.1
  refine lv_aload_n hx hb d0 rfl (lv_at hl 0 rfl) ?_
  refine lv_iload_n hx hb d1 rfl (lv_at hl 3 rfl) ?_
  refine lv_iconst (v := nI j) hx hb d2 rfl ?_
  refine lv_iadd hx hb d3 ?_
  rw [nI_add]
  refine va_sld hx hb hX hbl (Nat.not_le.mpr hbl) hS (vp_in_nI (n := i + j) (by omega) (by omega)) d4 ?_
  rw [nI_clamp (by omega)]
  exact kk
theorem lw_first (hC : lw_Cx p s m args meth c D cT tb z b L xs cells slots) {idx mi n d : Nat} (hk : am_mkP (10, idx, mi, n, 0, 0)) (hd : d ≤ 100) (is : List Int32) (hn : is.length + 1 = n) {S1' : Sta} {r : Value} (hr : ∀ K, am_v K r = r) (hE : ∀ hp, RC S1 hp → ∃ hp', Am_Ev false d 0 0 mi (.ref 0 :: is.map Value.int) hp (some r) hp' ∧ RC S1' hp') (hSh : lw_Sh D cT tb z s S1 S2 H locs) (hl : lw_Lv s b z i ls) (hrest : (rest.map fun v => v.category).sum ≤ 8) (hdg : decode code pc = .ok (.invokevirtual idx, 3))
    (kk : ∀ (H1 : Heap) (locs1 : List Loc), lw_Sh D cT tb z s S1' S2 H1 locs1 → W p l e room_1 s m args below meth c H1 locs1 cells slots Q (F0 m (pc + 3) ls (r :: rest))) :
    W p l e room_1 s m args below meth c H locs cells slots Q (F0 m pc ls ((is.map Value.int).reverse ++ .ref s.heap.size :: rest)) := by
  obtain ⟨X, hX, hbl, hz, hL, hcs⟩ := hC
  obtain ⟨hpC, hpM, hR1, hR2, hP1, hP2, hS⟩ := hSh
  obtain ⟨hpC', hE1, hR1'⟩ := hE hpC hR1
  obtain ⟨n1, fs, hc⟩ := RC_len hR1
  obtain ⟨n2, _, _⟩ := RM_len hR2
  refine lw_callV (K := lw_K D cT tb s.heap.size) X hk hE1 ⟨by show d + 1 ≤ 2048; omega, by show 39 + 40 * d ≤ 84000; omega⟩ hn hc hP1 (lw_D (fun k => Nat.le_add_right _ _)) hS hl.1 hrest hcs hdg (fun H1 locs1 hP1' hS1 _ hkp => ?_)
  have h9 := kk H1 locs1 ⟨hpC', hpM, hR1', hR2, hP1', lw_keep hP2 hkp (fun a b h1 h2 => by omega), hS1⟩
  rw [Option.map_some, hr]
  exact h9
theorem lw_second (hC : lw_Cx p s m args meth c D cT tb z b L xs cells slots) {idx mi n d : Nat} (hk : am_mkP (10, idx, mi, n, 7, 0)) (hd : d ≤ 100) (is : List Int32) (hn : is.length + 1 = n) {S2' : Sta} {r : Value} (hr : ∀ K, am_v K r = r) (hE : ∀ hp, RM S2 hp → ∃ hp', Am_Ev false d 0 0 mi (.ref 0 :: is.map Value.int) hp (some r) hp' ∧ RM S2' hp') (hSh : lw_Sh D cT tb z s S1 S2 H locs) (hl : lw_Lv s b z i ls) (hrest : (rest.map fun v => v.category).sum ≤ 8) (hdg : decode code pc = .ok (.invokevirtual idx, 3))
    (kk : ∀ (H1 : Heap) (locs1 : List Loc), lw_Sh D cT tb z s S1 S2' H1 locs1 → W p l e room_1 s m args below meth c H1 locs1 cells slots Q (F0 m (pc + 3) ls (r :: rest))) :
    W p l e room_1 s m args below meth c H locs cells slots Q (F0 m pc ls ((is.map Value.int).reverse ++ .ref z :: rest)) := by
  obtain ⟨X, hX, hbl, hz, hL, hcs⟩ := hC
  obtain ⟨hpC, hpM, hR1, hR2, hP1, hP2, hS⟩ := hSh
  obtain ⟨hpM', hE2, hR2'⟩ := hE hpM hR2
  obtain ⟨n1, _, _⟩ := RC_len hR1
  obtain ⟨n2, fs, hc⟩ := RM_len hR2
  refine lw_callV (K := lw_K D cT tb z) X hk hE2 ⟨by show d + 1 ≤ 2048; omega, by show 39 + 40 * d ≤ 84000; omega⟩ hn hc hP2 (lw_D (fun k => by show s.heap.size ≤ z + k; omega)) hS hl.1 hrest hcs hdg (fun H1 locs1 hP2' hS1 _ hkp => ?_)
  have h9 := kk H1 locs1 ⟨hpC, hpM', hR1, hR2', lw_keep hP1 hkp (fun a b h1 h2 => by omega), hP2', hS1⟩
  rw [Option.map_some, hr]
  exact h9
end LWB
