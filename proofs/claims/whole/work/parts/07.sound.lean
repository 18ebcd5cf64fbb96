/-! ===== the abstract machine is sound: what it asks of an instruction is what the machine does ===== -/
def am_Cx (K : Am_X) (A : Nat → Prop) (p : Program) (s : State) (m : MethodId) (args : Array Value) (meth : Method) (c : Code) (oc nL : Nat) (cc : ByteArray) (rt : Option FieldType) (ini : Bool) : Prop :=
  p.tables.exec = Jvm.exec ∧ c.code = cc ∧ c.maxLocals = nL ∧ meth.sig.returnType = rt ∧ meth.locks = false ∧ s.vm.findClass (am_own oc) = some m.cls ∧ (∀ w ∈ am_TB, w.before args s = true) ∧ va_K K.1 am_cl (am_tys K) s ∧ am_Tb K A s s.heap ∧ (∀ q, s.heap.size ≤ q → A q) ∧ am_Nx s ∧ (ini = true → meth.name = "<init>")
def am_Al (K : Am_X) (s : State) (al : Bool) (h0 mc ms : Nat) (hp : List Am_C) (nc ns : Nat) : Prop := (nc ≤ mc ∧ ns ≤ ms) ∧ (al = true → hp.length = h0 + nc ∧ ∀ k, h0 ≤ k → K.2.2.1 k = s.heap.size + (k - h0))
def am_Go (K : Am_X) (A : Nat → Prop) (p : Program) (l : Launch) (e : Env) (s : State) (m : MethodId) (args : Array Value) (below : List Frame) (meth : Method) (c : Code) (nL : Nat) (al : Bool) (h0 d mc ms : Nat) (Q : State → Prop) : Am_K := fun pc loc st hp nc ns =>
  ∀ (ls : Array Slot) (H : Heap) (locs : List Loc), am_R K ls nL loc → va_P K.1 am_cl (am_w K hp) H → va_D A (am_w K hp) → va_S A s.heap H locs → am_Al K s al h0 mc ms hp nc ns → W p l e (am_rm d mc ms) s m args below meth c H locs nc ns Q (F0 m pc ls (st.map (am_v K)))
theorem am_tab6 (t : Nat) : (am_tab t).1 = 6 := by
  unfold am_tab
  split <;> rfl
theorem am_Al.set {K : Am_X} {s : State} {al : Bool} {h0 mc ms : Nat} {hp : List Am_C} {nc ns h : Nat} {c : Am_C} (hal : am_Al K s al h0 mc ms hp nc ns) : am_Al K s al h0 mc ms (hp.set h c) nc ns := ⟨hal.1, fun q => by
  rw [List.length_set]
  exact hal.2 q⟩
theorem am_W_size {p : Program} {l : Launch} {e : Env} {R : Room} {s : State} {m : MethodId} {args : Array Value} {below : List Frame} {meth : Method} {c : Code} {H : Heap} {locs : List Loc} {cells slots : Nat} {Q : State → Prop} {g : JFrame} (kk : H.size ≤ s.heap.size + cells → W p l e R s m args below meth c H locs cells slots Q g) : W p l e R s m args below meth c H locs cells slots Q g := by
  intro T hT X
  have h1 : (T.setVm s.vm).heap.size ≤ s.heap.size + cells := X.same.2.2.1
  have h2 : (T.setVm s.vm).heap = H := hT
  rw [h2] at h1
  exact kk h1 T hT X
theorem am_size {K : Am_X} {A : Nat → Prop} {s : State} {h0 : Nat} {hp : List Am_C} {nc : Nat} {H : Heap} {locs : List Loc} (hP : va_P K.1 am_cl (am_w K hp) H) (hS : va_S A s.heap H locs) (hal : hp.length = h0 + nc ∧ ∀ k, h0 ≤ k → K.2.2.1 k = s.heap.size + (k - h0)) (hle : H.size ≤ s.heap.size + nc) : H.size = K.2.2.1 hp.length := by
  have h1 : K.2.2.1 hp.length = s.heap.size + nc := by rw [hal.2 hp.length (by omega)]; omega
  rw [h1]
  refine Nat.le_antisymm hle ?_
  by_cases hn : nc = 0
  · subst hn
    exact hS.1
  · have hlt : hp.length - 1 < hp.length := by omega
    have h2 := (hP (hp.length - 1) _ (am_w_at (List.getElem?_eq_getElem hlt))).lt
    have h3 : K.2.2.1 (hp.length - 1) = s.heap.size + (hp.length - 1 - h0) := hal.2 _ (by omega)
    have h4 : K.2.2.1 (hp.length - 1) < H.size := h2
    omega
section AMS
variable {p : Program} {l : Launch} {e : Env} {s : State} {m : MethodId} {args : Array Value} {below : List Frame} {meth : Method} {c : Code} {K : Am_X} {A : Nat → Prop} {oc nL h0 : Nat} {cc : ByteArray} {rt : Option FieldType} {ini al : Bool} {d mc ms : Nat} {Q : State → Prop}
variable {pc : Nat} {loc : List (Option Value)} {st : List Value} {hp : List Am_C} {nc ns : Nat} {ls : Array Slot} {H : Heap} {locs : List Loc}
/-- a contract is used at a call: the world of the callee is the caller's own -/
theorem am_pre {al' : Bool} {hp : List Am_C} (X : am_Cx K A p s m args meth c oc nL cc rt ini) (hP : va_P K.1 am_cl (am_w K hp) H) (hD : va_D A (am_w K hp)) (hS : va_S A s.heap H locs) (hr : al' = true → ∀ k, hp.length ≤ k → K.2.2.1 k = H.size + (k - hp.length)) (av : List Value) : ∀ U : State, U.heap = H → s.WarmedH U.vm → va_Pc av (am_Pre al' K hp H.size) av.toArray U := by
  obtain ⟨hx, hb, hml, hrt, hlocks, hown, hts, hK, hTb, hA, hNx, hini⟩ := X
  intro U hU hW
  refine ⟨rfl, by rw [hU], by rw [hU]; exact hP, va_K.moved hW.alike hK, hD.weaken (fun _ _ _ _ => trivial), fun t ht => ?_, hNx.warm hW, hr⟩
  have hsub : ∀ q, am_fr K hp H.size q → A q := by
    intro q hq
    rcases hq with ⟨k, e, h⟩ | h
    · exact hD.2 k (q, e) h
    · exact hA q (Nat.le_trans hS.1 h)
  have hkp : ∀ a : Nat, a < s.heap.size → ¬ A a → U.heap[a]? = s.heap[a]? := fun a h1 h2 => by rw [hU]; exact hS.2.1 a h1 h2
  exact ⟨((((hTb t ht).1.kept hkp).moved hW.alike).narrow hsub), ((((hTb t ht).2.kept hkp).moved hW.alike).narrow hsub)⟩
theorem am_blind {al' : Bool} {hp : List Am_C} {sz : Nat} (av : List Value) : FrameBlind (va_Pc av (am_Pre al' K hp sz)) := by
  intro a U g mk q
  obtain ⟨q0, q1, qP, qK, qD, qT, qN, qr⟩ := q
  have hal : U.vm.Alike (U.calling g mk a).vm := Vm.Alike.refl U.vm
  refine ⟨q0, q1, qP, va_K.moved (u := U) (U := U.calling g mk a) hal qK, qD, fun t ht => ⟨(qT t ht).1.moved hal, (qT t ht).2.moved hal⟩, ?_, qr⟩
  exact ⟨fun o i y h hh => va_Nw.same rfl (show U.vm = (U.calling g mk a).vm from rfl) (qN.1 o i y h hh), qN.2.1.moved hal, qN.2.2.moved hal⟩
/-- behind a call -/
theorem am_after {mc' ms' : Nat} {hp hp' : List Am_C} {r : Option Value} {rest st0 : List Value} {a : Array Value} (X : am_Cx K A p s m args meth c oc nL cc rt ini) (hP : va_P K.1 am_cl (am_w K hp) H) (hD : va_D A (am_w K hp)) (hS : va_S A s.heap H locs)
    (hr : va_Run p l e (am_rm d mc ms) s m args below meth c H locs nc ns mc' ms' (F0 m pc ls st0) (rest.map (am_v K)) (am_Post K hp hp' H.size r a) (am_fr K hp H.size))
    (kk : ∀ (H1 : Heap) (locs1 : List Loc), va_P K.1 am_cl (am_w K hp') H1 → va_D A (am_w K hp') → va_S A s.heap H1 locs1 → W p l e (am_rm d mc ms) s m args below meth c H1 locs1 (nc + mc') (ns + ms') Q (F0 m (pc + 3) ls ((r.toList ++ rest).map (am_v K)))) :
    W p l e (am_rm d mc ms) s m args below meth c H locs nc ns Q (F0 m pc ls st0) := by
  obtain ⟨hx, hb, hml, hrt, hlocks, hown, hts, hK, hTb, hA, hNx, hini⟩ := X
  have hsub : ∀ q, am_fr K hp H.size q → A q := by
    intro q hq
    rcases hq with ⟨k, e, h⟩ | h
    · exact hD.2 k (q, e) h
    · exact hA q (Nat.le_trans hS.1 h)
  intro T hT Y
  obtain ⟨v, st₀, t, T', L, h0, Y', hL, e1, e2, ⟨hv, hP1, hD1, hz, hkp⟩, stp⟩ := hr T hT Y
  have hv' : v = r.map (am_v K) := by
    injection hv
  rw [h0] at hz hkp
  have hS1 : va_S A s.heap T'.heap (locs ++ L) := by
    refine ⟨Nat.le_trans hS.1 (by rw [e1]; exact hz), fun q h1 h2 => ?_, fun q hq => ?_⟩
    · rw [e1, hkp q (Nat.lt_of_lt_of_le h1 hS.1) (fun z => h2 (hsub q z))]
      exact hS.2.1 q h1 h2
    · rcases List.mem_append.mp hq with h | h
      · exact hS.2.2 q h
      · exact hsub _ (hL q h)
  obtain ⟨t2, a1, b1⟩ := kk T'.heap (locs ++ L) (by rw [e1]; exact hP1) (hD1.weaken (fun k q _ h => hsub q.1 h)) hS1 T' rfl Y'
  refine ⟨t2, stp t2 ?_, b1⟩
  have he : v.toList ++ rest.map (am_v K) = (r.toList ++ rest).map (am_v K) := by
    rw [hv']
    cases r <;> simp
  show Steps p.tables e below (T'.setTop { (F0 m pc ls st0) with pc := pc + 3, stack := v.toList ++ rest.map (am_v K) }) t2
  rw [he]
  exact a1
end AMS
