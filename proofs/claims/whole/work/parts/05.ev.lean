/-! ===== contracts over the abstract machine ===== -/
def am_tys (K : Am_X) : List (ClassId × FieldType) := [(K.2.1 (am_ft 0), am_ft 0), (K.2.1 (am_ft 1), am_ft 1), (K.2.1 (am_ft 2), am_ft 2), (K.2.1 (am_ft 3), am_ft 3)]
def am_Tb (K : Am_X) (A : Nat → Prop) (U : State) (H : Heap) : Prop := ∀ t, t < 4 → va_T .int (K.2.2.2 t) (am_tab t).1 (fun j => .int ((am_tab t).2 j)) A U H ∧ va_Z "ThingsThrown$Kinds" (am_tabN t) "[I" (.ref (K.2.2.2 t)) A U H
def am_Nx (U : State) : Prop := (∀ (o : String) (i : Nat) (y : MethodName) (h : String), .methodLinkNest o i y h ∈ am_nest → va_Nw (.methodLinkNest o i y h) U) ∧ va_AO "ThingsThrown$Sheet" U ∧ va_AO "ThingsThrown$Evening" U
theorem am_Nx.warm {s U : State} (hW : s.WarmedH U.vm) (h : am_Nx s) : am_Nx U := ⟨fun o i y q hq => va_Nw.warmM hW (h.1 o i y q hq), h.2.1.moved hW.alike, h.2.2.moved hW.alike⟩
def am_fr (K : Am_X) (hp : List Am_C) (sz : Nat) : Nat → Prop := va_A (am_w K hp) sz
def am_rdy (K : Am_X) (hp : List Am_C) (al : Bool) (sz : Nat) : Prop := al = true → ∀ k, hp.length ≤ k → K.2.2.1 k = sz + (k - hp.length)
def am_Pre (al : Bool) (K : Am_X) (hp : List Am_C) (sz : Nat) (U : State) : Prop := U.heap.size = sz ∧ va_P K.1 am_cl (am_w K hp) U.heap ∧ va_K K.1 am_cl (am_tys K) U ∧ va_D (fun _ => True) (am_w K hp) ∧ am_Tb K (am_fr K hp sz) U U.heap ∧ am_Nx U ∧ am_rdy K hp al sz
def am_Post (K : Am_X) (hp hp' : List Am_C) (sz : Nat) (r : Option Value) : Array Value → State → Outcome → State → Prop := fun _ st oc t => oc = .returned (r.map (am_v K)) ∧ va_P K.1 am_cl (am_w K hp') t.heap ∧ va_D (am_fr K hp sz) (am_w K hp') ∧ va_F (am_fr K hp sz) st t
def am_rm (d mc ms : Nat) : Room := { frames := d, cells := mc, slots := ms, locals := 40 * d }
def am_ws (mi : Nat) : List Cond := .code (am_m mi).1 (am_m mi).2.1 (am_m mi).2.2.1 (am_m mi).2.2.2.1 :: am_TB
/-- the contract: from these arguments and cells the method answers r and leaves these cells -/
def Am_Ev (al : Bool) (d mc ms mi : Nat) (args : List Value) (hp : List Am_C) (r : Option Value) (hp' : List Am_C) : Prop := ∀ (l : Launch) (K : Am_X) (sz : Nat), Met l (am_m mi).1 (am_ws mi) (am_rm d mc ms) (va_Pc (args.map (am_v K)) (am_Pre al K hp sz)) (am_Post K hp hp' sz r) mc ms (am_fr K hp sz)
def am_tag (a : Nat) : Nat := match a with
  | 4 => 2
  | _ => 3
def am_rcv (ci : Nat) (v : Option Value) (hp : List Am_C) : Bool := match v with
  | some (.ref h) => match hp[h]? with
    | some (.inr (c, _)) => Nat.beq c ci
    | _ => false
  | _ => false
def am_stp (d mc ms : Nat) (al ini : Bool) (rt : Option FieldType) (post : Option Value → List Am_C → Nat → Nat → Prop) (k : Am_K) (i : Instr) (nx a b c pc : Nat) (loc : List (Option Value)) (st : List Value) (hp : List Am_C) (nc ns : Nat) : Prop := match i with
  | .iconst _ => am_n b a (fun v => k nx loc (.int v :: st) hp nc ns)
  | .bipush _ => am_n b a (fun v => k nx loc (.int v :: st) hp nc ns)
  | .sipush _ => am_n b a (fun v => k nx loc (.int v :: st) hp nc ns)
  | .ldc _ => am_n b a (fun v => k nx loc (.int v :: st) hp nc ns)
  | .ldc_w _ => am_n b a (fun v => k nx loc (.int v :: st) hp nc ns)
  | .lconst _ => k nx loc (.long (lN a) :: st) hp nc ns
  | .ldc2_w _ => k nx loc (.long (lN a) :: st) hp nc ns
  | .iload j => am_ld loc j (fun v => am_t (am_isI v) (k nx loc (v :: st) hp nc ns))
  | .iload_n j => am_ld loc j (fun v => am_t (am_isI v) (k nx loc (v :: st) hp nc ns))
  | .lload j => am_ld loc j (fun v => am_t (am_isL v) (k nx loc (v :: st) hp nc ns))
  | .lload_n j => am_ld loc j (fun v => am_t (am_isL v) (k nx loc (v :: st) hp nc ns))
  | .aload j => am_ld loc j (fun v => am_t (am_isR v) (k nx loc (v :: st) hp nc ns))
  | .aload_n j => am_ld loc j (fun v => am_t (am_isR v) (k nx loc (v :: st) hp nc ns))
  | .istore j => am_i1 st (fun x r => am_has loc j (am_nf (am_s1 loc j (.int x)) (fun loc' => k nx loc' r hp nc ns)))
  | .istore_n j => am_i1 st (fun x r => am_has loc j (am_nf (am_s1 loc j (.int x)) (fun loc' => k nx loc' r hp nc ns)))
  | .lstore j => am_j1 st (fun x r => am_has loc (j + 1) (am_nf (am_s2 loc j (.long x)) (fun loc' => k nx loc' r hp nc ns)))
  | .lstore_n j => am_j1 st (fun x r => am_has loc (j + 1) (am_nf (am_s2 loc j (.long x)) (fun loc' => k nx loc' r hp nc ns)))
  | .astore j => am_r1 st (fun x r => am_has loc j (am_nf (am_s1 loc j (.ref x)) (fun loc' => k nx loc' r hp nc ns)))
  | .astore_n j => am_r1 st (fun x r => am_has loc j (am_nf (am_s1 loc j (.ref x)) (fun loc' => k nx loc' r hp nc ns)))
  | .iinc j _ => am_ld loc j (fun v => am_i1 [v] (fun x _ => am_n b a (fun z => am_nf (am_s1 loc j (.int (x + z))) (fun loc' => k nx loc' st hp nc ns))))
  | .iadd => am_i2 st (fun x y r => k nx loc (.int (x + y) :: r) hp nc ns)
  | .isub => am_i2 st (fun x y r => k nx loc (.int (x - y) :: r) hp nc ns)
  | .imul => am_i2 st (fun x y r => k nx loc (.int (x * y) :: r) hp nc ns)
  | .iand => am_i2 st (fun x y r => k nx loc (.int (x &&& y) :: r) hp nc ns)
  | .ior => am_i2 st (fun x y r => k nx loc (.int (x ||| y) :: r) hp nc ns)
  | .ixor => am_i2 st (fun x y r => k nx loc (.int (x ^^^ y) :: r) hp nc ns)
  | .ishl => am_i2 st (fun x y r => k nx loc (.int (x <<< (y &&& 31)) :: r) hp nc ns)
  | .ishr => am_i2 st (fun x y r => k nx loc (.int (x >>> (y &&& 31)) :: r) hp nc ns)
  | .iushr => am_i2 st (fun x y r => k nx loc (.int (x.toUInt32 >>> (y.toUInt32 &&& Int32.toUInt32 31)).toInt32 :: r) hp nc ns)
  | .idiv => am_i2 st (fun x y r => ¬ y = 0 ∧ k nx loc (.int (x / y) :: r) hp nc ns)
  | .irem => am_i2 st (fun x y r => ¬ y = 0 ∧ k nx loc (.int (x - x / y * y) :: r) hp nc ns)
  | .ladd => am_j2 st (fun x y r => k nx loc (.long (x + y) :: r) hp nc ns)
  | .lmul => am_j2 st (fun x y r => k nx loc (.long (x * y) :: r) hp nc ns)
  | .ldiv => am_j2 st (fun x y r => ¬ y = 0 ∧ k nx loc (.long (x / y) :: r) hp nc ns)
  | .lrem => am_j2 st (fun x y r => ¬ y = 0 ∧ k nx loc (.long (x - x / y * y) :: r) hp nc ns)
  | .lcmp => am_j2 st (fun x y r => k nx loc (.int (lg_cmp x y) :: r) hp nc ns)
  | .i2l => am_i1 st (fun x r => k nx loc (.long x.toInt64 :: r) hp nc ns)
  | .l2i => am_j1 st (fun x r => k nx loc (.int x.toInt32 :: r) hp nc ns)
  | .i2b => am_i1 st (fun x r => k nx loc (.int x.toInt8.toInt32 :: r) hp nc ns)
  | .dup => match st with
    | v :: r => am_t (Nat.beq v.category 1) (k nx loc (v :: v :: r) hp nc ns)
    | _ => False
  | .pop => match st with
    | v :: r => am_t (Nat.beq v.category 1) (k nx loc r hp nc ns)
    | _ => False
  | .dup2 => match st with
    | v :: w :: r => am_t (Nat.beq v.category 1 && Nat.beq w.category 1) (k nx loc (v :: w :: v :: w :: r) hp nc ns)
    | _ => False
  | .goto _ => k a loc st hp nc ns
  | .ifCond .eq _ => am_i1 st (fun x r => (x = 0 → k a loc r hp nc ns) ∧ (¬ x = 0 → k nx loc r hp nc ns))
  | .ifCond .ne _ => am_i1 st (fun x r => (¬ x = 0 → k a loc r hp nc ns) ∧ (x = 0 → k nx loc r hp nc ns))
  | .ifCond .lt _ => am_i1 st (fun x r => (x < 0 → k a loc r hp nc ns) ∧ (¬ x < 0 → k nx loc r hp nc ns))
  | .ifCond .ge _ => am_i1 st (fun x r => (0 ≤ x → k a loc r hp nc ns) ∧ (¬ 0 ≤ x → k nx loc r hp nc ns))
  | .ifCond .gt _ => am_i1 st (fun x r => (0 < x → k a loc r hp nc ns) ∧ (¬ 0 < x → k nx loc r hp nc ns))
  | .ifCond .le _ => am_i1 st (fun x r => (x ≤ 0 → k a loc r hp nc ns) ∧ (¬ x ≤ 0 → k nx loc r hp nc ns))
  | .if_icmp .eq _ => am_i2 st (fun x y r => (x = y → k a loc r hp nc ns) ∧ (¬ x = y → k nx loc r hp nc ns))
  | .if_icmp .ne _ => am_i2 st (fun x y r => (¬ x = y → k a loc r hp nc ns) ∧ (x = y → k nx loc r hp nc ns))
  | .if_icmp .lt _ => am_i2 st (fun x y r => (x < y → k a loc r hp nc ns) ∧ (¬ x < y → k nx loc r hp nc ns))
  | .if_icmp .ge _ => am_i2 st (fun x y r => (y ≤ x → k a loc r hp nc ns) ∧ (¬ y ≤ x → k nx loc r hp nc ns))
  | .if_icmp .gt _ => am_i2 st (fun x y r => (y < x → k a loc r hp nc ns) ∧ (¬ y < x → k nx loc r hp nc ns))
  | .if_icmp .le _ => am_i2 st (fun x y r => (x ≤ y → k a loc r hp nc ns) ∧ (¬ x ≤ y → k nx loc r hp nc ns))
  | .tableswitch dflt lo hi offs => am_i1 st (fun x r => (x.toInt < lo ∨ hi < x.toInt → k ((pc : Int) + dflt).toNat loc r hp nc ns) ∧ am_sw x pc (fun t => k t loc r hp nc ns) lo offs.toList)
  | .lookupswitch dflt ps => am_i1 st (fun x r => am_lsw x pc (fun t => k t loc r hp nc ns) dflt ps.toList)
  | .getfield _ => am_r1 st (fun h r => am_ob hp h (fun ci fs => am_t (Nat.beq ci a) (match fs[b]? with
    | some v => k nx loc (v :: r) hp nc ns
    | none => False)))
  | .putfield _ => match st with
    | v :: .ref h :: r => am_ob hp h (fun ci fs => am_t (Nat.beq ci a && Nat.blt b fs.length && am_fit (am_Y a b) v && (!am_F a b || ini)) (k nx loc r (hp.set h (.inr (ci, fs.set b v))) nc ns))
    | _ => False
  | .getstatic _ => k nx loc (.retAddr a :: st) hp nc ns
  | .iaload => match st with
    | .int i :: .ref h :: r => am_ai hp h (fun n f => ∃ j, j < n ∧ i = nI j ∧ k nx loc (.int (f j) :: r) hp nc ns)
    | .int i :: .retAddr t :: r => am_t (Nat.blt t 4) (∃ j, j < 6 ∧ i = nI j ∧ k nx loc (.int ((am_tab t).2 j) :: r) hp nc ns)
    | _ => False
  | .baload => match st with
    | .int i :: .ref h :: r => am_ab hp h (fun n f => ∃ j, j < n ∧ i = nI j ∧ k nx loc (.int (f j) :: r) hp nc ns)
    | _ => False
  | .aaload => match st with
    | .int i :: .ref h :: r => am_ar hp h (fun _ n f => ∃ j q, j < n ∧ i = nI j ∧ f j = some q ∧ k nx loc (.ref q :: r) hp nc ns)
    | _ => False
  | .iastore => match st with
    | .int x :: .int i :: .ref h :: r => am_ai hp h (fun n f => ∃ j, j < n ∧ i = nI j ∧ k nx loc r (hp.set h (.inl (0, n, .inl (upd f j x)))) nc ns)
    | _ => False
  | .bastore => match st with
    | .int x :: .int i :: .ref h :: r => am_ab hp h (fun n f => ∃ j, j < n ∧ i = nI j ∧ k nx loc r (hp.set h (.inl (1, n, .inl (upd f j x.toInt8.toInt32)))) nc ns)
    | _ => False
  | .aastore => match st with
    | .ref v :: .int i :: .ref h :: r => am_ar hp h (fun t n f => am_ob hp v (fun ci _ => am_t ((Nat.beq t 2 && Nat.beq ci 4) || (Nat.beq t 3 && Nat.beq ci 2)) (∃ j, j < n ∧ i = nI j ∧ k nx loc r (hp.set h (.inl (t, n, .inr (.inr (.inr (.inr (va_up f j (some v)))))))) nc ns)))
    | _ => False
  | .arraylength => am_r1 st (fun h r => match hp[h]? with
    | some (.inl (0, n, .inl _)) => k nx loc (.int (nI n) :: r) hp nc ns
    | some (.inl (t, n, .inr (.inr (.inr (.inr _))))) => am_t (Nat.beq t 2 || Nat.beq t 3) (k nx loc (.int (nI n) :: r) hp nc ns)
    | _ => False)
  | .invokevirtual _ => am_t (am_rcv c st[b - 1]? hp && Nat.ble (am_cs (st.drop b)) 8) (∃ (d' : Nat) (r : Option Value) (hp' : List Am_C), d' < d ∧ Am_Ev false d' 0 0 a (st.take b).reverse hp r hp' ∧ am_t (!al || Nat.beq hp'.length hp.length) (k nx loc (r.toList ++ st.drop b) hp' nc ns))
  | .invokestatic _ => bif Nat.beq a 9001 then (match st with
      | .int n :: .int dp :: .ref dst :: .int sp :: .ref src :: r => am_ai hp src (fun n0 f => am_ai hp dst (fun n1 g => am_t (Nat.ble (am_cs r) 8 && Nat.blt 0 d) (∃ n' dp' sp' : Nat, n = nI n' ∧ dp = nI dp' ∧ sp = nI sp' ∧ sp' + n' ≤ n0 ∧ dp' + n' ≤ n1 ∧ k nx loc r (hp.set dst (.inl (0, n1, .inl (va_cpy f g sp' dp' n')))) nc ns)))
      | _ => False)
    else bif Nat.beq a 9002 then am_i2 st (fun x y r => am_t (Nat.ble (am_cs r) 8 && Nat.blt 0 d) (k nx loc (.int (if x < y then y else x) :: r) hp nc ns))
    else bif Nat.beq a 9003 then am_i2 st (fun x y r => am_t (Nat.ble (am_cs r) 8 && Nat.blt 0 d) (k nx loc (.int (if y < x then y else x) :: r) hp nc ns))
    else am_t (Nat.ble b st.length && Nat.ble (am_cs (st.drop b)) 8) (∃ (d' : Nat) (r : Option Value) (hp' : List Am_C), d' < d ∧ Am_Ev false d' 0 0 a (st.take b).reverse hp r hp' ∧ am_t (!al || Nat.beq hp'.length hp.length) (k nx loc (r.toList ++ st.drop b) hp' nc ns))
  | .invokespecial _ => bif Nat.beq a 9000 then am_r1 st (fun _ r => am_t (Nat.ble (am_cs r) 8 && Nat.blt 0 d) (k nx loc r hp nc ns))
    else am_t (am_rcv c st[b - 1]? hp && Nat.ble (am_cs (st.drop b)) 8) (∃ (al' : Bool) (d' mc' ms' : Nat) (hp' : List Am_C), (al' = true → al = true) ∧ d' < d ∧ nc + mc' ≤ mc ∧ ns + ms' ≤ ms ∧ Am_Ev al' d' mc' ms' a (st.take b).reverse hp none hp' ∧ am_t (Nat.beq hp'.length (hp.length + mc')) (k nx loc (st.drop b) hp' (nc + mc') (ns + ms')))
  | .new _ => am_t (al && Nat.ble (nc + 1) mc && Nat.ble (ns + b) ms && Nat.blt a 8) (k nx loc (.ref hp.length :: st) (hp ++ [.inr (a, am_dv a)]) (nc + 1) (ns + b))
  | .newarray .int => am_i1 st (fun x r => ∃ n, x = nI n ∧ am_t (al && Nat.ble n 4096 && Nat.ble (nc + 1) mc && Nat.ble (ns + n) ms) (k nx loc (.ref hp.length :: r) (hp ++ [.inl (0, n, .inl (fun _ => 0))]) (nc + 1) (ns + n)))
  | .newarray .byte => am_i1 st (fun x r => ∃ n, x = nI n ∧ am_t (al && Nat.ble n 4096 && Nat.ble (nc + 1) mc && Nat.ble (ns + n) ms) (k nx loc (.ref hp.length :: r) (hp ++ [.inl (1, n, .inl (fun _ => 0))]) (nc + 1) (ns + n)))
  | .anewarray _ => am_i1 st (fun x r => ∃ n, x = nI n ∧ am_t (al && Nat.ble n 4096 && Nat.ble (nc + 1) mc && Nat.ble (ns + n) ms) (k nx loc (.ref hp.length :: r) (hp ++ [.inl (am_tag a, n, .inr (.inr (.inr (.inr (fun _ => none)))))]) (nc + 1) (ns + n)))
  | .ireturn => match rt, st with
    | some .int, [.int v] => post (some (.int v)) hp nc ns
    | some .boolean, [.int v] => (v = nI 0 ∨ v = nI 1) ∧ post (some (.int v)) hp nc ns
    | _, _ => False
  | .lreturn => match rt, st with
    | some .long, [.long v] => post (some (.long v)) hp nc ns
    | _, _ => False
  | .return_ => match rt, st with
    | none, [] => post none hp nc ns
    | _, _ => False
  | _ => False
def am_blk (cd : List Am_E) (cuts : List Nat) (d mc ms : Nat) (al ini : Bool) (rt : Option FieldType) (post : Option Value → List Am_C → Nat → Nat → Prop) (Go : Am_K) : Nat → Am_K
  | 0 => fun _ _ _ _ _ _ => False
  | n + 1 => fun pc loc st hp nc ns => match am_lk cd pc with
    | none => False
    | some (i, nx, a, b, c) => am_stp d mc ms al ini rt post (fun pc' loc' st' hp' nc' ns' => bif cuts.elem pc' then Go pc' loc' st' hp' nc' ns' else am_blk cd cuts d mc ms al ini rt post Go n pc' loc' st' hp' nc' ns') i nx a b c pc loc st hp nc ns
