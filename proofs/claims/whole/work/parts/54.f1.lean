/-! ===== rows of throws by their codes; what is sought ===== -/
def fsO {α : Type} (f : Nat → Option α) : Nat → Nat → Option α
  | 0, _ => none
  | c + 1, h => match f h with
    | some x => some x
    | none => fsO f c (h + 1)
theorem fsO_s {α : Type} {f : Nat → Option α} {c h : Nat} {x : α} (e : f h = some x) : fsO f (c + 1) h = some x := by
  unfold fsO
  rw [e]
theorem fsO_n {α : Type} {f : Nat → Option α} {c h : Nat} (e : f h = none) : fsO f (c + 1) h = fsO f c (h + 1) := by
  show (match f h with | some x => some x | none => fsO f c (h + 1)) = _
  rw [e]
theorem fsO_add {α : Type} (f : Nat → Option α) : ∀ (c1 c2 h : Nat), fsO f (c1 + c2) h = (match fsO f c1 h with | some x => some x | none => fsO f c2 (h + c1))
  | 0, c2, h => by rw [Nat.zero_add]; rfl
  | c1 + 1, c2, h => by
    rw [show c1 + 1 + c2 = (c1 + c2) + 1 by omega]
    cases e : f h with
    | some x => rw [fsO_s e, fsO_s e]
    | none =>
      rw [fsO_n e, fsO_n e, fsO_add f c1 c2 (h + 1), show h + 1 + c1 = h + (c1 + 1) by omega]
theorem fsO_blk {α : Type} (f : Nat → Option α) (B : Nat) : ∀ (m a : Nat), fsO f (m * B) (B * a) = fsO (fun a => fsO f B (B * a)) m a
  | 0, a => by rw [Nat.zero_mul]; rfl
  | m + 1, a => by
    rw [show (m + 1) * B = B + m * B by rw [Nat.succ_mul, Nat.add_comm], fsO_add, show B * a + B = B * (a + 1) by rw [Nat.mul_succ], fsO_blk f B m (a + 1)]
    rfl
theorem fsO_congr {α : Type} {f g : Nat → Option α} : ∀ (c h : Nat), (∀ i, h ≤ i → i < h + c → f i = g i) → fsO f c h = fsO g c h
  | 0, _, _ => rfl
  | c + 1, h, e => by
    have ih := fsO_congr (f := f) (g := g) c (h + 1) (fun i h1 h2 => e i (by omega) (by omega))
    unfold fsO
    rw [e h (by omega) (by omega), ih]
theorem fsO_map {α β : Type} (f : Nat → Option α) (g : α → β) : ∀ (c h : Nat), fsO (fun i => (f i).map g) c h = (fsO f c h).map g
  | 0, _ => rfl
  | c + 1, h => by
    have ih := fsO_map f g c (h + 1)
    cases e : f h with
    | some x => rw [fsO_s e, fsO_s (x := g x) (by rw [e]; rfl)]; rfl
    | none => rw [fsO_n e, fsO_n (by rw [e]; rfl), ih]
theorem fsO_shift {α : Type} (f : Nat → Option α) (s : Nat) : ∀ (c h : Nat), fsO f c (s + h) = fsO (fun i => f (s + i)) c h
  | 0, _ => rfl
  | c + 1, h => by
    have ih := fsO_shift f s c (h + 1)
    cases e : f (s + h) with
    | some x => rw [fsO_s e, fsO_s (f := fun i => f (s + i)) e]
    | none => rw [fsO_n e, fsO_n (f := fun i => f (s + i)) e, ← ih]; rfl
theorem fsO_none {α : Type} {f : Nat → Option α} : ∀ (c h : Nat), (∀ i, f i = none) → fsO f c h = none
  | 0, _, _ => rfl
  | c + 1, h, e => by rw [fsO_n (e h)]; exact fsO_none c (h + 1) e
def fg (q c k : Nat) : Nat := c / 7 ^ (q - 1 - k) % 7 + 1
theorem fg_ok (q c k : Nat) : 1 ≤ fg q c k ∧ fg q c k ≤ 7 := by
  unfold fg
  omega
theorem fg_0 {q a c : Nat} (ha : a < 7) (hc : c < 7 ^ q) : fg (q + 1) (7 ^ q * a + c) 0 = a + 1 := by
  unfold fg
  rw [show q + 1 - 1 - 0 = q by omega, Nat.mul_add_div (Nat.pow_pos (by decide)), Nat.div_eq_of_lt hc]
  omega
theorem fg_s {q a c k : Nat} (hk : k < q) : fg (q + 1) (7 ^ q * a + c) (k + 1) = fg q c k := by
  unfold fg
  rw [show q + 1 - 1 - (k + 1) = q - 1 - k by omega]
  have e : 7 ^ q = 7 ^ (q - 1 - k) * 7 ^ (k + 1) := by rw [← Nat.pow_add]; congr 1; omega
  rw [e, Nat.mul_assoc, Nat.mul_add_div (Nat.pow_pos (by decide)), Nat.pow_succ, Nat.mul_comm (7 ^ k) 7, Nat.mul_assoc, Nat.mul_add_mod]
theorem thS_shift {n : Nat} {kd hs hs' : Nat → Nat} : ∀ (j k : Nat) (d : Nat → Nat), (∀ i, k ≤ i → i < k + j → hs (i + 1) = hs' i) → thS n kd hs j (k + 1) d = ((thS n kd hs' j k d).1 + 1, (thS n kd hs' j k d).2)
  | 0, _, _, _ => rfl
  | j + 1, k, d, e => by
    have ih := thS_shift (n := n) (kd := kd) (hs := hs) (hs' := hs') j (k + 1) (tosS n kd (rstS n d) (hs' k)) (fun i h1 h2 => e i (by omega) (by omega))
    unfold thS
    rw [e k (by omega) (by omega)]
    by_cases hm : mayS n kd (rstS n d) (nI (hs' k)) = true
    · rw [if_pos hm, if_pos hm, ih]
    · rw [if_neg hm, if_neg hm]
def ctS (n : Nat) (kd : Nat → Nat) (q c : Nat) (d : Nat → Nat) : Nat × (Nat → Nat) := thS n kd (fg q c) q 0 d
theorem ctS_s {n : Nat} {kd d : Nat → Nat} {q a c : Nat} (ha : a < 7) (hc : c < 7 ^ q) : ctS n kd (q + 1) (7 ^ q * a + c) d = if mayS n kd (rstS n d) (nI (a + 1)) = true then ((ctS n kd q c (tosS n kd (rstS n d) (a + 1))).1 + 1, (ctS n kd q c (tosS n kd (rstS n d) (a + 1))).2) else (0, rstS n d) := by
  unfold ctS
  show (if mayS n kd (rstS n d) (nI (fg (q + 1) (7 ^ q * a + c) 0)) = true then thS n kd (fg (q + 1) (7 ^ q * a + c)) q (0 + 1) (tosS n kd (rstS n d) (fg (q + 1) (7 ^ q * a + c) 0)) else (0, rstS n d)) = _
  rw [fg_0 ha hc, thS_shift (hs' := fg q c) q 0 _ (fun i _ h2 => fg_s (by omega))]
theorem ctS_ok {n : Nat} {kd : Nat → Nat} (hk : kdok n kd) {q c : Nat} {d : Nat → Nat} (ha : apart n d) : apart n (ctS n kd q c d).2 ∧ (ctS n kd q c d).1 ≤ q := by
  have h := thS_ok (hs := fg q c) hk q 0 d (fun i _ _ => fg_ok q c i) ha
  exact ⟨h.1, by have := h.2.2; unfold ctS; omega⟩
def digs : Nat → Nat → List Nat
  | 0, _ => []
  | q + 1, c => fg (q + 1) c 0 :: digs q (c % 7 ^ q)
theorem digs_len : ∀ (q c : Nat), (digs q c).length = q
  | 0, _ => rfl
  | q + 1, c => by
    show (digs q (c % 7 ^ q)).length + 1 = q + 1
    rw [digs_len q]
theorem digs_s {q a c : Nat} (ha : a < 7) (hc : c < 7 ^ q) : digs (q + 1) (7 ^ q * a + c) = (a + 1) :: digs q c := by
  show fg (q + 1) (7 ^ q * a + c) 0 :: digs q ((7 ^ q * a + c) % 7 ^ q) = _
  rw [fg_0 ha hc, Nat.mul_add_mod, Nat.mod_eq_of_lt hc]
theorem digs_at : ∀ (q c k : Nat), k < q → (digs q c).getD k 0 = fg q c k
  | 0, _, _, h => absurd h (Nat.not_lt_zero _)
  | q + 1, c, 0, _ => rfl
  | q + 1, c, k + 1, h => by
    show (digs q (c % 7 ^ q)).getD k 0 = _
    rw [digs_at q (c % 7 ^ q) k (by omega)]
    have e := fg_s (q := q) (a := c / 7 ^ q) (c := c % 7 ^ q) (k := k) (by omega)
    rw [Nat.div_add_mod] at e
    exact e.symm
def cmK (n : Nat) (d : Nat → Nat) (sky : Int32) : Bool := anyN (fun b => decide (skyS n (latS b d) = sky)) (mnS d n + 1)
def ldS (n : Nat) (kd : Nat → Nat) (sky : Int32) : Nat → (Nat → Nat) → Option (List Nat)
  | 0, d => if cmK n d sky = true then some [] else none
  | j + 1, d => fsO (fun h => if mayS n kd (rstS n d) (nI h) = true then (ldS n kd sky j (tosS n kd (rstS n d) h)).map (fun l => h :: l) else none) 7 1
def gdB (n : Nat) (kd : Nat → Nat) (sky : Int32) (q : Nat) (d : Nat → Nat) (c : Nat) : Bool := decide ((ctS n kd q c d).1 = q) && cmK n (ctS n kd q c d).2 sky
theorem gdB_s {n : Nat} {kd d : Nat → Nat} {sky : Int32} {q a c : Nat} (ha : a < 7) (hc : c < 7 ^ q) : gdB n kd sky (q + 1) d (7 ^ q * a + c) = (mayS n kd (rstS n d) (nI (a + 1)) && gdB n kd sky q (tosS n kd (rstS n d) (a + 1)) c) := by
  unfold gdB
  rw [ctS_s ha hc]
  by_cases hm : mayS n kd (rstS n d) (nI (a + 1)) = true
  · rw [if_pos hm, hm, Bool.true_and]
    congr 1
    exact decide_eq_decide.mpr (by constructor <;> (intro h; have h' := h; dsimp only at h' ⊢; omega))
  · rw [if_neg hm]
    rw [show mayS n kd (rstS n d) (nI (a + 1)) = false by cases h : mayS n kd (rstS n d) (nI (a + 1)) with | false => rfl | true => exact absurd h hm, Bool.false_and, decide_eq_false (by show ¬ 0 = q + 1; omega), Bool.false_and]
def opB {α : Type} (b : Bool) (x : α) : Option α := if b = true then some x else none
theorem code_ld {n : Nat} {kd : Nat → Nat} {sky : Int32} : ∀ (q : Nat) (d : Nat → Nat), fsO (fun c => opB (gdB n kd sky q d c) (digs q c)) (7 ^ q) 0 = ldS n kd sky q d
  | 0, d => by
    have e : gdB n kd sky 0 d 0 = cmK n d sky := rfl
    have e2 : ldS n kd sky 0 d = if cmK n d sky = true then some [] else none := rfl
    rw [show (7 : Nat) ^ 0 = 0 + 1 from rfl, e2]
    by_cases h : cmK n d sky = true
    · rw [fsO_s (x := []) (by show opB (gdB n kd sky 0 d 0) (digs 0 0) = some []; rw [e]; unfold opB; rw [if_pos h]; rfl), if_pos h]
    · rw [fsO_n (by show opB (gdB n kd sky 0 d 0) (digs 0 0) = none; rw [e]; unfold opB; rw [if_neg h]), if_neg h]
      rfl
  | q + 1, d => by
    rw [show 7 ^ (q + 1) = 7 * 7 ^ q by rw [Nat.pow_succ, Nat.mul_comm], show fsO (fun c => opB (gdB n kd sky (q + 1) d c) (digs (q + 1) c)) (7 * 7 ^ q) 0 = fsO (fun c => opB (gdB n kd sky (q + 1) d c) (digs (q + 1) c)) (7 * 7 ^ q) (7 ^ q * 0) by rw [Nat.mul_zero], fsO_blk]
    unfold ldS
    rw [show fsO (fun h => if mayS n kd (rstS n d) (nI h) = true then (ldS n kd sky q (tosS n kd (rstS n d) h)).map (fun l => h :: l) else none) 7 1 = fsO (fun h => if mayS n kd (rstS n d) (nI h) = true then (ldS n kd sky q (tosS n kd (rstS n d) h)).map (fun l => h :: l) else none) 7 (1 + 0) from rfl, fsO_shift]
    refine fsO_congr 7 0 (fun a _ ha => ?_)
    show fsO (fun c => opB (gdB n kd sky (q + 1) d c) (digs (q + 1) c)) (7 ^ q) (7 ^ q * a + 0) = _
    rw [fsO_shift, fsO_congr (g := fun c => if mayS n kd (rstS n d) (nI (a + 1)) = true then (opB (gdB n kd sky q (tosS n kd (rstS n d) (a + 1)) c) (digs q c)).map (fun l => (a + 1) :: l) else none) (7 ^ q) 0 (fun c _ hc => ?_)]
    · rw [Nat.add_comm 1 a]
      by_cases hm : mayS n kd (rstS n d) (nI (a + 1)) = true
      · simp only [if_pos hm]
        rw [fsO_map, code_ld q]
      · simp only [if_neg hm]
        exact fsO_none _ _ (fun _ => rfl)
    · rw [gdB_s (by omega) (by omega), digs_s (by omega) (by omega)]
      by_cases hm : mayS n kd (rstS n d) (nI (a + 1)) = true
      · rw [if_pos hm, hm, Bool.true_and]
        unfold opB
        by_cases hg : gdB n kd sky q (tosS n kd (rstS n d) (a + 1)) c = true
        · rw [if_pos hg, if_pos hg]; rfl
        · rw [if_neg hg, if_neg hg]; rfl
      · rw [if_neg hm, show mayS n kd (rstS n d) (nI (a + 1)) = false by cases h : mayS n kd (rstS n d) (nI (a + 1)) with | false => rfl | true => exact absurd h hm, Bool.false_and]
        rfl
theorem code_ld2 {n : Nat} {kd : Nat → Nat} {sky : Int32} (q : Nat) (d : Nat → Nat) : (fsO (fun c => opB (gdB n kd sky q d c) c) (7 ^ q) 0).map (digs q) = ldS n kd sky q d := by
  rw [← code_ld q d, ← fsO_map]
  refine fsO_congr _ _ (fun i _ _ => ?_)
  unfold opB
  split <;> rfl
theorem ldS_len {n : Nat} {kd : Nat → Nat} {sky : Int32} {q : Nat} {d : Nat → Nat} {l : List Nat} (h : ldS n kd sky q d = some l) : l.length = q := by
  rw [← code_ld2] at h
  cases e : fsO (fun c => opB (gdB n kd sky q d c) c) (7 ^ q) 0 with
  | none => rw [e] at h; cases h
  | some c =>
    rw [e] at h
    have h' : some (digs q c) = some l := h
    rw [← Option.some.inj h']
    exact digs_len q c
def fwS (n : Nat) (kd : Nat → Nat) (sky : Int32) (d : Nat → Nat) : Option (Nat × List Nat) := fsO (fun q => (ldS n kd sky q d).map (fun l => (q, l))) 5 0
def pth (f : Nat → Nat → Int32) (r q : Nat) (l : List Nat) : Nat → Nat → Int32 := fun a b => if a = r ∧ b < q then nI (l.getD b 0) else f a b
def spFewest (S : Sta) (sky r : Int32) : Int32 × Sta := if eN S = 0 then (-nI 4, S) else if okS sky = false then (-nI 1, S) else if okR r = false then (-nI 1, S) else match fwS (eN S) (eK S) sky (duE (eE S)) with
  | none => (-nI 9, S)
  | some (q, l) => (nI q, sR S (upd S.2.1.1 (nat r) (nI q), pth S.2.1.2 (nat r) q l))

