/-! ===== the class: evenings ===== -/
/-- an evening's five cells at a place of the heap -/
def evH (hp : List Am_C) (h : Nat) (d b m : Int32) (tt da th bk : Nat → Int32) : Prop := hp[h]? = some (.inr (2, [.int d, .int b, .int m, .ref (h + 1), .ref (h + 2), .ref (h + 3), .ref (h + 4)])) ∧ hp[h + 1]? = some (.inl (0, 6, .inl tt)) ∧ hp[h + 2]? = some (.inl (0, 40, .inl da)) ∧ hp[h + 3]? = some (.inl (0, 40, .inl th)) ∧ hp[h + 4]? = some (.inl (0, 40, .inl bk))
def evW (hp : List Am_C) (h : Nat) (d b m : Int32) (tt da th bk : Nat → Int32) : List Am_C := ((((hp.set h (.inr (2, [.int d, .int b, .int m, .ref (h + 1), .ref (h + 2), .ref (h + 3), .ref (h + 4)]))).set (h + 1) (.inl (0, 6, .inl tt))).set (h + 2) (.inl (0, 40, .inl da))).set (h + 3) (.inl (0, 40, .inl th))).set (h + 4) (.inl (0, 40, .inl bk))
theorem am_sets {hp : List Am_C} {h k : Nat} {a c : Am_C} (e : hp[k]? = some a) : (hp.set h c)[k]? = if h = k then some c else some a := by
  by_cases hk : h = k
  · subst hk
    rw [if_pos rfl]
    exact am_set_at e
  · rw [if_neg hk]
    exact am_set_ne hk e
theorem evW_H {hp : List Am_C} {h : Nat} {d b m d' b' m' : Int32} {tt da th bk tt' da' th' bk' : Nat → Int32} (e : evH hp h d b m tt da th bk) : evH (evW hp h d' b' m' tt' da' th' bk') h d' b' m' tt' da' th' bk' := by
  obtain ⟨e0, e1, e2, e3, e4⟩ := e
  unfold evH evW
  refine ⟨?_, ?_, ?_, ?_, ?_⟩
  · rw [am_set_ne (by omega) (am_set_ne (by omega) (am_set_ne (by omega) (am_set_ne (by omega) (am_set_at e0))))]
  · rw [am_set_ne (by omega) (am_set_ne (by omega) (am_set_ne (by omega) (am_set_at (am_set_ne (by omega) e1))))]
  · rw [am_set_ne (by omega) (am_set_ne (by omega) (am_set_at (am_set_ne (by omega) (am_set_ne (by omega) e2))))]
  · rw [am_set_ne (by omega) (am_set_at (am_set_ne (by omega) (am_set_ne (by omega) (am_set_ne (by omega) e3))))]
  · rw [am_set_at (am_set_ne (by omega) (am_set_ne (by omega) (am_set_ne (by omega) (am_set_ne (by omega) e4))))]
theorem set_comm' {hp : List Am_C} {i j : Nat} {a b : Am_C} (h : i ≠ j) : (hp.set i a).set j b = (hp.set j b).set i a := List.set_comm a b h
theorem evW_0 {hp : List Am_C} {h : Nat} {d b m d' b' m' : Int32} {tt da th bk : Nat → Int32} : (evW hp h d b m tt da th bk).set h (.inr (2, [.int d', .int b', .int m', .ref (h + 1), .ref (h + 2), .ref (h + 3), .ref (h + 4)])) = evW hp h d' b' m' tt da th bk := by
  unfold evW
  rw [set_comm' (i := h + 4) (by omega), set_comm' (i := h + 3) (by omega), set_comm' (i := h + 2) (by omega), set_comm' (i := h + 1) (by omega), List.set_set]
theorem evW_1 {hp : List Am_C} {h : Nat} {d b m : Int32} {tt da th bk tt' : Nat → Int32} : (evW hp h d b m tt da th bk).set (h + 1) (.inl (0, 6, .inl tt')) = evW hp h d b m tt' da th bk := by
  unfold evW
  rw [set_comm' (i := h + 4) (by omega), set_comm' (i := h + 3) (by omega), set_comm' (i := h + 2) (by omega), List.set_set]
theorem evW_2 {hp : List Am_C} {h : Nat} {d b m : Int32} {tt da th bk da' : Nat → Int32} : (evW hp h d b m tt da th bk).set (h + 2) (.inl (0, 40, .inl da')) = evW hp h d b m tt da' th bk := by
  unfold evW
  rw [set_comm' (i := h + 4) (by omega), set_comm' (i := h + 3) (by omega), List.set_set]
theorem evW_3 {hp : List Am_C} {h : Nat} {d b m : Int32} {tt da th bk th' : Nat → Int32} : (evW hp h d b m tt da th bk).set (h + 3) (.inl (0, 40, .inl th')) = evW hp h d b m tt da th' bk := by
  unfold evW
  rw [set_comm' (i := h + 4) (by omega), List.set_set]
theorem evW_4 {hp : List Am_C} {h : Nat} {d b m : Int32} {tt da th bk bk' : Nat → Int32} : (evW hp h d b m tt da th bk).set (h + 4) (.inl (0, 40, .inl bk')) = evW hp h d b m tt da th bk' := by
  unfold evW
  rw [List.set_set]
theorem evW_id {hp : List Am_C} {h : Nat} {d b m : Int32} {tt da th bk : Nat → Int32} (e : evH hp h d b m tt da th bk) : evW hp h d b m tt da th bk = hp := by
  obtain ⟨e0, e1, e2, e3, e4⟩ := e
  unfold evW
  rw [set_same e0, set_same e1, set_same e2, set_same e3, set_same e4]

theorem c_E_isForgotten (hp : List Am_C) (h : Nat) (d b m : Int32) (tt da th bk : Nat → Int32) (e : evH hp h d b m tt da th bk) : Am_Ev false 0 0 0 60 [.ref h] (hp) (some (.int (b2 (decide (m < 0))))) (hp) := by
  refine am_ev 1 (some .boolean) false [] ok_E_isForgotten am_mP_60 (by rw [am_m_60]) (by rw [am_m_60]) (fun h => by cases h) (Nat.le_of_ble_eq_true rfl) ?_
  intro Go hG
  refine hG 200 _ _ _ _ _ _ ?_
  refine am_ob_of e.1 ?_
  refine And.intro (fun h1 => ?_) (fun h1 => ?_)
  · exact ⟨Or.inl rfl, by rw [decide_eq_false (Int32.not_lt.mpr h1)]; rfl, rfl, rfl, rfl⟩
  · exact ⟨Or.inr rfl, by rw [decide_eq_true (Int32.not_le.mp h1)]; rfl, rfl, rfl, rfl⟩

theorem c_E_isFull (hp : List Am_C) (h : Nat) (d b m : Int32) (tt da th bk : Nat → Int32) (e : evH hp h d b m tt da th bk) : Am_Ev false 0 0 0 55 [.ref h] (hp) (some (.int (b2 (decide (nI 40 ≤ m))))) (hp) := by
  refine am_ev 1 (some .boolean) false [] ok_E_isFull am_mP_55 (by rw [am_m_55]) (by rw [am_m_55]) (fun h => by cases h) (Nat.le_of_ble_eq_true rfl) ?_
  intro Go hG
  refine hG 200 _ _ _ _ _ _ ?_
  refine am_ob_of e.1 ?_
  refine And.intro (fun h1 => ?_) (fun h1 => ?_)
  · exact ⟨Or.inl rfl, by rw [decide_eq_false (Int32.not_le.mpr h1)]; rfl, rfl, rfl, rfl⟩
  · exact ⟨Or.inr rfl, by rw [decide_eq_true (Int32.not_lt.mp h1)]; rfl, rfl, rfl, rfl⟩

theorem c_E_forget (al : Bool) (hp : List Am_C) (h : Nat) (d b m : Int32) (tt da th bk : Nat → Int32) (e : evH hp h d b m tt da th bk) : Am_Ev al 0 0 0 7 [.ref h] hp none (evW hp h d b (-nI 1) tt da th bk) := by
  refine am_ev 1 none false [] ok_E_forget am_mP_7 (by rw [am_m_7]) (by rw [am_m_7]) (fun h => by cases h) (Nat.le_of_ble_eq_true rfl) ?_
  intro Go hG
  refine hG 200 _ _ _ _ _ _ ?_
  refine am_ob_of e.1 ?_
  refine ⟨rfl, ?_, rfl, rfl⟩
  have h1 := evW_0 (hp := hp) (h := h) (d := d) (b := b) (m := m) (d' := d) (b' := b) (m' := -nI 1) (tt := tt) (da := da) (th := th) (bk := bk)
  rw [evW_id e] at h1
  exact h1

theorem c_E_throwsMade (hp : List Am_C) (h : Nat) (d b m : Int32) (tt da th bk : Nat → Int32) (e : evH hp h d b m tt da th bk) : Am_Ev false 0 0 0 123 [.ref h] (hp) (some (.int (sumG tt 6))) (hp) := by
  refine am_ev 3 (some .int) false [4] ok_E_throwsMade am_mP_123 (by rw [am_m_123]) (by rw [am_m_123]) (fun h => by cases h) (Nat.le_of_ble_eq_true rfl) ?_
  intro Go hG
  have L : ∀ (j k : Nat), k + j = 6 → Go 4 [some (.ref h), some (.int (sumG tt k)), some (.int (nI k))] [] hp 0 0 := by
    intro j
    induction j with
    | zero =>
      intro k hk
      refine hG 200 _ _ _ _ _ _ ?_
      refine br_t (nI_le (by omega) (by omega)) ?_
      exact ⟨by rw [show k = 6 by omega], rfl, rfl, rfl⟩
    | succ j ih =>
      intro k hk
      refine hG 200 _ _ _ _ _ _ ?_
      refine br_f (nI_ge (by omega) (by omega)) ?_
      refine am_ob_of e.1 ?_
      refine am_ai_of e.2.1 rfl ?_
      refine Exists.intro k ⟨by omega, rfl, ?_⟩
      have h := ih (k + 1) (by omega)
      rw [← nI_s1] at h
      exact h
  refine hG 200 _ _ _ _ _ _ ?_
  exact L 6 0 (by omega)

theorem c_E_begin (hp : List Am_C) (h : Nat) (d b m : Int32) (tt da th bk : Nat → Int32) (e : evH hp h d b m tt da th bk) (x : Int32) : Am_Ev false 0 0 0 38 [.ref h, .int x] (hp) (none) (evW hp h x (nI 0) (nI 0) (fillF tt 0 6 (nI 0)) da th bk) := by
  refine am_ev 3 none false [17] ok_E_begin am_mP_38 (by rw [am_m_38]) (by rw [am_m_38]) (fun h => by cases h) (Nat.le_of_ble_eq_true rfl) ?_
  intro Go hG
  have L : ∀ (j k : Nat), k + j = 6 → Go 17 [some (.ref h), some (.int x), some (.int (nI k))] [] (evW hp h x (nI 0) (nI 0) (fillF tt 0 k (nI 0)) da th bk) 0 0 := by
    intro j
    induction j with
    | zero =>
      intro k hk
      refine hG 200 _ _ _ _ _ _ ?_
      refine br_t (nI_le (by omega) (by omega)) ?_
      have hk : k = 6 := by omega
      subst hk
      exact ⟨rfl, rfl, rfl, rfl⟩
    | succ j ih =>
      intro k hk
      have e2 := evW_H (d' := x) (b' := nI 0) (m' := nI 0) (tt' := fillF tt 0 k (nI 0)) (da' := da) (th' := th) (bk' := bk) e
      refine hG 200 _ _ _ _ _ _ ?_
      refine br_f (nI_ge (by omega) (by omega)) ?_
      refine am_ob_of e2.1 ?_
      refine am_ai_of e2.2.1 rfl ?_
      refine Exists.intro k ⟨by omega, rfl, ?_⟩
      have h9 := ih (k + 1) (by omega)
      have e7 := fillF_s tt 0 k (nI 0)
      rw [Nat.zero_add] at e7
      rw [← nI_s1, ← e7, ← evW_1 (tt := fillF tt 0 k (nI 0))] at h9
      exact h9
  refine hG 200 _ _ _ _ _ _ ?_
  refine am_ob_of e.1 ?_
  refine am_ob_of (am_set_at e.1) ?_
  refine am_ob_of (am_set_at (am_set_at e.1)) ?_
  have h9 := L 6 0 (by omega)
  rw [fillF_0, ← evW_0 (d := d) (b := b) (m := m), evW_id e] at h9
  show Go 17 [some (.ref h), some (.int x), some (.int (nI 0))] [] (((hp.set h (.inr (2, [.int x, .int b, .int m, .ref (h + 1), .ref (h + 2), .ref (h + 3), .ref (h + 4)]))).set h (.inr (2, [.int x, .int (nI 0), .int m, .ref (h + 1), .ref (h + 2), .ref (h + 3), .ref (h + 4)]))).set h (.inr (2, [.int x, .int (nI 0), .int (nI 0), .ref (h + 1), .ref (h + 2), .ref (h + 3), .ref (h + 4)]))) 0 0
  rw [List.set_set, List.set_set]
  exact h9

theorem c_E_enter (hp : List Am_C) (h : Nat) (d b m : Int32) (tt da th bk : Nat → Int32) (e : evH hp h d b m tt da th bk) (q : Nat) (x t c : Int32) (hm : m = nI q) (hq : q < 40) (ht : t = -nI 9 ∨ ∃ z, z < 6 ∧ t = nI z) : Am_Ev false 1 0 0 59 [.ref h, .int x, .int t, .int c] (hp) (none) (evW hp h x (b + c) (m + nI 1) (if t = -nI 9 then tt else upd tt (nat t) (tt (nat t) + nI 1)) (upd da q d) (upd th q t) (upd bk q c)) := by
  refine am_ev 4 none false [28, 38, 48, 58, 63, 73] ok_E_enter am_mP_59 (by rw [am_m_59]) (by rw [am_m_59]) (fun h => by cases h) (Nat.le_of_ble_eq_true rfl) ?_
  intro Go hG
  have hf := c_E_isForgotten hp h d b m tt da th bk e
  rw [decide_eq_false (show ¬ m < 0 by rw [hm]; exact nI_pos (by omega))] at hf
  have hu := c_E_isFull hp h d b m tt da th bk e
  rw [decide_eq_false (show ¬ nI 40 ≤ m by rw [hm]; exact nI_ge hq (by omega))] at hu
  have e1 : evH (evW hp h d b m tt (upd da q d) th bk) h d b m tt (upd da q d) th bk := evW_H e
  have e2 : evH (evW hp h d b m tt (upd da q d) (upd th q t) bk) h d b m tt (upd da q d) (upd th q t) bk := evW_H e
  have e3 : evH (evW hp h d b m tt (upd da q d) (upd th q t) (upd bk q c)) h d b m tt (upd da q d) (upd th q t) (upd bk q c) := evW_H e
  have e4 : evH (evW hp h d b (m + nI 1) tt (upd da q d) (upd th q t) (upd bk q c)) h d b (m + nI 1) tt (upd da q d) (upd th q t) (upd bk q c) := evW_H e
  have e5 : evH (evW hp h x b (m + nI 1) tt (upd da q d) (upd th q t) (upd bk q c)) h x b (m + nI 1) tt (upd da q d) (upd th q t) (upd bk q c) := evW_H e
  have e6 : evH (evW hp h x (b + c) (m + nI 1) tt (upd da q d) (upd th q t) (upd bk q c)) h x (b + c) (m + nI 1) tt (upd da q d) (upd th q t) (upd bk q c) := evW_H e
  refine hG 200 _ _ _ _ _ _ ?_
  refine am_vt e.1 rfl ?_
  refine Exists.intro 0 (Exists.intro _ (Exists.intro _ ⟨by decide, hf, ?_⟩))
  refine bn_f rfl ?_
  refine am_vt e.1 rfl ?_
  refine Exists.intro 0 (Exists.intro _ (Exists.intro _ ⟨by decide, hu, ?_⟩))
  refine br_t rfl ?_
  refine am_ob_of e.1 ?_
  refine am_ob_of e.1 ?_
  refine am_ob_of e.1 ?_
  refine am_ai_of e.2.2.1 rfl ?_
  refine Exists.intro q ⟨hq, hm, ?_⟩
  show Go 28 [some (.ref h), some (.int x), some (.int t), some (.int c)] [] (hp.set (h + 2) (.inl (0, 40, .inl (upd da q d)))) 0 0
  rw [← evW_id e, evW_2]
  refine hG 200 _ _ _ _ _ _ ?_
  refine am_ob_of e1.1 ?_
  refine am_ob_of e1.1 ?_
  refine am_ai_of e1.2.2.2.1 rfl ?_
  refine Exists.intro q ⟨hq, hm, ?_⟩
  show Go 38 [some (.ref h), some (.int x), some (.int t), some (.int c)] [] ((evW hp h d b m tt (upd da q d) th bk).set (h + 3) (.inl (0, 40, .inl (upd th q t)))) 0 0
  rw [evW_3]
  refine hG 200 _ _ _ _ _ _ ?_
  refine am_ob_of e2.1 ?_
  refine am_ob_of e2.1 ?_
  refine am_ai_of e2.2.2.2.2 rfl ?_
  refine Exists.intro q ⟨hq, hm, ?_⟩
  show Go 48 [some (.ref h), some (.int x), some (.int t), some (.int c)] [] ((evW hp h d b m tt (upd da q d) (upd th q t) bk).set (h + 4) (.inl (0, 40, .inl (upd bk q c)))) 0 0
  rw [evW_4]
  refine hG 200 _ _ _ _ _ _ ?_
  refine am_ob_of e3.1 ?_
  refine am_ob_of e3.1 ?_
  show Go 58 [some (.ref h), some (.int x), some (.int t), some (.int c)] [] ((evW hp h d b m tt (upd da q d) (upd th q t) (upd bk q c)).set h (.inr (2, [.int d, .int b, .int (m + nI 1), .ref (h + 1), .ref (h + 2), .ref (h + 3), .ref (h + 4)]))) 0 0
  rw [evW_0]
  refine hG 200 _ _ _ _ _ _ ?_
  refine am_ob_of e4.1 ?_
  show Go 63 [some (.ref h), some (.int x), some (.int t), some (.int c)] [] ((evW hp h d b (m + nI 1) tt (upd da q d) (upd th q t) (upd bk q c)).set h (.inr (2, [.int x, .int b, .int (m + nI 1), .ref (h + 1), .ref (h + 2), .ref (h + 3), .ref (h + 4)]))) 0 0
  rw [evW_0]
  refine hG 200 _ _ _ _ _ _ ?_
  refine am_ob_of e5.1 ?_
  refine am_ob_of e5.1 ?_
  show Go 73 [some (.ref h), some (.int x), some (.int t), some (.int c)] [] ((evW hp h x b (m + nI 1) tt (upd da q d) (upd th q t) (upd bk q c)).set h (.inr (2, [.int x, .int (b + c), .int (m + nI 1), .ref (h + 1), .ref (h + 2), .ref (h + 3), .ref (h + 4)]))) 0 0
  rw [evW_0]
  refine hG 200 _ _ _ _ _ _ ?_
  rcases ht with ht | ⟨z, hz, ht⟩
  · refine br_t ht ?_
    refine ⟨rfl, ?_, rfl, rfl⟩
    rw [if_pos ht]
  · subst ht
    refine br_f (nI_m9 (by omega)) ?_
    refine am_ob_of e6.1 ?_
    refine am_ai_of e6.2.1 rfl ?_
    refine Exists.intro z ⟨hz, rfl, ?_⟩
    refine am_ai_of e6.2.1 rfl ?_
    refine Exists.intro z ⟨hz, rfl, ?_⟩
    refine ⟨rfl, ?_, rfl, rfl⟩
    rw [if_neg (nI_m9 (by omega)), nat_nI (by omega)]
    exact evW_1

theorem evH_other {hp : List Am_C} {h h2 : Nat} {d b m d2 b2 m2 : Int32} {tt da th bk tt2 da2 th2 bk2 : Nat → Int32} (hd : h + 5 ≤ h2 ∨ h2 + 5 ≤ h) (e : evH hp h2 d2 b2 m2 tt2 da2 th2 bk2) : evH (evW hp h d b m tt da th bk) h2 d2 b2 m2 tt2 da2 th2 bk2 := by
  obtain ⟨e0, e1, e2, e3, e4⟩ := e
  unfold evH evW
  refine ⟨?_, ?_, ?_, ?_, ?_⟩
  · exact am_set_ne (by omega) (am_set_ne (by omega) (am_set_ne (by omega) (am_set_ne (by omega) (am_set_ne (by omega) e0))))
  · exact am_set_ne (by omega) (am_set_ne (by omega) (am_set_ne (by omega) (am_set_ne (by omega) (am_set_ne (by omega) e1))))
  · exact am_set_ne (by omega) (am_set_ne (by omega) (am_set_ne (by omega) (am_set_ne (by omega) (am_set_ne (by omega) e2))))
  · exact am_set_ne (by omega) (am_set_ne (by omega) (am_set_ne (by omega) (am_set_ne (by omega) (am_set_ne (by omega) e3))))
  · exact am_set_ne (by omega) (am_set_ne (by omega) (am_set_ne (by omega) (am_set_ne (by omega) (am_set_ne (by omega) e4))))
def undT (th : Nat → Int32) : Nat → Nat → (Nat → Int32) → (Nat → Int32)
  | 0, _, tt => tt
  | j + 1, q, tt => undT th j (q - 1) (if th (q - 1) = -nI 9 then tt else upd tt (nat (th (q - 1))) (tt (nat (th (q - 1))) - nI 1))
def undB (bk : Nat → Int32) : Nat → Nat → Int32 → Int32
  | 0, _, b => b
  | j + 1, q, b => undB bk j (q - 1) (b - bk (q - 1))
theorem m1_lt (t : Nat) (h : t ≤ 40) : nI t - nI 1 < nI t := by
  rw [Int32.lt_iff_toInt_lt, pk_sub_toInt (by omega) (by omega), nI_toInt (by omega)]
  omega

theorem c_E_takeBack (hp : List Am_C) (h : Nat) (d b m : Int32) (tt da th bk : Nat → Int32) (e : evH hp h d b m tt da th bk) (M t : Nat) (hm : m = nI M) (hM : M ≤ 40) (ht : t ≤ M) (hth : ∀ z, z < M → th z = -nI 9 ∨ ∃ y, y < 6 ∧ th z = nI y) : Am_Ev false 0 0 0 68 [.ref h, .int (nI t)] hp none (evW hp h (if M - t = 0 then d else da t) (undB bk (M - t) M b) (nI t) (undT th (M - t) M tt) da th bk) := by
  refine am_ev 3 none false [7, 26, 41, 67, 72] ok_E_takeBack am_mP_68 (by rw [am_m_68]) (by rw [am_m_68]) (fun h => by cases h) (Nat.le_of_ble_eq_true rfl) ?_
  intro Go hG
  have L : ∀ (j q : Nat) (d1 b1 : Int32) (t1 : Nat → Int32), t + j = q → q ≤ M → (if j = 0 then d1 else da t) = (if M - t = 0 then d else da t) → undB bk j q b1 = undB bk (M - t) M b → undT th j q t1 = undT th (M - t) M tt → Go 7 [some (.ref h), some (.int (nI t)), some (.int (nI q - nI 1))] [] (evW hp h d1 b1 (nI q) t1 da th bk) 0 0 := by
    intro j
    induction j with
    | zero =>
      intro q d1 b1 t1 hq hqM h1 h2 h3
      refine hG 200 _ _ _ _ _ _ ?_
      have hqt : q = t := by omega
      subst hqt
      refine br_t (m1_lt q (by omega)) ?_
      rw [← h1, ← h2, ← h3, if_pos rfl]
      exact ⟨rfl, rfl, rfl, rfl⟩
    | succ j ih =>
      intro q d1 b1 t1 hq hqM h1 h2 h3
      have eq1 : nI q - nI 1 = nI (q - 1) := pk_sub (by omega)
      rw [eq1]
      have E1 : evH (evW hp h d1 b1 (nI q) t1 da th bk) h d1 b1 (nI q) t1 da th bk := evW_H e
      have E2 : evH (evW hp h (da (q - 1)) b1 (nI q) t1 da th bk) h (da (q - 1)) b1 (nI q) t1 da th bk := evW_H e
      have E3 : evH (evW hp h (da (q - 1)) (b1 - bk (q - 1)) (nI q) t1 da th bk) h (da (q - 1)) (b1 - bk (q - 1)) (nI q) t1 da th bk := evW_H e
      refine hG 200 _ _ _ _ _ _ ?_
      refine br_f (nI_nlt (by omega) (by omega)) ?_
      refine br_f (nI_pos (by omega)) ?_
      refine am_ob_of E1.1 ?_
      refine am_ai_of E1.2.2.1 rfl ?_
      refine Exists.intro (q - 1) ⟨by omega, rfl, ?_⟩
      refine am_ob_of E1.1 ?_
      show Go 26 [some (.ref h), some (.int (nI t)), some (.int (nI (q - 1)))] [] ((evW hp h d1 b1 (nI q) t1 da th bk).set h (.inr (2, [.int (da (q - 1)), .int b1, .int (nI q), .ref (h + 1), .ref (h + 2), .ref (h + 3), .ref (h + 4)]))) 0 0
      rw [evW_0]
      refine hG 200 _ _ _ _ _ _ ?_
      refine am_ob_of E2.1 ?_
      refine am_ob_of E2.1 ?_
      refine am_ai_of E2.2.2.2.2 rfl ?_
      refine Exists.intro (q - 1) ⟨by omega, rfl, ?_⟩
      refine am_ob_of E2.1 ?_
      show Go 41 [some (.ref h), some (.int (nI t)), some (.int (nI (q - 1)))] [] ((evW hp h (da (q - 1)) b1 (nI q) t1 da th bk).set h (.inr (2, [.int (da (q - 1)), .int (b1 - bk (q - 1)), .int (nI q), .ref (h + 1), .ref (h + 2), .ref (h + 3), .ref (h + 4)]))) 0 0
      rw [evW_0]
      have key : ∀ t2, t2 = (if th (q - 1) = -nI 9 then t1 else upd t1 (nat (th (q - 1))) (t1 (nat (th (q - 1))) - nI 1)) → Go 67 [some (.ref h), some (.int (nI t)), some (.int (nI (q - 1)))] [] (evW hp h (da (q - 1)) (b1 - bk (q - 1)) (nI q) t2 da th bk) 0 0 := by
        intro t2 ht2
        have E4 : evH (evW hp h (da (q - 1)) (b1 - bk (q - 1)) (nI q) t2 da th bk) h (da (q - 1)) (b1 - bk (q - 1)) (nI q) t2 da th bk := evW_H e
        refine hG 200 _ _ _ _ _ _ ?_
        refine am_ob_of E4.1 ?_
        show Go 72 [some (.ref h), some (.int (nI t)), some (.int (nI (q - 1)))] [] ((evW hp h (da (q - 1)) (b1 - bk (q - 1)) (nI q) t2 da th bk).set h (.inr (2, [.int (da (q - 1)), .int (b1 - bk (q - 1)), .int (nI (q - 1)), .ref (h + 1), .ref (h + 2), .ref (h + 3), .ref (h + 4)]))) 0 0
        rw [evW_0]
        refine hG 200 _ _ _ _ _ _ ?_
        have h9 := ih (q - 1) (da (q - 1)) (b1 - bk (q - 1)) t2 (by omega) (by omega) (by
          rw [← h1, if_neg (Nat.succ_ne_zero j)]
          by_cases hj : j = 0
          · rw [if_pos hj]
            congr 1
            omega
          · rw [if_neg hj]) h2 (by rw [ht2]; exact h3)
        rw [Int32.sub_eq_add_neg] at h9
        exact h9
      refine hG 200 _ _ _ _ _ _ ?_
      refine am_ob_of E3.1 ?_
      refine am_ai_of E3.2.2.2.1 rfl ?_
      refine Exists.intro (q - 1) ⟨by omega, rfl, ?_⟩
      rcases hth (q - 1) (by omega) with h9 | ⟨y, hy, h9⟩
      · refine br_t h9 ?_
        exact key t1 (by rw [if_pos h9])
      · refine br_f (by rw [h9]; exact nI_m9 (by omega)) ?_
        refine am_ob_of E3.1 ?_
        refine am_ob_of E3.1 ?_
        refine am_ai_of E3.2.2.2.1 rfl ?_
        refine Exists.intro (q - 1) ⟨by omega, rfl, ?_⟩
        refine am_ai_of E3.2.1 rfl ?_
        refine Exists.intro y ⟨hy, h9, ?_⟩
        refine am_ai_of E3.2.1 rfl ?_
        refine Exists.intro y ⟨hy, h9, ?_⟩
        show Go 67 [some (.ref h), some (.int (nI t)), some (.int (nI (q - 1)))] [] ((evW hp h (da (q - 1)) (b1 - bk (q - 1)) (nI q) t1 da th bk).set (h + 1) (.inl (0, 6, .inl (upd t1 y (t1 y - nI 1))))) 0 0
        rw [evW_1]
        refine key _ ?_
        rw [if_neg (by rw [h9]; exact nI_m9 (by omega)), h9, nat_nI (by omega)]
  refine hG 200 _ _ _ _ _ _ ?_
  refine am_ob_of e.1 ?_
  have h9 := L (M - t) M d b tt (by omega) (Nat.le_refl _) rfl rfl rfl
  rw [← hm, evW_id e] at h9
  exact h9

theorem c_E_takeFrom (hp : List Am_C) (h h2 : Nat) (d b m d2 b2 m2 : Int32) (tt da th bk tt2 da2 th2 bk2 : Nat → Int32) (hd : h + 5 ≤ h2 ∨ h2 + 5 ≤ h) (e : evH hp h d b m tt da th bk) (f : evH hp h2 d2 b2 m2 tt2 da2 th2 bk2) : Am_Ev false 1 0 0 71 [.ref h, .ref h2] (hp) (none) (evW hp h d2 b2 m2 (va_cpy tt2 tt 0 0 6) (va_cpy da2 da 0 0 40) (va_cpy th2 th 0 0 40) (va_cpy bk2 bk 0 0 40)) := by
  refine am_ev 2 none false [8, 16, 24, 39, 54, 69] ok_E_takeFrom am_mP_71 (by rw [am_m_71]) (by rw [am_m_71]) (fun h => by cases h) (Nat.le_of_ble_eq_true rfl) ?_
  intro Go hG
  have E0 : evH (evW hp h d b m tt da th bk) h d b m tt da th bk := evW_H e
  have F0 : evH (evW hp h d b m tt da th bk) h2 d2 b2 m2 tt2 da2 th2 bk2 := evH_other hd f
  have E1 : evH (evW hp h d2 b m tt da th bk) h d2 b m tt da th bk := evW_H e
  have F1 : evH (evW hp h d2 b m tt da th bk) h2 d2 b2 m2 tt2 da2 th2 bk2 := evH_other hd f
  have E2 : evH (evW hp h d2 b2 m tt da th bk) h d2 b2 m tt da th bk := evW_H e
  have F2 : evH (evW hp h d2 b2 m tt da th bk) h2 d2 b2 m2 tt2 da2 th2 bk2 := evH_other hd f
  have E3 : evH (evW hp h d2 b2 m2 tt da th bk) h d2 b2 m2 tt da th bk := evW_H e
  have F3 : evH (evW hp h d2 b2 m2 tt da th bk) h2 d2 b2 m2 tt2 da2 th2 bk2 := evH_other hd f
  have E4 : evH (evW hp h d2 b2 m2 (va_cpy tt2 tt 0 0 6) da th bk) h d2 b2 m2 (va_cpy tt2 tt 0 0 6) da th bk := evW_H e
  have F4 : evH (evW hp h d2 b2 m2 (va_cpy tt2 tt 0 0 6) da th bk) h2 d2 b2 m2 tt2 da2 th2 bk2 := evH_other hd f
  have E5 : evH (evW hp h d2 b2 m2 (va_cpy tt2 tt 0 0 6) (va_cpy da2 da 0 0 40) th bk) h d2 b2 m2 (va_cpy tt2 tt 0 0 6) (va_cpy da2 da 0 0 40) th bk := evW_H e
  have F5 : evH (evW hp h d2 b2 m2 (va_cpy tt2 tt 0 0 6) (va_cpy da2 da 0 0 40) th bk) h2 d2 b2 m2 tt2 da2 th2 bk2 := evH_other hd f
  have E6 : evH (evW hp h d2 b2 m2 (va_cpy tt2 tt 0 0 6) (va_cpy da2 da 0 0 40) (va_cpy th2 th 0 0 40) bk) h d2 b2 m2 (va_cpy tt2 tt 0 0 6) (va_cpy da2 da 0 0 40) (va_cpy th2 th 0 0 40) bk := evW_H e
  have F6 : evH (evW hp h d2 b2 m2 (va_cpy tt2 tt 0 0 6) (va_cpy da2 da 0 0 40) (va_cpy th2 th 0 0 40) bk) h2 d2 b2 m2 tt2 da2 th2 bk2 := evH_other hd f
  have E7 : evH (evW hp h d2 b2 m2 (va_cpy tt2 tt 0 0 6) (va_cpy da2 da 0 0 40) (va_cpy th2 th 0 0 40) (va_cpy bk2 bk 0 0 40)) h d2 b2 m2 (va_cpy tt2 tt 0 0 6) (va_cpy da2 da 0 0 40) (va_cpy th2 th 0 0 40) (va_cpy bk2 bk 0 0 40) := evW_H e
  have F7 : evH (evW hp h d2 b2 m2 (va_cpy tt2 tt 0 0 6) (va_cpy da2 da 0 0 40) (va_cpy th2 th 0 0 40) (va_cpy bk2 bk 0 0 40)) h2 d2 b2 m2 tt2 da2 th2 bk2 := evH_other hd f
  have g0 : Go 0 [some (.ref h), some (.ref h2)] [] (evW hp h d b m tt da th bk) 0 0 := by
    refine hG 200 _ _ _ _ _ _ ?_
    refine am_ob_of F0.1 ?_
    refine am_ob_of E0.1 ?_
    show Go 8 [some (.ref h), some (.ref h2)] [] ((evW hp h d b m tt da th bk).set h (.inr (2, [.int d2, .int b, .int m, .ref (h + 1), .ref (h + 2), .ref (h + 3), .ref (h + 4)]))) 0 0
    rw [evW_0]
    refine hG 200 _ _ _ _ _ _ ?_
    refine am_ob_of F1.1 ?_
    refine am_ob_of E1.1 ?_
    show Go 16 [some (.ref h), some (.ref h2)] [] ((evW hp h d2 b m tt da th bk).set h (.inr (2, [.int d2, .int b2, .int m, .ref (h + 1), .ref (h + 2), .ref (h + 3), .ref (h + 4)]))) 0 0
    rw [evW_0]
    refine hG 200 _ _ _ _ _ _ ?_
    refine am_ob_of F2.1 ?_
    refine am_ob_of E2.1 ?_
    show Go 24 [some (.ref h), some (.ref h2)] [] ((evW hp h d2 b2 m tt da th bk).set h (.inr (2, [.int d2, .int b2, .int m2, .ref (h + 1), .ref (h + 2), .ref (h + 3), .ref (h + 4)]))) 0 0
    rw [evW_0]
    refine hG 200 _ _ _ _ _ _ ?_
    refine am_ob_of F3.1 ?_
    refine am_ob_of E3.1 ?_
    refine am_ai_of F3.2.1 rfl ?_
    refine am_ai_of E3.2.1 rfl ?_
    refine Exists.intro 6 (Exists.intro 0 (Exists.intro 0 ⟨rfl, rfl, rfl, by omega, by omega, ?_⟩))
    show Go 39 [some (.ref h), some (.ref h2)] [] ((evW hp h d2 b2 m2 tt da th bk).set (h + 1) (.inl (0, 6, .inl (va_cpy tt2 tt 0 0 6)))) 0 0
    rw [evW_1]
    refine hG 200 _ _ _ _ _ _ ?_
    refine am_ob_of F4.1 ?_
    refine am_ob_of E4.1 ?_
    refine am_ai_of F4.2.2.1 rfl ?_
    refine am_ai_of E4.2.2.1 rfl ?_
    refine Exists.intro 40 (Exists.intro 0 (Exists.intro 0 ⟨rfl, rfl, rfl, by omega, by omega, ?_⟩))
    show Go 54 [some (.ref h), some (.ref h2)] [] ((evW hp h d2 b2 m2 (va_cpy tt2 tt 0 0 6) da th bk).set (h + 2) (.inl (0, 40, .inl (va_cpy da2 da 0 0 40)))) 0 0
    rw [evW_2]
    refine hG 200 _ _ _ _ _ _ ?_
    refine am_ob_of F5.1 ?_
    refine am_ob_of E5.1 ?_
    refine am_ai_of F5.2.2.2.1 rfl ?_
    refine am_ai_of E5.2.2.2.1 rfl ?_
    refine Exists.intro 40 (Exists.intro 0 (Exists.intro 0 ⟨rfl, rfl, rfl, by omega, by omega, ?_⟩))
    show Go 69 [some (.ref h), some (.ref h2)] [] ((evW hp h d2 b2 m2 (va_cpy tt2 tt 0 0 6) (va_cpy da2 da 0 0 40) th bk).set (h + 3) (.inl (0, 40, .inl (va_cpy th2 th 0 0 40)))) 0 0
    rw [evW_3]
    refine hG 200 _ _ _ _ _ _ ?_
    refine am_ob_of F6.1 ?_
    refine am_ob_of E6.1 ?_
    refine am_ai_of F6.2.2.2.2 rfl ?_
    refine am_ai_of E6.2.2.2.2 rfl ?_
    refine Exists.intro 40 (Exists.intro 0 (Exists.intro 0 ⟨rfl, rfl, rfl, by omega, by omega, ?_⟩))
    exact ⟨rfl, evW_4, rfl, rfl⟩
  rw [evW_id e] at g0
  exact g0

