/-! ===== the class: constructors ===== -/
theorem go_eq {Go : Am_K} {pc : Nat} {loc : List (Option Value)} {st : List Value} {hp hp' : List Am_C} {nc ns : Nat} (g : Go pc loc st hp' nc ns) (e : hp = hp') : Go pc loc st hp nc ns := by
  rw [e]
  exact g
theorem ap_push {hp R : List Am_C} {h : Nat} {V V' a : Am_C} (hh : h < hp.length) : ((hp.set h V ++ R) ++ [a]).set h V' = hp.set h V' ++ (R ++ [a]) := by
  rw [List.append_assoc, List.set_append_left _ _ (by rw [List.length_set]; exact hh), List.set_set]
theorem ap_len {hp R : List Am_C} {h : Nat} {V : Am_C} : (hp.set h V ++ R).length = hp.length + R.length := by
  rw [List.length_append, List.length_set]
theorem ap_at {hp R : List Am_C} {h : Nat} {V : Am_C} (hh : h < hp.length) : (hp.set h V ++ R)[h]? = some V := by
  rw [List.getElem?_append_left (by rw [List.length_set]; exact hh), List.getElem?_set_self hh]
theorem ap_at1 {hp R : List Am_C} {h : Nat} {V a : Am_C} (hh : h < hp.length) : ((hp.set h V ++ R) ++ [a])[h]? = some V := by
  rw [List.append_assoc]
  exact ap_at hh
theorem ap_lt {hp : List Am_C} {h : Nat} {V : Am_C} (e : hp[h]? = some V) : h < hp.length := (List.getElem?_eq_some_iff.mp e).1
theorem c_S_init (al : Bool) (hp : List Am_C) (h c : Nat) (w : Value) (z : Int32) (e : hp[h]? = some (.inr (4, [w, .int z]))) : Am_Ev al 1 0 0 6 [.ref h, .ref c] hp none (hp.set h (.inr (4, [.ref c, .int (-nI 1)]))) := by
  refine am_ev 2 none true [] ok_S_init am_mP_6 (by rw [am_m_6]) (by rw [am_m_6]) (fun _ => by rw [am_m_6]) (Nat.le_of_ble_eq_true rfl) (fun Go hG => ?_)
  have e1 : (hp.set h (.inr (4, [w, .int (-nI 1)])))[h]? = some (.inr (4, [w, .int (-nI 1)])) := am_set_at e
  refine hG 200 _ _ _ _ _ _ ?_
  refine am_ob_of e ?_
  refine am_ob_of e1 ?_
  exact ⟨rfl, by rw [List.set_set]; rfl, rfl, rfl⟩
theorem c_P_init (hp : List Am_C) (h : Nat) (e : hp[h]? = some (.inr (6, [.int 0, .null]))) : Am_Ev true 1 1 6 2 [.ref h] hp none (hp.set h (.inr (6, [.int (nI 0), .ref hp.length])) ++ [.inl (0, 6, .inl (fun _ => 0))]) := by
  refine am_ev 1 none true [9] ok_P_init am_mP_2 (by rw [am_m_2]) (by rw [am_m_2]) (fun _ => by rw [am_m_2]) (Nat.le_of_ble_eq_true rfl) (fun Go hG => ?_)
  have hh := ap_lt e
  have g9 : Go 9 [some (.ref h)] [] (hp.set h (.inr (6, [.int (nI 0), .null]))) 0 0 := by
    refine hG 200 _ _ _ _ _ _ ?_
    refine Exists.intro 6 ⟨rfl, ?_⟩
    refine am_ob_of (show (hp.set h (.inr (6, [.int (nI 0), .null])) ++ [.inl (0, 6, .inl (fun _ => 0))])[h]? = _ from ap_at hh) ?_
    refine ⟨rfl, ?_, rfl, rfl⟩
    show (hp.set h _ ++ [_]).set h (.inr (6, [.int (nI 0), .ref (hp.set h _).length])) = _
    rw [List.set_append_left _ _ (by rw [List.length_set]; exact hh), List.set_set, List.length_set]
  refine hG 200 _ _ _ _ _ _ ?_
  refine am_ob_of e ?_
  exact g9

theorem c_E_init (hp : List Am_C) (h : Nat) (e : hp[h]? = some (.inr (2, [.int 0, .int 0, .int 0, .null, .null, .null, .null]))) : Am_Ev true 1 4 126 3 [.ref h] hp none (hp.set h (.inr (2, [.int (nI 0), .int (nI 0), .int (nI 0), .ref hp.length, .ref (hp.length + 1), .ref (hp.length + 2), .ref (hp.length + 3)])) ++ [.inl (0, 6, .inl (fun _ => 0)), .inl (0, 40, .inl (fun _ => 0)), .inl (0, 40, .inl (fun _ => 0)), .inl (0, 40, .inl (fun _ => 0))]) := by
  refine am_ev 1 none true [9, 14, 19, 27, 35, 43, 51] ok_E_init am_mP_3 (by rw [am_m_3]) (by rw [am_m_3]) (fun _ => by rw [am_m_3]) (Nat.le_of_ble_eq_true rfl) (fun Go hG => ?_)
  have hh := ap_lt e
  have g51 : Go 51 [some (.ref h)] [] (hp.set h (.inr (2, [.int (nI 0), .int (nI 0), .int (nI 0), .ref hp.length, .ref (hp.length + 1), .ref (hp.length + 2), .ref (hp.length + 3)])) ++ [.inl (0, 6, .inl (fun _ => 0)), .inl (0, 40, .inl (fun _ => 0)), .inl (0, 40, .inl (fun _ => 0)), .inl (0, 40, .inl (fun _ => 0))]) 4 126 := by
    refine hG 200 _ _ _ _ _ _ ?_
    exact ⟨rfl, rfl, rfl, rfl⟩
  have g43 : Go 43 [some (.ref h)] [] (hp.set h (.inr (2, [.int (nI 0), .int (nI 0), .int (nI 0), .ref hp.length, .ref (hp.length + 1), .ref (hp.length + 2), .null])) ++ [.inl (0, 6, .inl (fun _ => 0)), .inl (0, 40, .inl (fun _ => 0)), .inl (0, 40, .inl (fun _ => 0))]) 3 86 := by
    refine hG 200 _ _ _ _ _ _ ?_
    refine Exists.intro 40 ⟨rfl, ?_⟩
    refine am_ob_of (ap_at1 hh) ?_
    refine go_eq g51 ?_
    refine (ap_push hh).trans ?_
    rw [ap_len]
    rfl
  have g35 : Go 35 [some (.ref h)] [] (hp.set h (.inr (2, [.int (nI 0), .int (nI 0), .int (nI 0), .ref hp.length, .ref (hp.length + 1), .null, .null])) ++ [.inl (0, 6, .inl (fun _ => 0)), .inl (0, 40, .inl (fun _ => 0))]) 2 46 := by
    refine hG 200 _ _ _ _ _ _ ?_
    refine Exists.intro 40 ⟨rfl, ?_⟩
    refine am_ob_of (ap_at1 hh) ?_
    refine go_eq g43 ?_
    refine (ap_push hh).trans ?_
    rw [ap_len]
    rfl
  have g27 : Go 27 [some (.ref h)] [] (hp.set h (.inr (2, [.int (nI 0), .int (nI 0), .int (nI 0), .ref hp.length, .null, .null, .null])) ++ [.inl (0, 6, .inl (fun _ => 0))]) 1 6 := by
    refine hG 200 _ _ _ _ _ _ ?_
    refine Exists.intro 40 ⟨rfl, ?_⟩
    refine am_ob_of (ap_at1 hh) ?_
    refine go_eq g35 ?_
    refine (ap_push hh).trans ?_
    rw [ap_len]
    rfl
  have g19 : Go 19 [some (.ref h)] [] (hp.set h (.inr (2, [.int (nI 0), .int (nI 0), .int (nI 0), .null, .null, .null, .null])) ++ []) 0 0 := by
    refine hG 200 _ _ _ _ _ _ ?_
    refine Exists.intro 6 ⟨rfl, ?_⟩
    refine am_ob_of (ap_at1 hh) ?_
    refine go_eq g27 ?_
    refine (ap_push hh).trans ?_
    rw [ap_len]
    rfl
  have g14 : Go 14 [some (.ref h)] [] (hp.set h (.inr (2, [.int (nI 0), .int (nI 0), .int (0), .null, .null, .null, .null]))) 0 0 := by
    refine hG 200 _ _ _ _ _ _ ?_
    refine am_ob_of (am_set_at e) ?_
    refine go_eq g19 ?_
    rw [List.set_set, List.append_nil]
    rfl
  have g9 : Go 9 [some (.ref h)] [] (hp.set h (.inr (2, [.int (nI 0), .int (0), .int (0), .null, .null, .null, .null]))) 0 0 := by
    refine hG 200 _ _ _ _ _ _ ?_
    refine am_ob_of (am_set_at e) ?_
    refine go_eq g14 ?_
    rw [List.set_set]
    rfl
  refine hG 200 _ _ _ _ _ _ ?_
  refine am_ob_of e ?_
  exact g9

theorem c_L_init : Am_Ev true 2 2 8 1 [.ref 3] [.inr (0, [.ref 1, .ref 2, .null, .null, .null, .null, .null, .null, .null, .int 0, .int 0, .long 0, .long 0]), .inl (2, 6, .inr (.inr (.inr (.inr (fun _ => none))))), .inl (2, 4, .inr (.inr (.inr (.inr (fun _ => none))))), .inr (5, [.null, .int 0])] none [.inr (0, [.ref 1, .ref 2, .null, .null, .null, .null, .null, .null, .null, .int 0, .int 0, .long 0, .long 0]), .inl (2, 6, .inr (.inr (.inr (.inr (fun _ => none))))), .inl (2, 4, .inr (.inr (.inr (.inr (fun _ => none))))), .inr (5, [.ref 4, .int (nI 0)]), .inr (6, [.int (nI 0), .ref 5]), .inl (0, 6, .inl (fun _ => 0))] := by
  refine am_ev 1 none true [] ok_L_init am_mP_1 (by rw [am_m_1]) (by rw [am_m_1]) (fun _ => by rw [am_m_1]) (Nat.le_of_ble_eq_true rfl) (fun Go hG => ?_)
  refine hG 200 _ _ _ _ _ _ ?_
  refine Exists.intro true (Exists.intro 1 (Exists.intro 1 (Exists.intro 6 (Exists.intro _ ⟨fun h => h, by decide, by decide, by decide, c_P_init _ 4 rfl, ?_⟩))))
  exact ⟨rfl, rfl, rfl, rfl⟩
theorem c_O_init : Am_Ev true 1 1 4 4 [.ref 14, .ref 6] [.inr (0, [.ref 1, .ref 2, .ref 3, .ref 6, .ref 8, .ref 13, .null, .null, .null, .int 0, .int 0, .long 0, .long 0]), .inl (2, 6, .inr (.inr (.inr (.inr (fun _ => none))))), .inl (2, 4, .inr (.inr (.inr (.inr (fun _ => none))))), .inr (5, [.ref 4, .int (nI 0)]), .inr (6, [.int (nI 0), .ref 5]), .inl (0, 6, .inl (fun _ => 0)), .inr (6, [.int (nI 0), .ref 7]), .inl (0, 6, .inl (fun _ => 0)), .inr (2, [.int (nI 0), .int (nI 0), .int (nI 0), .ref 9, .ref 10, .ref 11, .ref 12]), .inl (0, 6, .inl (fun _ => 0)), .inl (0, 40, .inl (fun _ => 0)), .inl (0, 40, .inl (fun _ => 0)), .inl (0, 40, .inl (fun _ => 0)), .inl (3, 3, .inr (.inr (.inr (.inr (fun _ => none))))), .inr (3, [.null, .int 0, .null, .int 0])] none [.inr (0, [.ref 1, .ref 2, .ref 3, .ref 6, .ref 8, .ref 13, .null, .null, .null, .int 0, .int 0, .long 0, .long 0]), .inl (2, 6, .inr (.inr (.inr (.inr (fun _ => none))))), .inl (2, 4, .inr (.inr (.inr (.inr (fun _ => none))))), .inr (5, [.ref 4, .int (nI 0)]), .inr (6, [.int (nI 0), .ref 5]), .inl (0, 6, .inl (fun _ => 0)), .inr (6, [.int (nI 0), .ref 7]), .inl (0, 6, .inl (fun _ => 0)), .inr (2, [.int (nI 0), .int (nI 0), .int (nI 0), .ref 9, .ref 10, .ref 11, .ref 12]), .inl (0, 6, .inl (fun _ => 0)), .inl (0, 40, .inl (fun _ => 0)), .inl (0, 40, .inl (fun _ => 0)), .inl (0, 40, .inl (fun _ => 0)), .inl (3, 3, .inr (.inr (.inr (.inr (fun _ => none))))), .inr (3, [.ref 6, .int (nI 0), .ref 15, .int (nI 0)]), .inl (0, 4, .inl (fun _ => 0))] := by
  refine am_ev 2 none true [] ok_O_init am_mP_4 (by rw [am_m_4]) (by rw [am_m_4]) (fun _ => by rw [am_m_4]) (Nat.le_of_ble_eq_true rfl) (fun Go hG => ?_)
  refine hG 200 _ _ _ _ _ _ ?_
  refine Exists.intro 4 ⟨rfl, ?_⟩
  exact ⟨rfl, rfl, rfl, rfl⟩
theorem c_C_init : Am_Ev true 1 0 0 5 [.ref 16, .ref 6] [.inr (0, [.ref 1, .ref 2, .ref 3, .ref 6, .ref 8, .ref 13, .ref 14, .null, .null, .int 0, .int 0, .long 0, .long 0]), .inl (2, 6, .inr (.inr (.inr (.inr (fun _ => none))))), .inl (2, 4, .inr (.inr (.inr (.inr (fun _ => none))))), .inr (5, [.ref 4, .int (nI 0)]), .inr (6, [.int (nI 0), .ref 5]), .inl (0, 6, .inl (fun _ => 0)), .inr (6, [.int (nI 0), .ref 7]), .inl (0, 6, .inl (fun _ => 0)), .inr (2, [.int (nI 0), .int (nI 0), .int (nI 0), .ref 9, .ref 10, .ref 11, .ref 12]), .inl (0, 6, .inl (fun _ => 0)), .inl (0, 40, .inl (fun _ => 0)), .inl (0, 40, .inl (fun _ => 0)), .inl (0, 40, .inl (fun _ => 0)), .inl (3, 3, .inr (.inr (.inr (.inr (fun _ => none))))), .inr (3, [.ref 6, .int (nI 0), .ref 15, .int (nI 0)]), .inl (0, 4, .inl (fun _ => 0)), .inr (1, [.null])] none [.inr (0, [.ref 1, .ref 2, .ref 3, .ref 6, .ref 8, .ref 13, .ref 14, .null, .null, .int 0, .int 0, .long 0, .long 0]), .inl (2, 6, .inr (.inr (.inr (.inr (fun _ => none))))), .inl (2, 4, .inr (.inr (.inr (.inr (fun _ => none))))), .inr (5, [.ref 4, .int (nI 0)]), .inr (6, [.int (nI 0), .ref 5]), .inl (0, 6, .inl (fun _ => 0)), .inr (6, [.int (nI 0), .ref 7]), .inl (0, 6, .inl (fun _ => 0)), .inr (2, [.int (nI 0), .int (nI 0), .int (nI 0), .ref 9, .ref 10, .ref 11, .ref 12]), .inl (0, 6, .inl (fun _ => 0)), .inl (0, 40, .inl (fun _ => 0)), .inl (0, 40, .inl (fun _ => 0)), .inl (0, 40, .inl (fun _ => 0)), .inl (3, 3, .inr (.inr (.inr (.inr (fun _ => none))))), .inr (3, [.ref 6, .int (nI 0), .ref 15, .int (nI 0)]), .inl (0, 4, .inl (fun _ => 0)), .inr (1, [.ref 6])] := by
  refine am_ev 2 none true [] ok_C_init am_mP_5 (by rw [am_m_5]) (by rw [am_m_5]) (fun _ => by rw [am_m_5]) (Nat.le_of_ble_eq_true rfl) (fun Go hG => ?_)
  refine hG 200 _ _ _ _ _ _ ?_
  exact ⟨rfl, rfl, rfl, rfl⟩

