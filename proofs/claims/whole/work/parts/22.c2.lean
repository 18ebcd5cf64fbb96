/-! ===== the class: its cells; sheets; rows and texts ===== -/
def rfR : Nat → Option Nat := fun r => if r < 6 then some (18 + 2 * r) else none
def rfT : Nat → Option Nat := fun r => if r < 4 then some (30 + 2 * r) else none
def rfE : Nat → Option Nat := fun r => if r < 3 then some (38 + 5 * r) else none
theorem rfR_at {r : Nat} (h : r < 6) : rfR r = some (18 + 2 * r) := if_pos h
theorem rfT_at {r : Nat} (h : r < 4) : rfT r = some (30 + 2 * r) := if_pos h
theorem rfE_at {r : Nat} (h : r < 3) : rfE r = some (38 + 5 * r) := if_pos h
def cH (I : Nat → Int32) (F : Nat → Nat → Int32) (u v : Int64) : List Am_C := [.inr (0, [.ref 1, .ref 2, .ref 3, .ref 6, .ref 8, .ref 13, .ref 14, .ref 16, .ref 17, .int (I 9), .int (I 10), .long u, .long v]), .inl (2, 6, .inr (.inr (.inr (.inr rfR)))), .inl (2, 4, .inr (.inr (.inr (.inr rfT)))), .inr (5, [.ref 4, .int (I 20)]), .inr (6, [.int (I 21), .ref 5]), .inl (0, 6, .inl (F 5)), .inr (6, [.int (I 22), .ref 7]), .inl (0, 6, .inl (F 7)), .inr (2, [.int (I 30), .int (I 31), .int (I 32), .ref 9, .ref 10, .ref 11, .ref 12]), .inl (0, 6, .inl (F 9)), .inl (0, 40, .inl (F 10)), .inl (0, 40, .inl (F 11)), .inl (0, 40, .inl (F 12)), .inl (3, 3, .inr (.inr (.inr (.inr rfE)))), .inr (3, [.ref 6, .int (I 23), .ref 15, .int (I 24)]), .inl (0, 4, .inl (F 15)), .inr (1, [.ref 6]), .inl (0, 6, .inl (F 17)), .inr (4, [.ref 19, .int (I 60)]), .inl (0, 40, .inl (F 19)), .inr (4, [.ref 21, .int (I 61)]), .inl (0, 40, .inl (F 21)), .inr (4, [.ref 23, .int (I 62)]), .inl (0, 40, .inl (F 23)), .inr (4, [.ref 25, .int (I 63)]), .inl (0, 40, .inl (F 25)), .inr (4, [.ref 27, .int (I 64)]), .inl (0, 40, .inl (F 27)), .inr (4, [.ref 29, .int (I 65)]), .inl (0, 40, .inl (F 29)), .inr (4, [.ref 31, .int (I 70)]), .inl (0, 60, .inl (F 31)), .inr (4, [.ref 33, .int (I 71)]), .inl (0, 60, .inl (F 33)), .inr (4, [.ref 35, .int (I 72)]), .inl (0, 60, .inl (F 35)), .inr (4, [.ref 37, .int (I 73)]), .inl (0, 60, .inl (F 37)), .inr (2, [.int (I 40), .int (I 41), .int (I 42), .ref 39, .ref 40, .ref 41, .ref 42]), .inl (0, 6, .inl (F 39)), .inl (0, 40, .inl (F 40)), .inl (0, 40, .inl (F 41)), .inl (0, 40, .inl (F 42)), .inr (2, [.int (I 43), .int (I 44), .int (I 45), .ref 44, .ref 45, .ref 46, .ref 47]), .inl (0, 6, .inl (F 44)), .inl (0, 40, .inl (F 45)), .inl (0, 40, .inl (F 46)), .inl (0, 40, .inl (F 47)), .inr (2, [.int (I 46), .int (I 47), .int (I 48), .ref 49, .ref 50, .ref 51, .ref 52]), .inl (0, 6, .inl (F 49)), .inl (0, 40, .inl (F 50)), .inl (0, 40, .inl (F 51)), .inl (0, 40, .inl (F 52))]
theorem cH_row {I : Nat → Int32} {F : Nat → Nat → Int32} {u v : Int64} {r : Nat} (h : r < 6) : (cH I F u v)[18 + 2 * r]? = some (.inr (4, [.ref (19 + 2 * r), .int (I (60 + r))])) := by
  rcases (show (r = 0 ∨ r = 1 ∨ r = 2 ∨ r = 3 ∨ r = 4 ∨ r = 5) by omega) with rfl | rfl | rfl | rfl | rfl | rfl <;> rfl
theorem cH_rowc {I : Nat → Int32} {F : Nat → Nat → Int32} {u v : Int64} {r : Nat} (h : r < 6) : (cH I F u v)[19 + 2 * r]? = some (.inl (0, 40, .inl (F (19 + 2 * r)))) := by
  rcases (show (r = 0 ∨ r = 1 ∨ r = 2 ∨ r = 3 ∨ r = 4 ∨ r = 5) by omega) with rfl | rfl | rfl | rfl | rfl | rfl <;> rfl
theorem cH_rows {I : Nat → Int32} {F : Nat → Nat → Int32} {u v : Int64} {r : Nat} (h : r < 6) (x : Int32) : (cH I F u v).set (18 + 2 * r) (.inr (4, [.ref (19 + 2 * r), .int x])) = cH (upd I (60 + r) x) F u v := by
  rcases (show (r = 0 ∨ r = 1 ∨ r = 2 ∨ r = 3 ∨ r = 4 ∨ r = 5) by omega) with rfl | rfl | rfl | rfl | rfl | rfl <;> rfl
theorem cH_rowcs {I : Nat → Int32} {F : Nat → Nat → Int32} {u v : Int64} {r : Nat} (h : r < 6) (g : Nat → Int32) : (cH I F u v).set (19 + 2 * r) (.inl (0, 40, .inl g)) = cH I (va_up F (19 + 2 * r) g) u v := by
  rcases (show (r = 0 ∨ r = 1 ∨ r = 2 ∨ r = 3 ∨ r = 4 ∨ r = 5) by omega) with rfl | rfl | rfl | rfl | rfl | rfl <;> rfl
theorem cH_txt {I : Nat → Int32} {F : Nat → Nat → Int32} {u v : Int64} {r : Nat} (h : r < 4) : (cH I F u v)[30 + 2 * r]? = some (.inr (4, [.ref (31 + 2 * r), .int (I (70 + r))])) := by
  rcases (show (r = 0 ∨ r = 1 ∨ r = 2 ∨ r = 3) by omega) with rfl | rfl | rfl | rfl <;> rfl
theorem cH_txtc {I : Nat → Int32} {F : Nat → Nat → Int32} {u v : Int64} {r : Nat} (h : r < 4) : (cH I F u v)[31 + 2 * r]? = some (.inl (0, 60, .inl (F (31 + 2 * r)))) := by
  rcases (show (r = 0 ∨ r = 1 ∨ r = 2 ∨ r = 3) by omega) with rfl | rfl | rfl | rfl <;> rfl
theorem cH_txts {I : Nat → Int32} {F : Nat → Nat → Int32} {u v : Int64} {r : Nat} (h : r < 4) (x : Int32) : (cH I F u v).set (30 + 2 * r) (.inr (4, [.ref (31 + 2 * r), .int x])) = cH (upd I (70 + r) x) F u v := by
  rcases (show (r = 0 ∨ r = 1 ∨ r = 2 ∨ r = 3) by omega) with rfl | rfl | rfl | rfl <;> rfl
theorem cH_txtcs {I : Nat → Int32} {F : Nat → Nat → Int32} {u v : Int64} {r : Nat} (h : r < 4) (g : Nat → Int32) : (cH I F u v).set (31 + 2 * r) (.inl (0, 60, .inl g)) = cH I (va_up F (31 + 2 * r) g) u v := by
  rcases (show (r = 0 ∨ r = 1 ∨ r = 2 ∨ r = 3) by omega) with rfl | rfl | rfl | rfl <;> rfl
theorem in3_false {x : Int32} {a b : Nat} (ha : a < 2 ^ 31) (hb : b < 2 ^ 31) (h : x.toInt < a ∨ (b : Int) < x.toInt) : in3 x (nI a) (nI b) = false := by
  unfold in3
  rcases h with h | h
  · rw [decide_eq_false, Bool.false_and]
    rw [Int32.le_iff_toInt_le, nI_toInt ha]
    omega
  · rw [show decide (x ≤ nI b) = false from decide_eq_false (by rw [Int32.le_iff_toInt_le, nI_toInt hb]; omega), Bool.and_false]
theorem in3_true {x : Int32} {a b : Nat} (ha : a < 2 ^ 31) (hb : b < 2 ^ 31) (h1 : (a : Int) ≤ x.toInt) (h2 : x.toInt ≤ b) : in3 x (nI a) (nI b) = true := by
  unfold in3
  rw [decide_eq_true (by rw [Int32.le_iff_toInt_le, nI_toInt ha]; exact h1), decide_eq_true (by rw [Int32.le_iff_toInt_le, nI_toInt hb]; exact h2)]
  rfl
theorem lt0 {x : Int32} : x < 0 ↔ x.toInt < 0 := by rw [Int32.lt_iff_toInt_lt]; rfl
theorem geN {x : Int32} {a : Nat} (ha : a < 2 ^ 31) : nI a ≤ x ↔ (a : Int) ≤ x.toInt := by rw [Int32.le_iff_toInt_le, nI_toInt ha]
theorem gtN {x : Int32} {a : Nat} (ha : a < 2 ^ 31) : nI a < x ↔ (a : Int) < x.toInt := by rw [Int32.lt_iff_toInt_lt, nI_toInt ha]
theorem ltN {x : Int32} {a : Nat} (ha : a < 2 ^ 31) : x < nI a ↔ x.toInt < a := by rw [Int32.lt_iff_toInt_lt, nI_toInt ha]

theorem c_T_isRow (hp : List Am_C) (x : Int32) : Am_Ev false 0 0 0 9 [.int x] (hp) (some (.int (b2 (in3 x (nI 0) (nI 5))))) (hp) := by
  refine am_ev 1 (some .boolean) false [] ok_T_isRow am_mP_9 (by rw [am_m_9]) (by rw [am_m_9]) (fun h => by cases h) (Nat.le_of_ble_eq_true rfl) ?_
  intro Go hG
  refine hG 200 _ _ _ _ _ _ ?_
  refine And.intro (fun h1 => ?_) (fun h1 => And.intro (fun h2 => ?_) (fun h2 => ?_))
  · exact ⟨Or.inl rfl, by rw [in3_false (by decide) (by decide) (Or.inl (lt0.mp h1))]; rfl, rfl, rfl, rfl⟩
  · exact ⟨Or.inl rfl, by rw [in3_false (by decide) (by decide) (Or.inr (by have := (geN (by decide)).mp h2; omega))]; rfl, rfl, rfl, rfl⟩
  · exact ⟨Or.inr rfl, by rw [in3_true (by decide) (by decide) (by have : ¬ x.toInt < 0 := fun q => h1 (lt0.mpr q); omega) (by have : ¬ ((6 : Nat) : Int) ≤ x.toInt := fun q => h2 ((geN (a := 6) (by decide)).mpr q); omega)]; rfl, rfl, rfl, rfl⟩

theorem c_T_isText (hp : List Am_C) (x : Int32) : Am_Ev false 0 0 0 24 [.int x] (hp) (some (.int (b2 (in3 x (nI 0) (nI 3))))) (hp) := by
  refine am_ev 1 (some .boolean) false [] ok_T_isText am_mP_24 (by rw [am_m_24]) (by rw [am_m_24]) (fun h => by cases h) (Nat.le_of_ble_eq_true rfl) ?_
  intro Go hG
  refine hG 200 _ _ _ _ _ _ ?_
  refine And.intro (fun h1 => ?_) (fun h1 => And.intro (fun h2 => ?_) (fun h2 => ?_))
  · exact ⟨Or.inl rfl, by rw [in3_false (by decide) (by decide) (Or.inl (lt0.mp h1))]; rfl, rfl, rfl, rfl⟩
  · exact ⟨Or.inl rfl, by rw [in3_false (by decide) (by decide) (Or.inr (by have := (geN (by decide)).mp h2; omega))]; rfl, rfl, rfl, rfl⟩
  · exact ⟨Or.inr rfl, by rw [in3_true (by decide) (by decide) (by have : ¬ x.toInt < 0 := fun q => h1 (lt0.mpr q); omega) (by have : ¬ ((4 : Nat) : Int) ≤ x.toInt := fun q => h2 ((geN (a := 4) (by decide)).mpr q); omega)]; rfl, rfl, rfl, rfl⟩

theorem c_T_isPlaceKept (hp : List Am_C) (x : Int32) : Am_Ev false 0 0 0 70 [.int x] (hp) (some (.int (b2 (in3 x (nI 0) (nI 2))))) (hp) := by
  refine am_ev 1 (some .boolean) false [] ok_T_isPlaceKept am_mP_70 (by rw [am_m_70]) (by rw [am_m_70]) (fun h => by cases h) (Nat.le_of_ble_eq_true rfl) ?_
  intro Go hG
  refine hG 200 _ _ _ _ _ _ ?_
  refine And.intro (fun h1 => ?_) (fun h1 => And.intro (fun h2 => ?_) (fun h2 => ?_))
  · exact ⟨Or.inl rfl, by rw [in3_false (by decide) (by decide) (Or.inl (lt0.mp h1))]; rfl, rfl, rfl, rfl⟩
  · exact ⟨Or.inl rfl, by rw [in3_false (by decide) (by decide) (Or.inr (by have := (geN (by decide)).mp h2; omega))]; rfl, rfl, rfl, rfl⟩
  · exact ⟨Or.inr rfl, by rw [in3_true (by decide) (by decide) (by have : ¬ x.toInt < 0 := fun q => h1 (lt0.mpr q); omega) (by have : ¬ ((3 : Nat) : Int) ≤ x.toInt := fun q => h2 ((geN (a := 3) (by decide)).mpr q); omega)]; rfl, rfl, rfl, rfl⟩

theorem c_T_isHeight (hp : List Am_C) (x : Int32) : Am_Ev false 0 0 0 51 [.int x] (hp) (some (.int (b2 (in3 x (nI 1) (nI 7))))) (hp) := by
  refine am_ev 1 (some .boolean) false [] ok_T_isHeight am_mP_51 (by rw [am_m_51]) (by rw [am_m_51]) (fun h => by cases h) (Nat.le_of_ble_eq_true rfl) ?_
  intro Go hG
  refine hG 200 _ _ _ _ _ _ ?_
  refine And.intro (fun h1 => ?_) (fun h1 => And.intro (fun h2 => ?_) (fun h2 => ?_))
  · exact ⟨Or.inl rfl, by rw [in3_false (by decide) (by decide) (Or.inl ((ltN (by decide)).mp h1))]; rfl, rfl, rfl, rfl⟩
  · exact ⟨Or.inl rfl, by rw [in3_false (by decide) (by decide) (Or.inr ((gtN (by decide)).mp h2))]; rfl, rfl, rfl, rfl⟩
  · exact ⟨Or.inr rfl, by rw [in3_true (by decide) (by decide) (by have : ¬ x.toInt < (1 : Nat) := fun q => h1 ((ltN (by decide)).mpr q); omega) (by have : ¬ ((7 : Nat) : Int) < x.toInt := fun q => h2 ((gtN (a := 7) (by decide)).mpr q); omega)]; rfl, rfl, rfl, rfl⟩

theorem c_T_isSky (hp : List Am_C) (x : Int32) : Am_Ev false 0 0 0 85 [.int x] (hp) (some (.int (b2 (in3 x (nI 0) (nI 65535))))) (hp) := by
  refine am_ev 1 (some .boolean) false [] ok_T_isSky am_mP_85 (by rw [am_m_85]) (by rw [am_m_85]) (fun h => by cases h) (Nat.le_of_ble_eq_true rfl) ?_
  intro Go hG
  refine hG 200 _ _ _ _ _ _ ?_
  refine And.intro (fun h1 => ?_) (fun h1 => And.intro (fun h2 => ?_) (fun h2 => ?_))
  · exact ⟨Or.inl rfl, by rw [in3_false (by decide) (by decide) (Or.inl (lt0.mp h1))]; rfl, rfl, rfl, rfl⟩
  · exact ⟨Or.inl rfl, by rw [in3_false (by decide) (by decide) (Or.inr ((gtN (by decide)).mp h2))]; rfl, rfl, rfl, rfl⟩
  · exact ⟨Or.inr rfl, by rw [in3_true (by decide) (by decide) (by have : ¬ x.toInt < (0 : Nat) := fun q => h1 (lt0.mpr q); omega) (by have : ¬ ((65535 : Nat) : Int) < x.toInt := fun q => h2 ((gtN (a := 65535) (by decide)).mpr q); omega)]; rfl, rfl, rfl, rfl⟩

theorem am_len_of {hp : List Am_C} {h n : Nat} {f : Nat → Int32} {q : Nat → Prop} (e : hp[h]? = some (.inl (0, n, .inl f))) (k : q n) : (match hp[h]? with
    | some (.inl (0, n, .inl _)) => q n
    | some (.inl (t, n, .inr (.inr (.inr (.inr _))))) => am_t (Nat.beq t 2 || Nat.beq t 3) (q n)
    | _ => False) := by
  rw [e]
  exact k
theorem set_same {hp : List Am_C} {h : Nat} {c : Am_C} (e : hp[h]? = some c) : hp.set h c = hp := by
  apply List.ext_getElem?
  intro j
  by_cases hj : h = j
  · subst hj
    rw [am_set_at e, e]
  · rw [List.getElem?_set_ne hj]

theorem c_S_isMissing (hp : List Am_C) (h c : Nat) (z : Int32) (e : hp[h]? = some (.inr (4, [.ref c, .int z]))) : Am_Ev false 0 0 0 15 [.ref h] (hp) (some (.int (b2 (decide (z < 0))))) (hp) := by
  refine am_ev 1 (some .boolean) false [] ok_S_isMissing am_mP_15 (by rw [am_m_15]) (by rw [am_m_15]) (fun h => by cases h) (Nat.le_of_ble_eq_true rfl) ?_
  intro Go hG
  refine hG 200 _ _ _ _ _ _ ?_
  refine am_ob_of e ?_
  refine And.intro (fun h1 => ?_) (fun h1 => ?_)
  · exact ⟨Or.inl rfl, by rw [decide_eq_false (Int32.not_lt.mpr h1)]; rfl, rfl, rfl, rfl⟩
  · exact ⟨Or.inr rfl, by rw [decide_eq_true (Int32.not_le.mp h1)]; rfl, rfl, rfl, rfl⟩

def hasI (z i : Int32) : Bool := decide (¬ i < 0) && decide (i < z)
theorem c_S_has (hp : List Am_C) (h c : Nat) (z : Int32) (e : hp[h]? = some (.inr (4, [.ref c, .int z]))) (i : Int32) : Am_Ev false 0 0 0 16 [.ref h, .int i] (hp) (some (.int (b2 (hasI z i)))) (hp) := by
  refine am_ev 2 (some .boolean) false [] ok_S_has am_mP_16 (by rw [am_m_16]) (by rw [am_m_16]) (fun h => by cases h) (Nat.le_of_ble_eq_true rfl) ?_
  intro Go hG
  refine hG 200 _ _ _ _ _ _ ?_
  refine And.intro (fun h1 => ?_) (fun h1 => am_ob_of e (And.intro (fun h2 => ?_) (fun h2 => ?_)))
  · exact ⟨Or.inl rfl, by unfold hasI; rw [decide_eq_false (fun q => q h1)]; rfl, rfl, rfl, rfl⟩
  · exact ⟨Or.inl rfl, by unfold hasI; rw [show decide (i < z) = false from decide_eq_false (Int32.not_lt.mpr h2), Bool.and_false]; rfl, rfl, rfl, rfl⟩
  · exact ⟨Or.inr rfl, by unfold hasI; rw [decide_eq_true h1, decide_eq_true (Int32.not_le.mp h2)]; rfl, rfl, rfl, rfl⟩

def hprI (z i n : Int32) : Bool := decide (¬ i < 0) && (decide (¬ n < 0) && (decide (n ≤ z) && decide (i ≤ z - n)))
theorem c_S_hasPart (hp : List Am_C) (h c : Nat) (z : Int32) (e : hp[h]? = some (.inr (4, [.ref c, .int z]))) (i n : Int32) : Am_Ev false 0 0 0 21 [.ref h, .int i, .int n] (hp) (some (.int (b2 (hprI z i n)))) (hp) := by
  refine am_ev 3 (some .boolean) false [] ok_S_hasPart am_mP_21 (by rw [am_m_21]) (by rw [am_m_21]) (fun h => by cases h) (Nat.le_of_ble_eq_true rfl) ?_
  intro Go hG
  refine hG 200 _ _ _ _ _ _ ?_
  refine And.intro (fun h1 => ?_) (fun h1 => And.intro (fun h2 => ?_) (fun h2 => am_ob_of e (And.intro (fun h3 => ?_) (fun h3 => am_ob_of e (And.intro (fun h4 => ?_) (fun h4 => ?_))))))
  · exact ⟨Or.inl rfl, by unfold hprI; rw [decide_eq_false (fun q => q h1)]; rfl, rfl, rfl, rfl⟩
  · exact ⟨Or.inl rfl, by unfold hprI; rw [decide_eq_true h1, decide_eq_false (fun q => q h2)]; rfl, rfl, rfl, rfl⟩
  · exact ⟨Or.inl rfl, by unfold hprI; rw [decide_eq_true h1, decide_eq_true h2, decide_eq_false (Int32.not_le.mpr h3)]; rfl, rfl, rfl, rfl⟩
  · exact ⟨Or.inl rfl, by unfold hprI; rw [decide_eq_true h1, decide_eq_true h2, decide_eq_true (Int32.not_lt.mp h3), decide_eq_false (Int32.not_le.mpr h4)]; rfl, rfl, rfl, rfl⟩
  · exact ⟨Or.inr rfl, by unfold hprI; rw [decide_eq_true h1, decide_eq_true h2, decide_eq_true (Int32.not_lt.mp h3), decide_eq_true (Int32.not_lt.mp h4)]; rfl, rfl, rfl, rfl⟩

theorem c_S_begin (hp : List Am_C) (h c : Nat) (z : Int32) (e : hp[h]? = some (.inr (4, [.ref c, .int z]))) (len n : Nat) (f : Nat → Int32) (x : Int32) (hc : h ≠ c) (e2 : hp[c]? = some (.inl (0, len, .inl f))) (hl : len ≤ 4096) (hn : n ≤ len) : Am_Ev false 1 0 0 11 [.ref h, .int (nI n), .int x] (hp) (none) ((hp.set h (.inr (4, [.ref c, .int (nI n)]))).set c (.inl (0, len, .inl (fillF f 0 n x)))) := by
  refine am_ev 4 none false [14, 19] ok_S_begin am_mP_11 (by rw [am_m_11]) (by rw [am_m_11]) (fun h => by cases h) (Nat.le_of_ble_eq_true rfl) ?_
  intro Go hG
  have hlb : Nat.ble len 4096 = true := Nat.ble_eq_true_of_le hl
  have ee : (hp.set h (.inr (4, [.ref c, .int (nI n)])))[h]? = some (.inr (4, [.ref c, .int (nI n)])) := am_set_at e
  have e3 : (hp.set h (.inr (4, [.ref c, .int (nI n)])))[c]? = some (.inl (0, len, .inl f)) := am_set_ne hc e2
  have L : ∀ (j k : Nat), k + j = n → Go 19 [some (.ref h), some (.int (nI n)), some (.int x), some (.int (nI k))] [] ((hp.set h (.inr (4, [.ref c, .int (nI n)]))).set c (.inl (0, len, .inl (fillF f 0 k x)))) 0 0 := by
    intro j
    induction j with
    | zero =>
      intro k hk
      have e5 : ((hp.set h (.inr (4, [.ref c, .int (nI n)]))).set c (.inl (0, len, .inl (fillF f 0 k x))))[h]? = some (.inr (4, [.ref c, .int (nI n)])) := am_set_ne (Ne.symm hc) ee
      refine hG 200 _ _ _ _ _ _ ?_
      refine am_ob_of e5 ?_
      refine br_t (nI_le (by omega) (by omega)) ?_
      have hk : k = n := by omega
      subst hk
      exact ⟨rfl, rfl, rfl, rfl⟩
    | succ j ih =>
      intro k hk
      have e5 : ((hp.set h (.inr (4, [.ref c, .int (nI n)]))).set c (.inl (0, len, .inl (fillF f 0 k x))))[h]? = some (.inr (4, [.ref c, .int (nI n)])) := am_set_ne (Ne.symm hc) ee
      have e6 : ((hp.set h (.inr (4, [.ref c, .int (nI n)]))).set c (.inl (0, len, .inl (fillF f 0 k x))))[c]? = some (.inl (0, len, .inl (fillF f 0 k x))) := am_set_at e3
      refine hG 200 _ _ _ _ _ _ ?_
      refine am_ob_of e5 ?_
      refine br_f (nI_ge (by omega) (by omega)) ?_
      refine am_ob_of e5 ?_
      refine am_ai_of e6 hlb ?_
      refine Exists.intro k ⟨by omega, rfl, ?_⟩
      have h9 := ih (k + 1) (by omega)
      have e7 := fillF_s f 0 k x
      rw [Nat.zero_add] at e7
      rw [← nI_s1, ← e7] at h9
      rw [List.set_set]
      exact h9
  refine hG 200 _ _ _ _ _ _ ?_
  refine am_ob_of e ?_
  refine am_len_of e2 ?_
  have hmin : (if nI len < nI n then nI len else nI n) = nI n := if_neg (nI_nlt hn (by omega))
  have hmax : (if nI 0 < nI n then nI n else nI 0) = nI n := by
    rcases Nat.eq_zero_or_pos n with h0 | h0
    · rw [h0]; rfl
    · exact if_pos (nI_lt h0 (by omega))
  show Go 14 [some (.ref h), some (.int (nI n)), some (.int x), none] [.int (if nI 0 < (if nI len < nI n then nI len else nI n) then (if nI len < nI n then nI len else nI n) else nI 0), .ref h] hp 0 0
  rw [hmin, hmax]
  refine hG 200 _ _ _ _ _ _ ?_
  refine am_ob_of e ?_
  have h9 := L n 0 (by omega)
  rw [fillF_0, set_same e3] at h9
  exact h9

