/-! ===== the reference's cells, and its small methods ===== -/
def b2 (v : Bool) : Int32 := bif v then nI 1 else nI 0
theorem b2_z {v : Bool} {A B : Prop} (t : v = false → A) (f : v = true → B) : (b2 v = 0 → A) ∧ (¬ b2 v = 0 → B) := by
  cases v with
  | false => exact ⟨fun _ => t rfl, fun h => absurd rfl h⟩
  | true => exact ⟨fun h => absurd h (by decide), fun _ => f rfl⟩
theorem b2_nz {v : Bool} {A B : Prop} (t : v = true → A) (f : v = false → B) : (¬ b2 v = 0 → A) ∧ (b2 v = 0 → B) := by
  cases v with
  | false => exact ⟨fun h => absurd rfl h, fun _ => f rfl⟩
  | true => exact ⟨fun _ => t rfl, fun h => absurd h (by decide)⟩
theorem b2_or (v : Bool) : b2 v = nI 0 ∨ b2 v = nI 1 := by cases v <;> simp [b2]
theorem bn_t {c A B : Prop} (h : ¬ c) (a : A) : (¬ c → A) ∧ (c → B) := ⟨fun _ => a, fun z => absurd z h⟩
theorem bn_f {c A B : Prop} (h : c) (b : B) : (¬ c → A) ∧ (c → B) := ⟨fun z => absurd h z, fun _ => b⟩
/-- the reference's cells: ints by the places of its fields, arrays by their handles -/
def mH (I : Nat → Int32) (F : Nat → Nat → Int32) (u v : Int64) : List Am_C := [.inr (7, [.ref 1, .ref 2, .int (I 2), .ref 3, .ref 4, .ref 5, .ref 6, .ref 7, .int (I 8), .long u, .long v, .int (I 11), .ref 8, .ref 9, .ref 10, .int (I 15), .ref 11]), .inl (0, 2149, .inl (F 1)), .inl (0, 6, .inl (F 2)), .inl (0, 3, .inl (F 3)), .inl (0, 240, .inl (F 4)), .inl (0, 6, .inl (F 5)), .inl (1, 240, .inl (F 6)), .inl (0, 4, .inl (F 7)), .inl (0, 6, .inl (F 8)), .inl (0, 6, .inl (F 9)), .inl (0, 6, .inl (F 10)), .inl (0, 2801, .inl (F 11))]

def in3 (x lo hi : Int32) : Bool := decide (lo ≤ x) && decide (x ≤ hi)

theorem c_M_in (hp : List Am_C) (x lo hi : Int32) : Am_Ev false 0 0 0 134 [.int x, .int lo, .int hi] (hp) (some (.int (b2 (in3 x lo hi)))) (hp) := by
  refine am_ev 3 (some .boolean) false [] ok_M_in am_mP_134 (by rw [am_m_134]) (by rw [am_m_134]) (fun h => by cases h) (Nat.le_of_ble_eq_true rfl) ?_
  intro Go hG
  refine hG 200 _ _ _ _ _ _ ?_
  refine And.intro (fun h1 => ?_) (fun h1 => And.intro (fun h2 => ?_) (fun h2 => ?_))
  · exact ⟨Or.inl rfl, by have : ¬ lo ≤ x := Int32.not_le.mpr h1; simp [in3, b2, this], rfl, rfl, rfl⟩
  · exact ⟨Or.inl rfl, by have : ¬ x ≤ hi := Int32.not_le.mpr h2; simp [in3, b2, this], rfl, rfl, rfl⟩
  · exact ⟨Or.inr rfl, by have a1 : lo ≤ x := Int32.not_lt.mp h1; have a2 : x ≤ hi := Int32.not_lt.mp h2; simp [in3, b2, a1, a2], rfl, rfl, rfl⟩

def hasB (s k : Int32) : Bool := decide ((s >>> (k &&& 31)) &&& nI 1 = nI 1)

theorem c_M_has (hp : List Am_C) (s k : Int32) : Am_Ev false 0 0 0 166 [.int s, .int k] (hp) (some (.int (b2 (hasB s k)))) (hp) := by
  refine am_ev 2 (some .boolean) false [] ok_M_has am_mP_166 (by rw [am_m_166]) (by rw [am_m_166]) (fun h => by cases h) (Nat.le_of_ble_eq_true rfl) ?_
  intro Go hG
  refine hG 200 _ _ _ _ _ _ ?_
  refine And.intro (fun h1 => ?_) (fun h1 => ?_)
  · exact ⟨Or.inl rfl, by simp [hasB, b2, h1], rfl, rfl, rfl⟩
  · exact ⟨Or.inr rfl, by simp [hasB, b2, h1], rfl, rfl, rfl⟩

theorem c_M_tell (I : Nat → Int32) (F : Nat → Nat → Int32) (u v : Int64) (x : Int32) : Am_Ev false 0 0 0 138 [.ref 0, .int x] (mH I F u v) (some (.int (nI 1))) (mH (upd I 8 x) F u v) := by
  refine am_ev 2 (some .int) false [] ok_M_tell am_mP_138 (by rw [am_m_138]) (by rw [am_m_138]) (fun h => by cases h) (Nat.le_of_ble_eq_true rfl) ?_
  intro Go hG
  refine hG 200 _ _ _ _ _ _ ?_
  exact ⟨rfl, rfl, rfl, rfl⟩

theorem c_M_found (I : Nat → Int32) (F : Nat → Nat → Int32) (u v : Int64) (x : Nat) (hx : x < 6) : Am_Ev false 0 0 0 135 [.ref 0, .int (nI x)] (mH I F u v) (some (.int (-nI 3))) (mH (upd I 11 (nI x)) (va_up F 8 (upd (F 8) x (F 8 x + nI 1))) u v) := by
  refine am_ev 2 (some .int) false [] ok_M_found am_mP_135 (by rw [am_m_135]) (by rw [am_m_135]) (fun h => by cases h) (Nat.le_of_ble_eq_true rfl) ?_
  intro Go hG
  refine hG 200 _ _ _ _ _ _ ?_
  refine Exists.intro x ⟨hx, rfl, ?_⟩
  refine Exists.intro x ⟨hx, rfl, ?_⟩
  exact ⟨rfl, rfl, rfl, rfl⟩

theorem c_M_isRow (hp : List Am_C) (x : Int32) : Am_Ev false 1 0 0 133 [.int x] (hp) (some (.int (b2 (in3 x (nI 0) (nI 5))))) (hp) := by
  refine am_ev 1 (some .boolean) false [] ok_M_isRow am_mP_133 (by rw [am_m_133]) (by rw [am_m_133]) (fun h => by cases h) (Nat.le_of_ble_eq_true rfl) ?_
  intro Go hG
  refine hG 200 _ _ _ _ _ _ ?_
  refine Exists.intro 0 (Exists.intro _ (Exists.intro _ ⟨by decide, c_M_in _ _ _ _, ?_⟩))
  exact ⟨b2_or _, rfl, rfl, rfl, rfl⟩

theorem c_M_isText (hp : List Am_C) (x : Int32) : Am_Ev false 1 0 0 145 [.int x] (hp) (some (.int (b2 (in3 x (nI 0) (nI 3))))) (hp) := by
  refine am_ev 1 (some .boolean) false [] ok_M_isText am_mP_145 (by rw [am_m_145]) (by rw [am_m_145]) (fun h => by cases h) (Nat.le_of_ble_eq_true rfl) ?_
  intro Go hG
  refine hG 200 _ _ _ _ _ _ ?_
  refine Exists.intro 0 (Exists.intro _ (Exists.intro _ ⟨by decide, c_M_in _ _ _ _, ?_⟩))
  exact ⟨b2_or _, rfl, rfl, rfl, rfl⟩

