/-! ===== the reference over a row of w ===== -/
def fdI (f : Nat → Int32 → Int32) : Nat → Int32 → Int32
  | 0, a => a
  | n + 1, a => f n (fdI f n a)
def skyG (g : Nat → Int32) (n : Nat) : Int32 := fdI (fun k a => a ||| (nI 1 <<< (g k &&& 31))) n (nI 0)
def sumG (g : Nat → Int32) (n : Nat) : Int32 := fdI (fun k a => a + g k) n (nI 0)
/-- the first place from k on, of j, that holds 0; else the end -/
def dueG (g : Nat → Int32) : Nat → Nat → Nat
  | 0, k => k
  | j + 1, k => if g k = 0 then k else dueG g j (k + 1)
def dueR (n i : Nat) : Int32 := if i < n then nI i else -nI 9
/-- later by a beat -/
def latW (w : Nat → Int32) (x n : Nat) : Nat → Int32 := fun j => if x ≤ j ∧ j < x + n then w j - nI 1 else w j
theorem latW_0 (w : Nat → Int32) (x : Nat) : latW w x 0 = w := by
  funext j
  unfold latW
  rw [if_neg (by omega)]
theorem latW_s (w : Nat → Int32) (x k : Nat) : upd (latW w x k) (x + k) (latW w x k (x + k) - nI 1) = latW w x (k + 1) := by
  funext j
  unfold upd latW
  by_cases h : j = x + k
  · subst h
    simp
  · by_cases h2 : x ≤ j ∧ j < x + k
    · rw [if_neg h, if_pos h2, if_pos (by omega)]
    · rw [if_neg h, if_neg h2, if_neg (by omega)]
theorem va_up_up {α : Type} (f : Nat → α) (k : Nat) (a b : α) : va_up (va_up f k a) k b = va_up f k b := by
  funext j
  unfold va_up
  split <;> rfl
theorem va_up_same {α : Type} (f : Nat → α) (k : Nat) : va_up f k (f k) = f := by
  funext j
  unfold va_up
  split
  · next h => rw [h]
  · rfl
theorem nI_s1 (k : Nat) : nI k + nI 1 = nI (k + 1) := nI_add k 1

theorem c_M_skyAt (I : Nat → Int32) (F : Nat → Nat → Int32) (u v : Int64) (n x : Nat) (hI : I 2 = nI n) (hn : n ≤ 6) (hx : x + 13 ≤ 2149) : Am_Ev false 0 0 0 165 [.ref 0, .int (nI x)] (mH I F u v) (some (.int (skyG (fun i => F 1 (x + i)) n))) (mH I F u v) := by
  refine am_ev 4 (some .int) false [4] ok_M_skyAt am_mP_165 (by rw [am_m_165]) (by rw [am_m_165]) (fun h => by cases h) (Nat.le_of_ble_eq_true rfl) ?_
  intro Go hG
  have L : ∀ (j k : Nat), k + j = n → Go 4 [some (.ref 0), some (.int (nI x)), some (.int (skyG (fun i => F 1 (x + i)) k)), some (.int (nI k))] [] (mH I F u v) 0 0 := by
    intro j
    induction j with
    | zero =>
      intro k hk
      refine hG 200 _ _ _ _ _ _ ?_
      refine br_t (by rw [hI]; exact nI_le (by omega) (by omega)) ?_
      exact ⟨by rw [show k = n by omega], rfl, rfl, rfl⟩
    | succ j ih =>
      intro k hk
      refine hG 200 _ _ _ _ _ _ ?_
      refine br_f (by rw [hI]; exact nI_ge (by omega) (by omega)) ?_
      refine Exists.intro (x + k) ⟨by omega, nI_add x k, ?_⟩
      have h := ih (k + 1) (by omega)
      rw [← nI_s1] at h
      exact h
  refine hG 200 _ _ _ _ _ _ ?_
  exact L n 0 (by omega)

theorem c_M_sumAt (I : Nat → Int32) (F : Nat → Nat → Int32) (u v : Int64) (n x : Nat) (hI : I 2 = nI n) (hn : n ≤ 6) (hx : x + 13 ≤ 2149) : Am_Ev false 0 0 0 202 [.ref 0, .int (nI x)] (mH I F u v) (some (.int (sumG (fun i => F 1 (x + i)) n))) (mH I F u v) := by
  refine am_ev 4 (some .int) false [4] ok_M_sumAt am_mP_202 (by rw [am_m_202]) (by rw [am_m_202]) (fun h => by cases h) (Nat.le_of_ble_eq_true rfl) ?_
  intro Go hG
  have L : ∀ (j k : Nat), k + j = n → Go 4 [some (.ref 0), some (.int (nI x)), some (.int (sumG (fun i => F 1 (x + i)) k)), some (.int (nI k))] [] (mH I F u v) 0 0 := by
    intro j
    induction j with
    | zero =>
      intro k hk
      refine hG 200 _ _ _ _ _ _ ?_
      refine br_t (by rw [hI]; exact nI_le (by omega) (by omega)) ?_
      exact ⟨by rw [show k = n by omega], rfl, rfl, rfl⟩
    | succ j ih =>
      intro k hk
      refine hG 200 _ _ _ _ _ _ ?_
      refine br_f (by rw [hI]; exact nI_ge (by omega) (by omega)) ?_
      refine Exists.intro (x + k) ⟨by omega, nI_add x k, ?_⟩
      have h := ih (k + 1) (by omega)
      rw [← nI_s1] at h
      exact h
  refine hG 200 _ _ _ _ _ _ ?_
  exact L n 0 (by omega)

theorem c_M_dueAt (I : Nat → Int32) (F : Nat → Nat → Int32) (u v : Int64) (n x : Nat) (hI : I 2 = nI n) (hn : n ≤ 6) (hx : x + 13 ≤ 2149) : Am_Ev false 0 0 0 164 [.ref 0, .int (nI x)] (mH I F u v) (some (.int (dueR n (dueG (fun i => F 1 (x + i)) n 0)))) (mH I F u v) := by
  refine am_ev 3 (some .int) false [2] ok_M_dueAt am_mP_164 (by rw [am_m_164]) (by rw [am_m_164]) (fun h => by cases h) (Nat.le_of_ble_eq_true rfl) ?_
  intro Go hG
  have L : ∀ (j k : Nat), k + j = n → dueG (fun i => F 1 (x + i)) j k = dueG (fun i => F 1 (x + i)) n 0 → Go 2 [some (.ref 0), some (.int (nI x)), some (.int (nI k))] [] (mH I F u v) 0 0 := by
    intro j
    induction j with
    | zero =>
      intro k hk he
      refine hG 200 _ _ _ _ _ _ ?_
      refine br_t (by rw [hI]; exact nI_le (by omega) (by omega)) ?_
      rw [← he]
      refine ⟨?_, rfl, rfl, rfl⟩
      show some (Value.int (-nI 9)) = some (.int (dueR n k))
      rw [dueR, if_neg (by omega)]
    | succ j ih =>
      intro k hk he
      refine hG 200 _ _ _ _ _ _ ?_
      refine br_f (by rw [hI]; exact nI_ge (by omega) (by omega)) ?_
      refine Exists.intro (x + k) ⟨by omega, nI_add x k, ?_⟩
      rw [← he]
      refine And.intro (fun h1 => ?_) (fun h1 => ?_)
      · have h := ih (k + 1) (by omega) (by rw [← he]; simp only [dueG]; rw [if_neg h1])
        rw [← nI_s1] at h
        exact h
      · refine ⟨?_, rfl, rfl, rfl⟩
        have h1' : F 1 (x + k) = 0 := h1
        simp only [dueG]
        rw [if_pos h1', dueR, if_pos (by omega)]
  refine hG 200 _ _ _ _ _ _ ?_
  exact L n 0 (by omega) rfl

def latF (w : Nat → Int32) (x n : Nat) : Nat → Int32 := upd (latW w x n) (x + 12) (latW w x n (x + 12) + nI 1)

theorem c_M_later (I : Nat → Int32) (F : Nat → Nat → Int32) (u v : Int64) (n x : Nat) (hI : I 2 = nI n) (hn : n ≤ 6) (hx : x + 13 ≤ 2149) : Am_Ev false 0 0 0 170 [.ref 0, .int (nI x)] (mH I F u v) (none) (mH I (va_up F 1 (latF (F 1) x n)) u v) := by
  refine am_ev 3 none false [2] ok_M_later am_mP_170 (by rw [am_m_170]) (by rw [am_m_170]) (fun h => by cases h) (Nat.le_of_ble_eq_true rfl) ?_
  intro Go hG
  have L : ∀ (j k : Nat), k + j = n → Go 2 [some (.ref 0), some (.int (nI x)), some (.int (nI k))] [] (mH I (va_up F 1 (latW (F 1) x k)) u v) 0 0 := by
    intro j
    induction j with
    | zero =>
      intro k hk
      refine hG 200 _ _ _ _ _ _ ?_
      refine br_t (by rw [hI]; exact nI_le (by omega) (by omega)) ?_
      refine Exists.intro (x + 12) ⟨by omega, nI_add x 12, ?_⟩
      refine Exists.intro (x + 12) ⟨by omega, nI_add x 12, ?_⟩
      have hk : k = n := by omega
      subst hk
      exact ⟨rfl, rfl, rfl, rfl⟩
    | succ j ih =>
      intro k hk
      refine hG 200 _ _ _ _ _ _ ?_
      refine br_f (by rw [hI]; exact nI_ge (by omega) (by omega)) ?_
      refine Exists.intro (x + k) ⟨by omega, nI_add x k, ?_⟩
      refine Exists.intro (x + k) ⟨by omega, nI_add x k, ?_⟩
      have h := ih (k + 1) (by omega)
      rw [← nI_s1, ← latW_s] at h
      exact h
  refine hG 200 _ _ _ _ _ _ ?_
  have h := L n 0 (by omega)
  rw [latW_0, va_up_same] at h
  exact h

theorem c_M_copyRow (I : Nat → Int32) (F : Nat → Nat → Int32) (u v : Int64) (x y n : Nat) (hx : x + n ≤ 2149) (hy : y + n ≤ 2149) (hd : x + n ≤ y ∨ y + n ≤ x) : Am_Ev false 0 0 0 168 [.ref 0, .int (nI x), .int (nI y), .int (nI n)] (mH I F u v) (none) (mH I (va_up F 1 (va_cpy (F 1) (F 1) x y n)) u v) := by
  refine am_ev 5 none false [3] ok_M_copyRow am_mP_168 (by rw [am_m_168]) (by rw [am_m_168]) (fun h => by cases h) (Nat.le_of_ble_eq_true rfl) ?_
  intro Go hG
  have e : ∀ k, k < n → upd (va_cpy (F 1) (F 1) x y k) (y + k) (va_cpy (F 1) (F 1) x y k (x + k)) = va_cpy (F 1) (F 1) x y (k + 1) := by
    intro k hk
    funext j
    unfold upd va_cpy
    by_cases h : j = y + k
    · subst h
      rw [if_pos rfl, if_neg (by omega), if_pos (by omega)]
      congr 1
      omega
    · by_cases h2 : y ≤ j ∧ j < y + k
      · rw [if_neg h, if_pos h2, if_pos (by omega)]
      · rw [if_neg h, if_neg h2, if_neg (by omega)]
  have L : ∀ (j k : Nat), k + j = n → Go 3 [some (.ref 0), some (.int (nI x)), some (.int (nI y)), some (.int (nI n)), some (.int (nI k))] [] (mH I (va_up F 1 (va_cpy (F 1) (F 1) x y k)) u v) 0 0 := by
    intro j
    induction j with
    | zero =>
      intro k hk
      refine hG 200 _ _ _ _ _ _ ?_
      refine br_t (nI_le (by omega) (by omega)) ?_
      have hk : k = n := by omega
      subst hk
      exact ⟨rfl, rfl, rfl, rfl⟩
    | succ j ih =>
      intro k hk
      refine hG 200 _ _ _ _ _ _ ?_
      refine br_f (nI_ge (by omega) (by omega)) ?_
      refine Exists.intro (x + k) ⟨by omega, nI_add x k, ?_⟩
      refine Exists.intro (y + k) ⟨by omega, nI_add y k, ?_⟩
      have h := ih (k + 1) (by omega)
      rw [← nI_s1, ← e k (by omega)] at h
      exact h
  refine hG 200 _ _ _ _ _ _ ?_
  have h := L n 0 (by omega)
  have e0 : va_cpy (F 1) (F 1) x y 0 = F 1 := by
    funext j
    unfold va_cpy
    rw [if_neg (by omega)]
  rw [e0, va_up_same] at h
  exact h

theorem c_M_beginTry (I : Nat → Int32) (F : Nat → Nat → Int32) (u v : Int64) : Am_Ev false 1 0 0 182 [.ref 0] (mH I F u v) (none) (mH I (va_up F 1 (va_cpy (F 1) (F 1) 0 2136 13)) u v) := by
  refine am_ev 1 none false [] ok_M_beginTry am_mP_182 (by rw [am_m_182]) (by rw [am_m_182]) (fun h => by cases h) (Nat.le_of_ble_eq_true rfl) ?_
  intro Go hG
  refine hG 200 _ _ _ _ _ _ ?_
  refine Exists.intro 0 (Exists.intro _ (Exists.intro _ ⟨by decide, c_M_copyRow I F u v 0 2136 13 (by omega) (by omega) (by omega), ?_⟩))
  exact ⟨rfl, rfl, rfl, rfl⟩

theorem c_M_isThing (I : Nat → Int32) (F : Nat → Nat → Int32) (u v : Int64) (x : Int32) : Am_Ev false 1 0 0 154 [.ref 0, .int x] (mH I F u v) (some (.int (b2 (in3 x (nI 0) (I 2 - nI 1))))) (mH I F u v) := by
  refine am_ev 2 (some .boolean) false [] ok_M_isThing am_mP_154 (by rw [am_m_154]) (by rw [am_m_154]) (fun h => by cases h) (Nat.le_of_ble_eq_true rfl) ?_
  intro Go hG
  refine hG 200 _ _ _ _ _ _ ?_
  refine Exists.intro 0 (Exists.intro _ (Exists.intro _ ⟨by decide, c_M_in _ _ _ _, ?_⟩))
  exact ⟨b2_or _, rfl, rfl, rfl, rfl⟩

theorem c_M_isHeight (hp : List Am_C) (x : Int32) : Am_Ev false 1 0 0 162 [.int x] (hp) (some (.int (b2 (in3 x (nI 1) (nI 7))))) (hp) := by
  refine am_ev 1 (some .boolean) false [] ok_M_isHeight am_mP_162 (by rw [am_m_162]) (by rw [am_m_162]) (fun h => by cases h) (Nat.le_of_ble_eq_true rfl) ?_
  intro Go hG
  refine hG 200 _ _ _ _ _ _ ?_
  refine Exists.intro 0 (Exists.intro _ (Exists.intro _ ⟨by decide, c_M_in _ _ _ _, ?_⟩))
  exact ⟨b2_or _, rfl, rfl, rfl, rfl⟩

theorem c_M_isSky (hp : List Am_C) (x : Int32) : Am_Ev false 1 0 0 187 [.int x] (hp) (some (.int (b2 (in3 x (nI 0) (nI 65535))))) (hp) := by
  refine am_ev 1 (some .boolean) false [] ok_M_isSky am_mP_187 (by rw [am_m_187]) (by rw [am_m_187]) (fun h => by cases h) (Nat.le_of_ble_eq_true rfl) ?_
  intro Go hG
  refine hG 200 _ _ _ _ _ _ ?_
  refine Exists.intro 0 (Exists.intro _ (Exists.intro _ ⟨by decide, c_M_in _ _ _ _, ?_⟩))
  exact ⟨b2_or _, rfl, rfl, rfl, rfl⟩

