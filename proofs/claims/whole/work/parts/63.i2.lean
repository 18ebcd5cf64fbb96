/-! ===== the class: a new object ===== -/
def tH0 : List Am_C := [.inr (0, [.ref 1, .ref 2, .ref 3, .ref 6, .ref 8, .ref 13, .ref 14, .ref 16, .ref 17, .int (nI 0), .int (nI 0), .long (lN 0), .long (lN 1)]), .inl (2, 6, .inr (.inr (.inr (.inr (va_up (va_up (va_up (va_up (va_up (va_up (fun _ => none) 0 (some 18)) 1 (some 20)) 2 (some 22)) 3 (some 24)) 4 (some 26)) 5 (some 28)))))), .inl (2, 4, .inr (.inr (.inr (.inr (va_up (va_up (va_up (va_up (fun _ => none) 0 (some 30)) 1 (some 32)) 2 (some 34)) 3 (some 36)))))), .inr (5, [.ref 4, .int (nI 0)]), .inr (6, [.int (nI 0), .ref 5]), .inl (0, 6, .inl (fun _ => 0)), .inr (6, [.int (nI 0), .ref 7]), .inl (0, 6, .inl (fun _ => 0)), .inr (2, [.int (nI 0), .int (nI 0), .int (nI 0), .ref 9, .ref 10, .ref 11, .ref 12]), .inl (0, 6, .inl (fun _ => 0)), .inl (0, 40, .inl (fun _ => 0)), .inl (0, 40, .inl (fun _ => 0)), .inl (0, 40, .inl (fun _ => 0)), .inl (3, 3, .inr (.inr (.inr (.inr (va_up (va_up (va_up (fun _ => none) 0 (some 38)) 1 (some 43)) 2 (some 48)))))), .inr (3, [.ref 6, .int (nI 0), .ref 15, .int (nI 0)]), .inl (0, 4, .inl (fun _ => 0)), .inr (1, [.ref 6]), .inl (0, 6, .inl (fun _ => 0)), .inr (4, [.ref 19, .int (-nI 1)]), .inl (0, 40, .inl (fun _ => 0)), .inr (4, [.ref 21, .int (-nI 1)]), .inl (0, 40, .inl (fun _ => 0)), .inr (4, [.ref 23, .int (-nI 1)]), .inl (0, 40, .inl (fun _ => 0)), .inr (4, [.ref 25, .int (-nI 1)]), .inl (0, 40, .inl (fun _ => 0)), .inr (4, [.ref 27, .int (-nI 1)]), .inl (0, 40, .inl (fun _ => 0)), .inr (4, [.ref 29, .int (-nI 1)]), .inl (0, 40, .inl (fun _ => 0)), .inr (4, [.ref 31, .int (-nI 1)]), .inl (0, 60, .inl (fun _ => 0)), .inr (4, [.ref 33, .int (-nI 1)]), .inl (0, 60, .inl (fun _ => 0)), .inr (4, [.ref 35, .int (-nI 1)]), .inl (0, 60, .inl (fun _ => 0)), .inr (4, [.ref 37, .int (-nI 1)]), .inl (0, 60, .inl (fun _ => 0)), .inr (2, [.int (nI 0), .int (nI 0), .int (-nI 1), .ref 39, .ref 40, .ref 41, .ref 42]), .inl (0, 6, .inl (fun _ => 0)), .inl (0, 40, .inl (fun _ => 0)), .inl (0, 40, .inl (fun _ => 0)), .inl (0, 40, .inl (fun _ => 0)), .inr (2, [.int (nI 0), .int (nI 0), .int (-nI 1), .ref 44, .ref 45, .ref 46, .ref 47]), .inl (0, 6, .inl (fun _ => 0)), .inl (0, 40, .inl (fun _ => 0)), .inl (0, 40, .inl (fun _ => 0)), .inl (0, 40, .inl (fun _ => 0)), .inr (2, [.int (nI 0), .int (nI 0), .int (-nI 1), .ref 49, .ref 50, .ref 51, .ref 52]), .inl (0, 6, .inl (fun _ => 0)), .inl (0, 40, .inl (fun _ => 0)), .inl (0, 40, .inl (fun _ => 0)), .inl (0, 40, .inl (fun _ => 0))]
theorem c_T_init : Am_Ev true 3 52 1078 0 [.ref 0] [.inr (0, am_dv 0)] none tH0 := by
  refine am_ev 2 none true [4, 13, 21, 32, 43, 54, 62, 77, 92, 100, 122, 153, 183] ok_T_init am_mP_0 (by rw [am_m_0]) (by rw [am_m_0]) (fun _ => by rw [am_m_0]) (Nat.le_of_ble_eq_true rfl) (fun Go hG => ?_)
  have e3 : ∀ x, x = nI 3 → Go 183 [some (.ref 0), some (.int x)] [] [.inr (0, [.ref 1, .ref 2, .ref 3, .ref 6, .ref 8, .ref 13, .ref 14, .ref 16, .ref 17, .int (nI 0), .int (nI 0), .long (lN 0), .long (lN 1)]), .inl (2, 6, .inr (.inr (.inr (.inr (va_up (va_up (va_up (va_up (va_up (va_up (fun _ => none) 0 (some 18)) 1 (some 20)) 2 (some 22)) 3 (some 24)) 4 (some 26)) 5 (some 28)))))), .inl (2, 4, .inr (.inr (.inr (.inr (va_up (va_up (va_up (va_up (fun _ => none) 0 (some 30)) 1 (some 32)) 2 (some 34)) 3 (some 36)))))), .inr (5, [.ref 4, .int (nI 0)]), .inr (6, [.int (nI 0), .ref 5]), .inl (0, 6, .inl (fun _ => 0)), .inr (6, [.int (nI 0), .ref 7]), .inl (0, 6, .inl (fun _ => 0)), .inr (2, [.int (nI 0), .int (nI 0), .int (nI 0), .ref 9, .ref 10, .ref 11, .ref 12]), .inl (0, 6, .inl (fun _ => 0)), .inl (0, 40, .inl (fun _ => 0)), .inl (0, 40, .inl (fun _ => 0)), .inl (0, 40, .inl (fun _ => 0)), .inl (3, 3, .inr (.inr (.inr (.inr (va_up (va_up (va_up (fun _ => none) 0 (some 38)) 1 (some 43)) 2 (some 48)))))), .inr (3, [.ref 6, .int (nI 0), .ref 15, .int (nI 0)]), .inl (0, 4, .inl (fun _ => 0)), .inr (1, [.ref 6]), .inl (0, 6, .inl (fun _ => 0)), .inr (4, [.ref 19, .int (-nI 1)]), .inl (0, 40, .inl (fun _ => 0)), .inr (4, [.ref 21, .int (-nI 1)]), .inl (0, 40, .inl (fun _ => 0)), .inr (4, [.ref 23, .int (-nI 1)]), .inl (0, 40, .inl (fun _ => 0)), .inr (4, [.ref 25, .int (-nI 1)]), .inl (0, 40, .inl (fun _ => 0)), .inr (4, [.ref 27, .int (-nI 1)]), .inl (0, 40, .inl (fun _ => 0)), .inr (4, [.ref 29, .int (-nI 1)]), .inl (0, 40, .inl (fun _ => 0)), .inr (4, [.ref 31, .int (-nI 1)]), .inl (0, 60, .inl (fun _ => 0)), .inr (4, [.ref 33, .int (-nI 1)]), .inl (0, 60, .inl (fun _ => 0)), .inr (4, [.ref 35, .int (-nI 1)]), .inl (0, 60, .inl (fun _ => 0)), .inr (4, [.ref 37, .int (-nI 1)]), .inl (0, 60, .inl (fun _ => 0)), .inr (2, [.int (nI 0), .int (nI 0), .int (-nI 1), .ref 39, .ref 40, .ref 41, .ref 42]), .inl (0, 6, .inl (fun _ => 0)), .inl (0, 40, .inl (fun _ => 0)), .inl (0, 40, .inl (fun _ => 0)), .inl (0, 40, .inl (fun _ => 0)), .inr (2, [.int (nI 0), .int (nI 0), .int (-nI 1), .ref 44, .ref 45, .ref 46, .ref 47]), .inl (0, 6, .inl (fun _ => 0)), .inl (0, 40, .inl (fun _ => 0)), .inl (0, 40, .inl (fun _ => 0)), .inl (0, 40, .inl (fun _ => 0)), .inr (2, [.int (nI 0), .int (nI 0), .int (-nI 1), .ref 49, .ref 50, .ref 51, .ref 52]), .inl (0, 6, .inl (fun _ => 0)), .inl (0, 40, .inl (fun _ => 0)), .inl (0, 40, .inl (fun _ => 0)), .inl (0, 40, .inl (fun _ => 0))] 52 1078 := by
    intro x hx
    subst hx
    refine hG 200 _ _ _ _ _ _ ?_
    refine br_t (by decide) ?_
    exact ⟨rfl, rfl, rfl, rfl⟩
  have e2 : ∀ x, x = nI 2 → Go 183 [some (.ref 0), some (.int x)] [] [.inr (0, [.ref 1, .ref 2, .ref 3, .ref 6, .ref 8, .ref 13, .ref 14, .ref 16, .ref 17, .int (nI 0), .int (nI 0), .long (lN 0), .long (lN 1)]), .inl (2, 6, .inr (.inr (.inr (.inr (va_up (va_up (va_up (va_up (va_up (va_up (fun _ => none) 0 (some 18)) 1 (some 20)) 2 (some 22)) 3 (some 24)) 4 (some 26)) 5 (some 28)))))), .inl (2, 4, .inr (.inr (.inr (.inr (va_up (va_up (va_up (va_up (fun _ => none) 0 (some 30)) 1 (some 32)) 2 (some 34)) 3 (some 36)))))), .inr (5, [.ref 4, .int (nI 0)]), .inr (6, [.int (nI 0), .ref 5]), .inl (0, 6, .inl (fun _ => 0)), .inr (6, [.int (nI 0), .ref 7]), .inl (0, 6, .inl (fun _ => 0)), .inr (2, [.int (nI 0), .int (nI 0), .int (nI 0), .ref 9, .ref 10, .ref 11, .ref 12]), .inl (0, 6, .inl (fun _ => 0)), .inl (0, 40, .inl (fun _ => 0)), .inl (0, 40, .inl (fun _ => 0)), .inl (0, 40, .inl (fun _ => 0)), .inl (3, 3, .inr (.inr (.inr (.inr (va_up (va_up (fun _ => none) 0 (some 38)) 1 (some 43)))))), .inr (3, [.ref 6, .int (nI 0), .ref 15, .int (nI 0)]), .inl (0, 4, .inl (fun _ => 0)), .inr (1, [.ref 6]), .inl (0, 6, .inl (fun _ => 0)), .inr (4, [.ref 19, .int (-nI 1)]), .inl (0, 40, .inl (fun _ => 0)), .inr (4, [.ref 21, .int (-nI 1)]), .inl (0, 40, .inl (fun _ => 0)), .inr (4, [.ref 23, .int (-nI 1)]), .inl (0, 40, .inl (fun _ => 0)), .inr (4, [.ref 25, .int (-nI 1)]), .inl (0, 40, .inl (fun _ => 0)), .inr (4, [.ref 27, .int (-nI 1)]), .inl (0, 40, .inl (fun _ => 0)), .inr (4, [.ref 29, .int (-nI 1)]), .inl (0, 40, .inl (fun _ => 0)), .inr (4, [.ref 31, .int (-nI 1)]), .inl (0, 60, .inl (fun _ => 0)), .inr (4, [.ref 33, .int (-nI 1)]), .inl (0, 60, .inl (fun _ => 0)), .inr (4, [.ref 35, .int (-nI 1)]), .inl (0, 60, .inl (fun _ => 0)), .inr (4, [.ref 37, .int (-nI 1)]), .inl (0, 60, .inl (fun _ => 0)), .inr (2, [.int (nI 0), .int (nI 0), .int (-nI 1), .ref 39, .ref 40, .ref 41, .ref 42]), .inl (0, 6, .inl (fun _ => 0)), .inl (0, 40, .inl (fun _ => 0)), .inl (0, 40, .inl (fun _ => 0)), .inl (0, 40, .inl (fun _ => 0)), .inr (2, [.int (nI 0), .int (nI 0), .int (-nI 1), .ref 44, .ref 45, .ref 46, .ref 47]), .inl (0, 6, .inl (fun _ => 0)), .inl (0, 40, .inl (fun _ => 0)), .inl (0, 40, .inl (fun _ => 0)), .inl (0, 40, .inl (fun _ => 0))] 47 945 := by
    intro x hx
    subst hx
    refine hG 200 _ _ _ _ _ _ ?_
    refine br_f (by decide) ?_
    refine Exists.intro true (Exists.intro 1 (Exists.intro 4 (Exists.intro 126 (Exists.intro _ ⟨fun h => h, by decide, by decide, by decide, c_E_init _ 48 rfl, ?_⟩))))
    refine Exists.intro 2 ⟨by decide, rfl, ?_⟩
    refine Exists.intro 2 (Exists.intro 48 ⟨by decide, rfl, rfl, ?_⟩)
    refine Exists.intro 0 (Exists.intro _ (Exists.intro _ ⟨by decide, c_E_forget false _ 48 (nI 0) (nI 0) (nI 0) (fun _ => 0) (fun _ => 0) (fun _ => 0) (fun _ => 0) (by refine ⟨rfl, rfl, rfl, rfl, rfl⟩), ?_⟩))
    exact e3 _ (nI_s1 2)
  have e1 : ∀ x, x = nI 1 → Go 183 [some (.ref 0), some (.int x)] [] [.inr (0, [.ref 1, .ref 2, .ref 3, .ref 6, .ref 8, .ref 13, .ref 14, .ref 16, .ref 17, .int (nI 0), .int (nI 0), .long (lN 0), .long (lN 1)]), .inl (2, 6, .inr (.inr (.inr (.inr (va_up (va_up (va_up (va_up (va_up (va_up (fun _ => none) 0 (some 18)) 1 (some 20)) 2 (some 22)) 3 (some 24)) 4 (some 26)) 5 (some 28)))))), .inl (2, 4, .inr (.inr (.inr (.inr (va_up (va_up (va_up (va_up (fun _ => none) 0 (some 30)) 1 (some 32)) 2 (some 34)) 3 (some 36)))))), .inr (5, [.ref 4, .int (nI 0)]), .inr (6, [.int (nI 0), .ref 5]), .inl (0, 6, .inl (fun _ => 0)), .inr (6, [.int (nI 0), .ref 7]), .inl (0, 6, .inl (fun _ => 0)), .inr (2, [.int (nI 0), .int (nI 0), .int (nI 0), .ref 9, .ref 10, .ref 11, .ref 12]), .inl (0, 6, .inl (fun _ => 0)), .inl (0, 40, .inl (fun _ => 0)), .inl (0, 40, .inl (fun _ => 0)), .inl (0, 40, .inl (fun _ => 0)), .inl (3, 3, .inr (.inr (.inr (.inr (va_up (fun _ => none) 0 (some 38)))))), .inr (3, [.ref 6, .int (nI 0), .ref 15, .int (nI 0)]), .inl (0, 4, .inl (fun _ => 0)), .inr (1, [.ref 6]), .inl (0, 6, .inl (fun _ => 0)), .inr (4, [.ref 19, .int (-nI 1)]), .inl (0, 40, .inl (fun _ => 0)), .inr (4, [.ref 21, .int (-nI 1)]), .inl (0, 40, .inl (fun _ => 0)), .inr (4, [.ref 23, .int (-nI 1)]), .inl (0, 40, .inl (fun _ => 0)), .inr (4, [.ref 25, .int (-nI 1)]), .inl (0, 40, .inl (fun _ => 0)), .inr (4, [.ref 27, .int (-nI 1)]), .inl (0, 40, .inl (fun _ => 0)), .inr (4, [.ref 29, .int (-nI 1)]), .inl (0, 40, .inl (fun _ => 0)), .inr (4, [.ref 31, .int (-nI 1)]), .inl (0, 60, .inl (fun _ => 0)), .inr (4, [.ref 33, .int (-nI 1)]), .inl (0, 60, .inl (fun _ => 0)), .inr (4, [.ref 35, .int (-nI 1)]), .inl (0, 60, .inl (fun _ => 0)), .inr (4, [.ref 37, .int (-nI 1)]), .inl (0, 60, .inl (fun _ => 0)), .inr (2, [.int (nI 0), .int (nI 0), .int (-nI 1), .ref 39, .ref 40, .ref 41, .ref 42]), .inl (0, 6, .inl (fun _ => 0)), .inl (0, 40, .inl (fun _ => 0)), .inl (0, 40, .inl (fun _ => 0)), .inl (0, 40, .inl (fun _ => 0))] 42 812 := by
    intro x hx
    subst hx
    refine hG 200 _ _ _ _ _ _ ?_
    refine br_f (by decide) ?_
    refine Exists.intro true (Exists.intro 1 (Exists.intro 4 (Exists.intro 126 (Exists.intro _ ⟨fun h => h, by decide, by decide, by decide, c_E_init _ 43 rfl, ?_⟩))))
    refine Exists.intro 1 ⟨by decide, rfl, ?_⟩
    refine Exists.intro 1 (Exists.intro 43 ⟨by decide, rfl, rfl, ?_⟩)
    refine Exists.intro 0 (Exists.intro _ (Exists.intro _ ⟨by decide, c_E_forget false _ 43 (nI 0) (nI 0) (nI 0) (fun _ => 0) (fun _ => 0) (fun _ => 0) (fun _ => 0) (by refine ⟨rfl, rfl, rfl, rfl, rfl⟩), ?_⟩))
    exact e2 _ (nI_s1 1)
  have e0 : ∀ x, x = nI 0 → Go 183 [some (.ref 0), some (.int x)] [] [.inr (0, [.ref 1, .ref 2, .ref 3, .ref 6, .ref 8, .ref 13, .ref 14, .ref 16, .ref 17, .int (nI 0), .int (nI 0), .long (lN 0), .long (lN 1)]), .inl (2, 6, .inr (.inr (.inr (.inr (va_up (va_up (va_up (va_up (va_up (va_up (fun _ => none) 0 (some 18)) 1 (some 20)) 2 (some 22)) 3 (some 24)) 4 (some 26)) 5 (some 28)))))), .inl (2, 4, .inr (.inr (.inr (.inr (va_up (va_up (va_up (va_up (fun _ => none) 0 (some 30)) 1 (some 32)) 2 (some 34)) 3 (some 36)))))), .inr (5, [.ref 4, .int (nI 0)]), .inr (6, [.int (nI 0), .ref 5]), .inl (0, 6, .inl (fun _ => 0)), .inr (6, [.int (nI 0), .ref 7]), .inl (0, 6, .inl (fun _ => 0)), .inr (2, [.int (nI 0), .int (nI 0), .int (nI 0), .ref 9, .ref 10, .ref 11, .ref 12]), .inl (0, 6, .inl (fun _ => 0)), .inl (0, 40, .inl (fun _ => 0)), .inl (0, 40, .inl (fun _ => 0)), .inl (0, 40, .inl (fun _ => 0)), .inl (3, 3, .inr (.inr (.inr (.inr (fun _ => none))))), .inr (3, [.ref 6, .int (nI 0), .ref 15, .int (nI 0)]), .inl (0, 4, .inl (fun _ => 0)), .inr (1, [.ref 6]), .inl (0, 6, .inl (fun _ => 0)), .inr (4, [.ref 19, .int (-nI 1)]), .inl (0, 40, .inl (fun _ => 0)), .inr (4, [.ref 21, .int (-nI 1)]), .inl (0, 40, .inl (fun _ => 0)), .inr (4, [.ref 23, .int (-nI 1)]), .inl (0, 40, .inl (fun _ => 0)), .inr (4, [.ref 25, .int (-nI 1)]), .inl (0, 40, .inl (fun _ => 0)), .inr (4, [.ref 27, .int (-nI 1)]), .inl (0, 40, .inl (fun _ => 0)), .inr (4, [.ref 29, .int (-nI 1)]), .inl (0, 40, .inl (fun _ => 0)), .inr (4, [.ref 31, .int (-nI 1)]), .inl (0, 60, .inl (fun _ => 0)), .inr (4, [.ref 33, .int (-nI 1)]), .inl (0, 60, .inl (fun _ => 0)), .inr (4, [.ref 35, .int (-nI 1)]), .inl (0, 60, .inl (fun _ => 0)), .inr (4, [.ref 37, .int (-nI 1)]), .inl (0, 60, .inl (fun _ => 0))] 37 679 := by
    intro x hx
    subst hx
    refine hG 200 _ _ _ _ _ _ ?_
    refine br_f (by decide) ?_
    refine Exists.intro true (Exists.intro 1 (Exists.intro 4 (Exists.intro 126 (Exists.intro _ ⟨fun h => h, by decide, by decide, by decide, c_E_init _ 38 rfl, ?_⟩))))
    refine Exists.intro 0 ⟨by decide, rfl, ?_⟩
    refine Exists.intro 0 (Exists.intro 38 ⟨by decide, rfl, rfl, ?_⟩)
    refine Exists.intro 0 (Exists.intro _ (Exists.intro _ ⟨by decide, c_E_forget false _ 38 (nI 0) (nI 0) (nI 0) (fun _ => 0) (fun _ => 0) (fun _ => 0) (fun _ => 0) (by refine ⟨rfl, rfl, rfl, rfl, rfl⟩), ?_⟩))
    exact e1 _ (nI_s1 0)
  have t4 : ∀ x, x = nI 4 → Go 153 [some (.ref 0), some (.int x)] [] [.inr (0, [.ref 1, .ref 2, .ref 3, .ref 6, .ref 8, .ref 13, .ref 14, .ref 16, .ref 17, .int (nI 0), .int (nI 0), .long (lN 0), .long (lN 1)]), .inl (2, 6, .inr (.inr (.inr (.inr (va_up (va_up (va_up (va_up (va_up (va_up (fun _ => none) 0 (some 18)) 1 (some 20)) 2 (some 22)) 3 (some 24)) 4 (some 26)) 5 (some 28)))))), .inl (2, 4, .inr (.inr (.inr (.inr (va_up (va_up (va_up (va_up (fun _ => none) 0 (some 30)) 1 (some 32)) 2 (some 34)) 3 (some 36)))))), .inr (5, [.ref 4, .int (nI 0)]), .inr (6, [.int (nI 0), .ref 5]), .inl (0, 6, .inl (fun _ => 0)), .inr (6, [.int (nI 0), .ref 7]), .inl (0, 6, .inl (fun _ => 0)), .inr (2, [.int (nI 0), .int (nI 0), .int (nI 0), .ref 9, .ref 10, .ref 11, .ref 12]), .inl (0, 6, .inl (fun _ => 0)), .inl (0, 40, .inl (fun _ => 0)), .inl (0, 40, .inl (fun _ => 0)), .inl (0, 40, .inl (fun _ => 0)), .inl (3, 3, .inr (.inr (.inr (.inr (fun _ => none))))), .inr (3, [.ref 6, .int (nI 0), .ref 15, .int (nI 0)]), .inl (0, 4, .inl (fun _ => 0)), .inr (1, [.ref 6]), .inl (0, 6, .inl (fun _ => 0)), .inr (4, [.ref 19, .int (-nI 1)]), .inl (0, 40, .inl (fun _ => 0)), .inr (4, [.ref 21, .int (-nI 1)]), .inl (0, 40, .inl (fun _ => 0)), .inr (4, [.ref 23, .int (-nI 1)]), .inl (0, 40, .inl (fun _ => 0)), .inr (4, [.ref 25, .int (-nI 1)]), .inl (0, 40, .inl (fun _ => 0)), .inr (4, [.ref 27, .int (-nI 1)]), .inl (0, 40, .inl (fun _ => 0)), .inr (4, [.ref 29, .int (-nI 1)]), .inl (0, 40, .inl (fun _ => 0)), .inr (4, [.ref 31, .int (-nI 1)]), .inl (0, 60, .inl (fun _ => 0)), .inr (4, [.ref 33, .int (-nI 1)]), .inl (0, 60, .inl (fun _ => 0)), .inr (4, [.ref 35, .int (-nI 1)]), .inl (0, 60, .inl (fun _ => 0)), .inr (4, [.ref 37, .int (-nI 1)]), .inl (0, 60, .inl (fun _ => 0))] 37 679 := by
    intro x hx
    subst hx
    refine hG 200 _ _ _ _ _ _ ?_
    refine br_t (by decide) ?_
    exact e0 _ rfl
  have t3 : ∀ x, x = nI 3 → Go 153 [some (.ref 0), some (.int x)] [] [.inr (0, [.ref 1, .ref 2, .ref 3, .ref 6, .ref 8, .ref 13, .ref 14, .ref 16, .ref 17, .int (nI 0), .int (nI 0), .long (lN 0), .long (lN 1)]), .inl (2, 6, .inr (.inr (.inr (.inr (va_up (va_up (va_up (va_up (va_up (va_up (fun _ => none) 0 (some 18)) 1 (some 20)) 2 (some 22)) 3 (some 24)) 4 (some 26)) 5 (some 28)))))), .inl (2, 4, .inr (.inr (.inr (.inr (va_up (va_up (va_up (fun _ => none) 0 (some 30)) 1 (some 32)) 2 (some 34)))))), .inr (5, [.ref 4, .int (nI 0)]), .inr (6, [.int (nI 0), .ref 5]), .inl (0, 6, .inl (fun _ => 0)), .inr (6, [.int (nI 0), .ref 7]), .inl (0, 6, .inl (fun _ => 0)), .inr (2, [.int (nI 0), .int (nI 0), .int (nI 0), .ref 9, .ref 10, .ref 11, .ref 12]), .inl (0, 6, .inl (fun _ => 0)), .inl (0, 40, .inl (fun _ => 0)), .inl (0, 40, .inl (fun _ => 0)), .inl (0, 40, .inl (fun _ => 0)), .inl (3, 3, .inr (.inr (.inr (.inr (fun _ => none))))), .inr (3, [.ref 6, .int (nI 0), .ref 15, .int (nI 0)]), .inl (0, 4, .inl (fun _ => 0)), .inr (1, [.ref 6]), .inl (0, 6, .inl (fun _ => 0)), .inr (4, [.ref 19, .int (-nI 1)]), .inl (0, 40, .inl (fun _ => 0)), .inr (4, [.ref 21, .int (-nI 1)]), .inl (0, 40, .inl (fun _ => 0)), .inr (4, [.ref 23, .int (-nI 1)]), .inl (0, 40, .inl (fun _ => 0)), .inr (4, [.ref 25, .int (-nI 1)]), .inl (0, 40, .inl (fun _ => 0)), .inr (4, [.ref 27, .int (-nI 1)]), .inl (0, 40, .inl (fun _ => 0)), .inr (4, [.ref 29, .int (-nI 1)]), .inl (0, 40, .inl (fun _ => 0)), .inr (4, [.ref 31, .int (-nI 1)]), .inl (0, 60, .inl (fun _ => 0)), .inr (4, [.ref 33, .int (-nI 1)]), .inl (0, 60, .inl (fun _ => 0)), .inr (4, [.ref 35, .int (-nI 1)]), .inl (0, 60, .inl (fun _ => 0))] 35 617 := by
    intro x hx
    subst hx
    refine hG 200 _ _ _ _ _ _ ?_
    refine br_f (by decide) ?_
    refine Exists.intro 60 ⟨rfl, ?_⟩
    refine Exists.intro false (Exists.intro 1 (Exists.intro 0 (Exists.intro 0 (Exists.intro _ ⟨(fun h => by cases h), by decide, by decide, by decide, c_S_init false _ 36 37 .null 0 rfl, ?_⟩))))
    refine Exists.intro 3 ⟨by decide, rfl, ?_⟩
    exact t4 _ (nI_s1 3)
  have t2 : ∀ x, x = nI 2 → Go 153 [some (.ref 0), some (.int x)] [] [.inr (0, [.ref 1, .ref 2, .ref 3, .ref 6, .ref 8, .ref 13, .ref 14, .ref 16, .ref 17, .int (nI 0), .int (nI 0), .long (lN 0), .long (lN 1)]), .inl (2, 6, .inr (.inr (.inr (.inr (va_up (va_up (va_up (va_up (va_up (va_up (fun _ => none) 0 (some 18)) 1 (some 20)) 2 (some 22)) 3 (some 24)) 4 (some 26)) 5 (some 28)))))), .inl (2, 4, .inr (.inr (.inr (.inr (va_up (va_up (fun _ => none) 0 (some 30)) 1 (some 32)))))), .inr (5, [.ref 4, .int (nI 0)]), .inr (6, [.int (nI 0), .ref 5]), .inl (0, 6, .inl (fun _ => 0)), .inr (6, [.int (nI 0), .ref 7]), .inl (0, 6, .inl (fun _ => 0)), .inr (2, [.int (nI 0), .int (nI 0), .int (nI 0), .ref 9, .ref 10, .ref 11, .ref 12]), .inl (0, 6, .inl (fun _ => 0)), .inl (0, 40, .inl (fun _ => 0)), .inl (0, 40, .inl (fun _ => 0)), .inl (0, 40, .inl (fun _ => 0)), .inl (3, 3, .inr (.inr (.inr (.inr (fun _ => none))))), .inr (3, [.ref 6, .int (nI 0), .ref 15, .int (nI 0)]), .inl (0, 4, .inl (fun _ => 0)), .inr (1, [.ref 6]), .inl (0, 6, .inl (fun _ => 0)), .inr (4, [.ref 19, .int (-nI 1)]), .inl (0, 40, .inl (fun _ => 0)), .inr (4, [.ref 21, .int (-nI 1)]), .inl (0, 40, .inl (fun _ => 0)), .inr (4, [.ref 23, .int (-nI 1)]), .inl (0, 40, .inl (fun _ => 0)), .inr (4, [.ref 25, .int (-nI 1)]), .inl (0, 40, .inl (fun _ => 0)), .inr (4, [.ref 27, .int (-nI 1)]), .inl (0, 40, .inl (fun _ => 0)), .inr (4, [.ref 29, .int (-nI 1)]), .inl (0, 40, .inl (fun _ => 0)), .inr (4, [.ref 31, .int (-nI 1)]), .inl (0, 60, .inl (fun _ => 0)), .inr (4, [.ref 33, .int (-nI 1)]), .inl (0, 60, .inl (fun _ => 0))] 33 555 := by
    intro x hx
    subst hx
    refine hG 200 _ _ _ _ _ _ ?_
    refine br_f (by decide) ?_
    refine Exists.intro 60 ⟨rfl, ?_⟩
    refine Exists.intro false (Exists.intro 1 (Exists.intro 0 (Exists.intro 0 (Exists.intro _ ⟨(fun h => by cases h), by decide, by decide, by decide, c_S_init false _ 34 35 .null 0 rfl, ?_⟩))))
    refine Exists.intro 2 ⟨by decide, rfl, ?_⟩
    exact t3 _ (nI_s1 2)
  have t1 : ∀ x, x = nI 1 → Go 153 [some (.ref 0), some (.int x)] [] [.inr (0, [.ref 1, .ref 2, .ref 3, .ref 6, .ref 8, .ref 13, .ref 14, .ref 16, .ref 17, .int (nI 0), .int (nI 0), .long (lN 0), .long (lN 1)]), .inl (2, 6, .inr (.inr (.inr (.inr (va_up (va_up (va_up (va_up (va_up (va_up (fun _ => none) 0 (some 18)) 1 (some 20)) 2 (some 22)) 3 (some 24)) 4 (some 26)) 5 (some 28)))))), .inl (2, 4, .inr (.inr (.inr (.inr (va_up (fun _ => none) 0 (some 30)))))), .inr (5, [.ref 4, .int (nI 0)]), .inr (6, [.int (nI 0), .ref 5]), .inl (0, 6, .inl (fun _ => 0)), .inr (6, [.int (nI 0), .ref 7]), .inl (0, 6, .inl (fun _ => 0)), .inr (2, [.int (nI 0), .int (nI 0), .int (nI 0), .ref 9, .ref 10, .ref 11, .ref 12]), .inl (0, 6, .inl (fun _ => 0)), .inl (0, 40, .inl (fun _ => 0)), .inl (0, 40, .inl (fun _ => 0)), .inl (0, 40, .inl (fun _ => 0)), .inl (3, 3, .inr (.inr (.inr (.inr (fun _ => none))))), .inr (3, [.ref 6, .int (nI 0), .ref 15, .int (nI 0)]), .inl (0, 4, .inl (fun _ => 0)), .inr (1, [.ref 6]), .inl (0, 6, .inl (fun _ => 0)), .inr (4, [.ref 19, .int (-nI 1)]), .inl (0, 40, .inl (fun _ => 0)), .inr (4, [.ref 21, .int (-nI 1)]), .inl (0, 40, .inl (fun _ => 0)), .inr (4, [.ref 23, .int (-nI 1)]), .inl (0, 40, .inl (fun _ => 0)), .inr (4, [.ref 25, .int (-nI 1)]), .inl (0, 40, .inl (fun _ => 0)), .inr (4, [.ref 27, .int (-nI 1)]), .inl (0, 40, .inl (fun _ => 0)), .inr (4, [.ref 29, .int (-nI 1)]), .inl (0, 40, .inl (fun _ => 0)), .inr (4, [.ref 31, .int (-nI 1)]), .inl (0, 60, .inl (fun _ => 0))] 31 493 := by
    intro x hx
    subst hx
    refine hG 200 _ _ _ _ _ _ ?_
    refine br_f (by decide) ?_
    refine Exists.intro 60 ⟨rfl, ?_⟩
    refine Exists.intro false (Exists.intro 1 (Exists.intro 0 (Exists.intro 0 (Exists.intro _ ⟨(fun h => by cases h), by decide, by decide, by decide, c_S_init false _ 32 33 .null 0 rfl, ?_⟩))))
    refine Exists.intro 1 ⟨by decide, rfl, ?_⟩
    exact t2 _ (nI_s1 1)
  have t0 : ∀ x, x = nI 0 → Go 153 [some (.ref 0), some (.int x)] [] [.inr (0, [.ref 1, .ref 2, .ref 3, .ref 6, .ref 8, .ref 13, .ref 14, .ref 16, .ref 17, .int (nI 0), .int (nI 0), .long (lN 0), .long (lN 1)]), .inl (2, 6, .inr (.inr (.inr (.inr (va_up (va_up (va_up (va_up (va_up (va_up (fun _ => none) 0 (some 18)) 1 (some 20)) 2 (some 22)) 3 (some 24)) 4 (some 26)) 5 (some 28)))))), .inl (2, 4, .inr (.inr (.inr (.inr (fun _ => none))))), .inr (5, [.ref 4, .int (nI 0)]), .inr (6, [.int (nI 0), .ref 5]), .inl (0, 6, .inl (fun _ => 0)), .inr (6, [.int (nI 0), .ref 7]), .inl (0, 6, .inl (fun _ => 0)), .inr (2, [.int (nI 0), .int (nI 0), .int (nI 0), .ref 9, .ref 10, .ref 11, .ref 12]), .inl (0, 6, .inl (fun _ => 0)), .inl (0, 40, .inl (fun _ => 0)), .inl (0, 40, .inl (fun _ => 0)), .inl (0, 40, .inl (fun _ => 0)), .inl (3, 3, .inr (.inr (.inr (.inr (fun _ => none))))), .inr (3, [.ref 6, .int (nI 0), .ref 15, .int (nI 0)]), .inl (0, 4, .inl (fun _ => 0)), .inr (1, [.ref 6]), .inl (0, 6, .inl (fun _ => 0)), .inr (4, [.ref 19, .int (-nI 1)]), .inl (0, 40, .inl (fun _ => 0)), .inr (4, [.ref 21, .int (-nI 1)]), .inl (0, 40, .inl (fun _ => 0)), .inr (4, [.ref 23, .int (-nI 1)]), .inl (0, 40, .inl (fun _ => 0)), .inr (4, [.ref 25, .int (-nI 1)]), .inl (0, 40, .inl (fun _ => 0)), .inr (4, [.ref 27, .int (-nI 1)]), .inl (0, 40, .inl (fun _ => 0)), .inr (4, [.ref 29, .int (-nI 1)]), .inl (0, 40, .inl (fun _ => 0))] 29 431 := by
    intro x hx
    subst hx
    refine hG 200 _ _ _ _ _ _ ?_
    refine br_f (by decide) ?_
    refine Exists.intro 60 ⟨rfl, ?_⟩
    refine Exists.intro false (Exists.intro 1 (Exists.intro 0 (Exists.intro 0 (Exists.intro _ ⟨(fun h => by cases h), by decide, by decide, by decide, c_S_init false _ 30 31 .null 0 rfl, ?_⟩))))
    refine Exists.intro 0 ⟨by decide, rfl, ?_⟩
    exact t1 _ (nI_s1 0)
  have r6 : ∀ x, x = nI 6 → Go 122 [some (.ref 0), some (.int x)] [] [.inr (0, [.ref 1, .ref 2, .ref 3, .ref 6, .ref 8, .ref 13, .ref 14, .ref 16, .ref 17, .int (nI 0), .int (nI 0), .long (lN 0), .long (lN 1)]), .inl (2, 6, .inr (.inr (.inr (.inr (va_up (va_up (va_up (va_up (va_up (va_up (fun _ => none) 0 (some 18)) 1 (some 20)) 2 (some 22)) 3 (some 24)) 4 (some 26)) 5 (some 28)))))), .inl (2, 4, .inr (.inr (.inr (.inr (fun _ => none))))), .inr (5, [.ref 4, .int (nI 0)]), .inr (6, [.int (nI 0), .ref 5]), .inl (0, 6, .inl (fun _ => 0)), .inr (6, [.int (nI 0), .ref 7]), .inl (0, 6, .inl (fun _ => 0)), .inr (2, [.int (nI 0), .int (nI 0), .int (nI 0), .ref 9, .ref 10, .ref 11, .ref 12]), .inl (0, 6, .inl (fun _ => 0)), .inl (0, 40, .inl (fun _ => 0)), .inl (0, 40, .inl (fun _ => 0)), .inl (0, 40, .inl (fun _ => 0)), .inl (3, 3, .inr (.inr (.inr (.inr (fun _ => none))))), .inr (3, [.ref 6, .int (nI 0), .ref 15, .int (nI 0)]), .inl (0, 4, .inl (fun _ => 0)), .inr (1, [.ref 6]), .inl (0, 6, .inl (fun _ => 0)), .inr (4, [.ref 19, .int (-nI 1)]), .inl (0, 40, .inl (fun _ => 0)), .inr (4, [.ref 21, .int (-nI 1)]), .inl (0, 40, .inl (fun _ => 0)), .inr (4, [.ref 23, .int (-nI 1)]), .inl (0, 40, .inl (fun _ => 0)), .inr (4, [.ref 25, .int (-nI 1)]), .inl (0, 40, .inl (fun _ => 0)), .inr (4, [.ref 27, .int (-nI 1)]), .inl (0, 40, .inl (fun _ => 0)), .inr (4, [.ref 29, .int (-nI 1)]), .inl (0, 40, .inl (fun _ => 0))] 29 431 := by
    intro x hx
    subst hx
    refine hG 200 _ _ _ _ _ _ ?_
    refine br_t (by decide) ?_
    exact t0 _ rfl
  have r5 : ∀ x, x = nI 5 → Go 122 [some (.ref 0), some (.int x)] [] [.inr (0, [.ref 1, .ref 2, .ref 3, .ref 6, .ref 8, .ref 13, .ref 14, .ref 16, .ref 17, .int (nI 0), .int (nI 0), .long (lN 0), .long (lN 1)]), .inl (2, 6, .inr (.inr (.inr (.inr (va_up (va_up (va_up (va_up (va_up (fun _ => none) 0 (some 18)) 1 (some 20)) 2 (some 22)) 3 (some 24)) 4 (some 26)))))), .inl (2, 4, .inr (.inr (.inr (.inr (fun _ => none))))), .inr (5, [.ref 4, .int (nI 0)]), .inr (6, [.int (nI 0), .ref 5]), .inl (0, 6, .inl (fun _ => 0)), .inr (6, [.int (nI 0), .ref 7]), .inl (0, 6, .inl (fun _ => 0)), .inr (2, [.int (nI 0), .int (nI 0), .int (nI 0), .ref 9, .ref 10, .ref 11, .ref 12]), .inl (0, 6, .inl (fun _ => 0)), .inl (0, 40, .inl (fun _ => 0)), .inl (0, 40, .inl (fun _ => 0)), .inl (0, 40, .inl (fun _ => 0)), .inl (3, 3, .inr (.inr (.inr (.inr (fun _ => none))))), .inr (3, [.ref 6, .int (nI 0), .ref 15, .int (nI 0)]), .inl (0, 4, .inl (fun _ => 0)), .inr (1, [.ref 6]), .inl (0, 6, .inl (fun _ => 0)), .inr (4, [.ref 19, .int (-nI 1)]), .inl (0, 40, .inl (fun _ => 0)), .inr (4, [.ref 21, .int (-nI 1)]), .inl (0, 40, .inl (fun _ => 0)), .inr (4, [.ref 23, .int (-nI 1)]), .inl (0, 40, .inl (fun _ => 0)), .inr (4, [.ref 25, .int (-nI 1)]), .inl (0, 40, .inl (fun _ => 0)), .inr (4, [.ref 27, .int (-nI 1)]), .inl (0, 40, .inl (fun _ => 0))] 27 389 := by
    intro x hx
    subst hx
    refine hG 200 _ _ _ _ _ _ ?_
    refine br_f (by decide) ?_
    refine Exists.intro 40 ⟨rfl, ?_⟩
    refine Exists.intro false (Exists.intro 1 (Exists.intro 0 (Exists.intro 0 (Exists.intro _ ⟨(fun h => by cases h), by decide, by decide, by decide, c_S_init false _ 28 29 .null 0 rfl, ?_⟩))))
    refine Exists.intro 5 ⟨by decide, rfl, ?_⟩
    exact r6 _ (nI_s1 5)
  have r4 : ∀ x, x = nI 4 → Go 122 [some (.ref 0), some (.int x)] [] [.inr (0, [.ref 1, .ref 2, .ref 3, .ref 6, .ref 8, .ref 13, .ref 14, .ref 16, .ref 17, .int (nI 0), .int (nI 0), .long (lN 0), .long (lN 1)]), .inl (2, 6, .inr (.inr (.inr (.inr (va_up (va_up (va_up (va_up (fun _ => none) 0 (some 18)) 1 (some 20)) 2 (some 22)) 3 (some 24)))))), .inl (2, 4, .inr (.inr (.inr (.inr (fun _ => none))))), .inr (5, [.ref 4, .int (nI 0)]), .inr (6, [.int (nI 0), .ref 5]), .inl (0, 6, .inl (fun _ => 0)), .inr (6, [.int (nI 0), .ref 7]), .inl (0, 6, .inl (fun _ => 0)), .inr (2, [.int (nI 0), .int (nI 0), .int (nI 0), .ref 9, .ref 10, .ref 11, .ref 12]), .inl (0, 6, .inl (fun _ => 0)), .inl (0, 40, .inl (fun _ => 0)), .inl (0, 40, .inl (fun _ => 0)), .inl (0, 40, .inl (fun _ => 0)), .inl (3, 3, .inr (.inr (.inr (.inr (fun _ => none))))), .inr (3, [.ref 6, .int (nI 0), .ref 15, .int (nI 0)]), .inl (0, 4, .inl (fun _ => 0)), .inr (1, [.ref 6]), .inl (0, 6, .inl (fun _ => 0)), .inr (4, [.ref 19, .int (-nI 1)]), .inl (0, 40, .inl (fun _ => 0)), .inr (4, [.ref 21, .int (-nI 1)]), .inl (0, 40, .inl (fun _ => 0)), .inr (4, [.ref 23, .int (-nI 1)]), .inl (0, 40, .inl (fun _ => 0)), .inr (4, [.ref 25, .int (-nI 1)]), .inl (0, 40, .inl (fun _ => 0))] 25 347 := by
    intro x hx
    subst hx
    refine hG 200 _ _ _ _ _ _ ?_
    refine br_f (by decide) ?_
    refine Exists.intro 40 ⟨rfl, ?_⟩
    refine Exists.intro false (Exists.intro 1 (Exists.intro 0 (Exists.intro 0 (Exists.intro _ ⟨(fun h => by cases h), by decide, by decide, by decide, c_S_init false _ 26 27 .null 0 rfl, ?_⟩))))
    refine Exists.intro 4 ⟨by decide, rfl, ?_⟩
    exact r5 _ (nI_s1 4)
  have r3 : ∀ x, x = nI 3 → Go 122 [some (.ref 0), some (.int x)] [] [.inr (0, [.ref 1, .ref 2, .ref 3, .ref 6, .ref 8, .ref 13, .ref 14, .ref 16, .ref 17, .int (nI 0), .int (nI 0), .long (lN 0), .long (lN 1)]), .inl (2, 6, .inr (.inr (.inr (.inr (va_up (va_up (va_up (fun _ => none) 0 (some 18)) 1 (some 20)) 2 (some 22)))))), .inl (2, 4, .inr (.inr (.inr (.inr (fun _ => none))))), .inr (5, [.ref 4, .int (nI 0)]), .inr (6, [.int (nI 0), .ref 5]), .inl (0, 6, .inl (fun _ => 0)), .inr (6, [.int (nI 0), .ref 7]), .inl (0, 6, .inl (fun _ => 0)), .inr (2, [.int (nI 0), .int (nI 0), .int (nI 0), .ref 9, .ref 10, .ref 11, .ref 12]), .inl (0, 6, .inl (fun _ => 0)), .inl (0, 40, .inl (fun _ => 0)), .inl (0, 40, .inl (fun _ => 0)), .inl (0, 40, .inl (fun _ => 0)), .inl (3, 3, .inr (.inr (.inr (.inr (fun _ => none))))), .inr (3, [.ref 6, .int (nI 0), .ref 15, .int (nI 0)]), .inl (0, 4, .inl (fun _ => 0)), .inr (1, [.ref 6]), .inl (0, 6, .inl (fun _ => 0)), .inr (4, [.ref 19, .int (-nI 1)]), .inl (0, 40, .inl (fun _ => 0)), .inr (4, [.ref 21, .int (-nI 1)]), .inl (0, 40, .inl (fun _ => 0)), .inr (4, [.ref 23, .int (-nI 1)]), .inl (0, 40, .inl (fun _ => 0))] 23 305 := by
    intro x hx
    subst hx
    refine hG 200 _ _ _ _ _ _ ?_
    refine br_f (by decide) ?_
    refine Exists.intro 40 ⟨rfl, ?_⟩
    refine Exists.intro false (Exists.intro 1 (Exists.intro 0 (Exists.intro 0 (Exists.intro _ ⟨(fun h => by cases h), by decide, by decide, by decide, c_S_init false _ 24 25 .null 0 rfl, ?_⟩))))
    refine Exists.intro 3 ⟨by decide, rfl, ?_⟩
    exact r4 _ (nI_s1 3)
  have r2 : ∀ x, x = nI 2 → Go 122 [some (.ref 0), some (.int x)] [] [.inr (0, [.ref 1, .ref 2, .ref 3, .ref 6, .ref 8, .ref 13, .ref 14, .ref 16, .ref 17, .int (nI 0), .int (nI 0), .long (lN 0), .long (lN 1)]), .inl (2, 6, .inr (.inr (.inr (.inr (va_up (va_up (fun _ => none) 0 (some 18)) 1 (some 20)))))), .inl (2, 4, .inr (.inr (.inr (.inr (fun _ => none))))), .inr (5, [.ref 4, .int (nI 0)]), .inr (6, [.int (nI 0), .ref 5]), .inl (0, 6, .inl (fun _ => 0)), .inr (6, [.int (nI 0), .ref 7]), .inl (0, 6, .inl (fun _ => 0)), .inr (2, [.int (nI 0), .int (nI 0), .int (nI 0), .ref 9, .ref 10, .ref 11, .ref 12]), .inl (0, 6, .inl (fun _ => 0)), .inl (0, 40, .inl (fun _ => 0)), .inl (0, 40, .inl (fun _ => 0)), .inl (0, 40, .inl (fun _ => 0)), .inl (3, 3, .inr (.inr (.inr (.inr (fun _ => none))))), .inr (3, [.ref 6, .int (nI 0), .ref 15, .int (nI 0)]), .inl (0, 4, .inl (fun _ => 0)), .inr (1, [.ref 6]), .inl (0, 6, .inl (fun _ => 0)), .inr (4, [.ref 19, .int (-nI 1)]), .inl (0, 40, .inl (fun _ => 0)), .inr (4, [.ref 21, .int (-nI 1)]), .inl (0, 40, .inl (fun _ => 0))] 21 263 := by
    intro x hx
    subst hx
    refine hG 200 _ _ _ _ _ _ ?_
    refine br_f (by decide) ?_
    refine Exists.intro 40 ⟨rfl, ?_⟩
    refine Exists.intro false (Exists.intro 1 (Exists.intro 0 (Exists.intro 0 (Exists.intro _ ⟨(fun h => by cases h), by decide, by decide, by decide, c_S_init false _ 22 23 .null 0 rfl, ?_⟩))))
    refine Exists.intro 2 ⟨by decide, rfl, ?_⟩
    exact r3 _ (nI_s1 2)
  have r1 : ∀ x, x = nI 1 → Go 122 [some (.ref 0), some (.int x)] [] [.inr (0, [.ref 1, .ref 2, .ref 3, .ref 6, .ref 8, .ref 13, .ref 14, .ref 16, .ref 17, .int (nI 0), .int (nI 0), .long (lN 0), .long (lN 1)]), .inl (2, 6, .inr (.inr (.inr (.inr (va_up (fun _ => none) 0 (some 18)))))), .inl (2, 4, .inr (.inr (.inr (.inr (fun _ => none))))), .inr (5, [.ref 4, .int (nI 0)]), .inr (6, [.int (nI 0), .ref 5]), .inl (0, 6, .inl (fun _ => 0)), .inr (6, [.int (nI 0), .ref 7]), .inl (0, 6, .inl (fun _ => 0)), .inr (2, [.int (nI 0), .int (nI 0), .int (nI 0), .ref 9, .ref 10, .ref 11, .ref 12]), .inl (0, 6, .inl (fun _ => 0)), .inl (0, 40, .inl (fun _ => 0)), .inl (0, 40, .inl (fun _ => 0)), .inl (0, 40, .inl (fun _ => 0)), .inl (3, 3, .inr (.inr (.inr (.inr (fun _ => none))))), .inr (3, [.ref 6, .int (nI 0), .ref 15, .int (nI 0)]), .inl (0, 4, .inl (fun _ => 0)), .inr (1, [.ref 6]), .inl (0, 6, .inl (fun _ => 0)), .inr (4, [.ref 19, .int (-nI 1)]), .inl (0, 40, .inl (fun _ => 0))] 19 221 := by
    intro x hx
    subst hx
    refine hG 200 _ _ _ _ _ _ ?_
    refine br_f (by decide) ?_
    refine Exists.intro 40 ⟨rfl, ?_⟩
    refine Exists.intro false (Exists.intro 1 (Exists.intro 0 (Exists.intro 0 (Exists.intro _ ⟨(fun h => by cases h), by decide, by decide, by decide, c_S_init false _ 20 21 .null 0 rfl, ?_⟩))))
    refine Exists.intro 1 ⟨by decide, rfl, ?_⟩
    exact r2 _ (nI_s1 1)
  have r0 : ∀ x, x = nI 0 → Go 122 [some (.ref 0), some (.int x)] [] [.inr (0, [.ref 1, .ref 2, .ref 3, .ref 6, .ref 8, .ref 13, .ref 14, .ref 16, .ref 17, .int (nI 0), .int (nI 0), .long (lN 0), .long (lN 1)]), .inl (2, 6, .inr (.inr (.inr (.inr (fun _ => none))))), .inl (2, 4, .inr (.inr (.inr (.inr (fun _ => none))))), .inr (5, [.ref 4, .int (nI 0)]), .inr (6, [.int (nI 0), .ref 5]), .inl (0, 6, .inl (fun _ => 0)), .inr (6, [.int (nI 0), .ref 7]), .inl (0, 6, .inl (fun _ => 0)), .inr (2, [.int (nI 0), .int (nI 0), .int (nI 0), .ref 9, .ref 10, .ref 11, .ref 12]), .inl (0, 6, .inl (fun _ => 0)), .inl (0, 40, .inl (fun _ => 0)), .inl (0, 40, .inl (fun _ => 0)), .inl (0, 40, .inl (fun _ => 0)), .inl (3, 3, .inr (.inr (.inr (.inr (fun _ => none))))), .inr (3, [.ref 6, .int (nI 0), .ref 15, .int (nI 0)]), .inl (0, 4, .inl (fun _ => 0)), .inr (1, [.ref 6]), .inl (0, 6, .inl (fun _ => 0))] 17 179 := by
    intro x hx
    subst hx
    refine hG 200 _ _ _ _ _ _ ?_
    refine br_f (by decide) ?_
    refine Exists.intro 40 ⟨rfl, ?_⟩
    refine Exists.intro false (Exists.intro 1 (Exists.intro 0 (Exists.intro 0 (Exists.intro _ ⟨(fun h => by cases h), by decide, by decide, by decide, c_S_init false _ 18 19 .null 0 rfl, ?_⟩))))
    refine Exists.intro 0 ⟨by decide, rfl, ?_⟩
    exact r1 _ (nI_s1 0)
  have g100 : Go 100 [some (.ref 0), none] [] [.inr (0, [.ref 1, .ref 2, .ref 3, .ref 6, .ref 8, .ref 13, .ref 14, .ref 16, .ref 17, .int 0, .int 0, .long 0, .long 0]), .inl (2, 6, .inr (.inr (.inr (.inr (fun _ => none))))), .inl (2, 4, .inr (.inr (.inr (.inr (fun _ => none))))), .inr (5, [.ref 4, .int (nI 0)]), .inr (6, [.int (nI 0), .ref 5]), .inl (0, 6, .inl (fun _ => 0)), .inr (6, [.int (nI 0), .ref 7]), .inl (0, 6, .inl (fun _ => 0)), .inr (2, [.int (nI 0), .int (nI 0), .int (nI 0), .ref 9, .ref 10, .ref 11, .ref 12]), .inl (0, 6, .inl (fun _ => 0)), .inl (0, 40, .inl (fun _ => 0)), .inl (0, 40, .inl (fun _ => 0)), .inl (0, 40, .inl (fun _ => 0)), .inl (3, 3, .inr (.inr (.inr (.inr (fun _ => none))))), .inr (3, [.ref 6, .int (nI 0), .ref 15, .int (nI 0)]), .inl (0, 4, .inl (fun _ => 0)), .inr (1, [.ref 6]), .inl (0, 6, .inl (fun _ => 0))] 17 179 := by
    refine hG 200 _ _ _ _ _ _ ?_
    exact r0 _ rfl
  have g92 : Go 92 [some (.ref 0), none] [] [.inr (0, [.ref 1, .ref 2, .ref 3, .ref 6, .ref 8, .ref 13, .ref 14, .ref 16, .null, .int 0, .int 0, .long 0, .long 0]), .inl (2, 6, .inr (.inr (.inr (.inr (fun _ => none))))), .inl (2, 4, .inr (.inr (.inr (.inr (fun _ => none))))), .inr (5, [.ref 4, .int (nI 0)]), .inr (6, [.int (nI 0), .ref 5]), .inl (0, 6, .inl (fun _ => 0)), .inr (6, [.int (nI 0), .ref 7]), .inl (0, 6, .inl (fun _ => 0)), .inr (2, [.int (nI 0), .int (nI 0), .int (nI 0), .ref 9, .ref 10, .ref 11, .ref 12]), .inl (0, 6, .inl (fun _ => 0)), .inl (0, 40, .inl (fun _ => 0)), .inl (0, 40, .inl (fun _ => 0)), .inl (0, 40, .inl (fun _ => 0)), .inl (3, 3, .inr (.inr (.inr (.inr (fun _ => none))))), .inr (3, [.ref 6, .int (nI 0), .ref 15, .int (nI 0)]), .inl (0, 4, .inl (fun _ => 0)), .inr (1, [.ref 6])] 16 173 := by
    refine hG 200 _ _ _ _ _ _ ?_
    refine Exists.intro 6 ⟨rfl, ?_⟩
    exact g100
  have g77 : Go 77 [some (.ref 0), none] [] [.inr (0, [.ref 1, .ref 2, .ref 3, .ref 6, .ref 8, .ref 13, .ref 14, .null, .null, .int 0, .int 0, .long 0, .long 0]), .inl (2, 6, .inr (.inr (.inr (.inr (fun _ => none))))), .inl (2, 4, .inr (.inr (.inr (.inr (fun _ => none))))), .inr (5, [.ref 4, .int (nI 0)]), .inr (6, [.int (nI 0), .ref 5]), .inl (0, 6, .inl (fun _ => 0)), .inr (6, [.int (nI 0), .ref 7]), .inl (0, 6, .inl (fun _ => 0)), .inr (2, [.int (nI 0), .int (nI 0), .int (nI 0), .ref 9, .ref 10, .ref 11, .ref 12]), .inl (0, 6, .inl (fun _ => 0)), .inl (0, 40, .inl (fun _ => 0)), .inl (0, 40, .inl (fun _ => 0)), .inl (0, 40, .inl (fun _ => 0)), .inl (3, 3, .inr (.inr (.inr (.inr (fun _ => none))))), .inr (3, [.ref 6, .int (nI 0), .ref 15, .int (nI 0)]), .inl (0, 4, .inl (fun _ => 0))] 15 172 := by
    refine hG 200 _ _ _ _ _ _ ?_
    refine Exists.intro true (Exists.intro 1 (Exists.intro 0 (Exists.intro 0 (Exists.intro _ ⟨fun h => h, by decide, by decide, by decide, c_C_init, ?_⟩))))
    exact g92
  have g62 : Go 62 [some (.ref 0), none] [] [.inr (0, [.ref 1, .ref 2, .ref 3, .ref 6, .ref 8, .ref 13, .null, .null, .null, .int 0, .int 0, .long 0, .long 0]), .inl (2, 6, .inr (.inr (.inr (.inr (fun _ => none))))), .inl (2, 4, .inr (.inr (.inr (.inr (fun _ => none))))), .inr (5, [.ref 4, .int (nI 0)]), .inr (6, [.int (nI 0), .ref 5]), .inl (0, 6, .inl (fun _ => 0)), .inr (6, [.int (nI 0), .ref 7]), .inl (0, 6, .inl (fun _ => 0)), .inr (2, [.int (nI 0), .int (nI 0), .int (nI 0), .ref 9, .ref 10, .ref 11, .ref 12]), .inl (0, 6, .inl (fun _ => 0)), .inl (0, 40, .inl (fun _ => 0)), .inl (0, 40, .inl (fun _ => 0)), .inl (0, 40, .inl (fun _ => 0)), .inl (3, 3, .inr (.inr (.inr (.inr (fun _ => none)))))] 13 164 := by
    refine hG 200 _ _ _ _ _ _ ?_
    refine Exists.intro true (Exists.intro 1 (Exists.intro 1 (Exists.intro 4 (Exists.intro _ ⟨fun h => h, by decide, by decide, by decide, c_O_init, ?_⟩))))
    exact g77
  have g54 : Go 54 [some (.ref 0), none] [] [.inr (0, [.ref 1, .ref 2, .ref 3, .ref 6, .ref 8, .null, .null, .null, .null, .int 0, .int 0, .long 0, .long 0]), .inl (2, 6, .inr (.inr (.inr (.inr (fun _ => none))))), .inl (2, 4, .inr (.inr (.inr (.inr (fun _ => none))))), .inr (5, [.ref 4, .int (nI 0)]), .inr (6, [.int (nI 0), .ref 5]), .inl (0, 6, .inl (fun _ => 0)), .inr (6, [.int (nI 0), .ref 7]), .inl (0, 6, .inl (fun _ => 0)), .inr (2, [.int (nI 0), .int (nI 0), .int (nI 0), .ref 9, .ref 10, .ref 11, .ref 12]), .inl (0, 6, .inl (fun _ => 0)), .inl (0, 40, .inl (fun _ => 0)), .inl (0, 40, .inl (fun _ => 0)), .inl (0, 40, .inl (fun _ => 0))] 12 161 := by
    refine hG 200 _ _ _ _ _ _ ?_
    refine Exists.intro 3 ⟨rfl, ?_⟩
    exact g62
  have g43 : Go 43 [some (.ref 0), none] [] [.inr (0, [.ref 1, .ref 2, .ref 3, .ref 6, .null, .null, .null, .null, .null, .int 0, .int 0, .long 0, .long 0]), .inl (2, 6, .inr (.inr (.inr (.inr (fun _ => none))))), .inl (2, 4, .inr (.inr (.inr (.inr (fun _ => none))))), .inr (5, [.ref 4, .int (nI 0)]), .inr (6, [.int (nI 0), .ref 5]), .inl (0, 6, .inl (fun _ => 0)), .inr (6, [.int (nI 0), .ref 7]), .inl (0, 6, .inl (fun _ => 0))] 7 28 := by
    refine hG 200 _ _ _ _ _ _ ?_
    refine Exists.intro true (Exists.intro 1 (Exists.intro 4 (Exists.intro 126 (Exists.intro _ ⟨fun h => h, by decide, by decide, by decide, c_E_init _ 8 rfl, ?_⟩))))
    exact g54
  have g32 : Go 32 [some (.ref 0), none] [] [.inr (0, [.ref 1, .ref 2, .ref 3, .null, .null, .null, .null, .null, .null, .int 0, .int 0, .long 0, .long 0]), .inl (2, 6, .inr (.inr (.inr (.inr (fun _ => none))))), .inl (2, 4, .inr (.inr (.inr (.inr (fun _ => none))))), .inr (5, [.ref 4, .int (nI 0)]), .inr (6, [.int (nI 0), .ref 5]), .inl (0, 6, .inl (fun _ => 0))] 5 20 := by
    refine hG 200 _ _ _ _ _ _ ?_
    refine Exists.intro true (Exists.intro 1 (Exists.intro 1 (Exists.intro 6 (Exists.intro _ ⟨fun h => h, by decide, by decide, by decide, c_P_init _ 6 rfl, ?_⟩))))
    exact g43
  have g21 : Go 21 [some (.ref 0), none] [] [.inr (0, [.ref 1, .ref 2, .null, .null, .null, .null, .null, .null, .null, .int 0, .int 0, .long 0, .long 0]), .inl (2, 6, .inr (.inr (.inr (.inr (fun _ => none))))), .inl (2, 4, .inr (.inr (.inr (.inr (fun _ => none)))))] 2 10 := by
    refine hG 200 _ _ _ _ _ _ ?_
    refine Exists.intro true (Exists.intro 2 (Exists.intro 2 (Exists.intro 8 (Exists.intro _ ⟨fun h => h, by decide, by decide, by decide, c_L_init, ?_⟩))))
    exact g32
  have g13 : Go 13 [some (.ref 0), none] [] [.inr (0, [.ref 1, .null, .null, .null, .null, .null, .null, .null, .null, .int 0, .int 0, .long 0, .long 0]), .inl (2, 6, .inr (.inr (.inr (.inr (fun _ => none)))))] 1 6 := by
    refine hG 200 _ _ _ _ _ _ ?_
    refine Exists.intro 4 ⟨rfl, ?_⟩
    exact g21
  have g4 : Go 4 [some (.ref 0), none] [] [.inr (0, [.null, .null, .null, .null, .null, .null, .null, .null, .null, .int 0, .int 0, .long 0, .long 0])] 0 0 := by
    refine hG 200 _ _ _ _ _ _ ?_
    refine Exists.intro 6 ⟨rfl, ?_⟩
    exact g13
  refine hG 200 _ _ _ _ _ _ ?_
  exact g4

def cI0 : Nat → Int32 := fun i => if i = 42 ∨ i = 45 ∨ i = 48 ∨ (60 ≤ i ∧ i < 66) ∨ (70 ≤ i ∧ i < 74) then -nI 1 else nI 0
def S0 : Sta := ((0, fun _ => 0, (0, fun _ _ => 0, fun _ _ => 0, fun _ => 0), fun _ => none), (fun _ => -nI 1, fun _ _ => 0), (fun _ => -nI 1, fun _ _ => 0), (nI 0, nI 0, fun _ => nI 0, lN 0, lN 1))
theorem ch_R : (va_up (va_up (va_up (va_up (va_up (va_up (fun _ => none) 0 (some 18)) 1 (some 20)) 2 (some 22)) 3 (some 24)) 4 (some 26)) 5 (some 28)) = rfR := by
  funext j
  unfold va_up rfR
  by_cases h : j < 6
  · rcases (show j = 0 ∨ j = 1 ∨ j = 2 ∨ j = 3 ∨ j = 4 ∨ j = 5 by omega) with rfl | rfl | rfl | rfl | rfl | rfl <;> rfl
  · rw [if_neg h, if_neg (by omega), if_neg (by omega), if_neg (by omega), if_neg (by omega), if_neg (by omega), if_neg (by omega)]
theorem ch_T : (va_up (va_up (va_up (va_up (fun _ => none) 0 (some 30)) 1 (some 32)) 2 (some 34)) 3 (some 36)) = rfT := by
  funext j
  unfold va_up rfT
  by_cases h : j < 4
  · rcases (show j = 0 ∨ j = 1 ∨ j = 2 ∨ j = 3 by omega) with rfl | rfl | rfl | rfl <;> rfl
  · rw [if_neg h, if_neg (by omega), if_neg (by omega), if_neg (by omega), if_neg (by omega)]
theorem ch_E : (va_up (va_up (va_up (fun _ => none) 0 (some 38)) 1 (some 43)) 2 (some 48)) = rfE := by
  funext j
  unfold va_up rfE
  by_cases h : j < 3
  · rcases (show j = 0 ∨ j = 1 ∨ j = 2 by omega) with rfl | rfl | rfl <;> rfl
  · rw [if_neg h, if_neg (by omega), if_neg (by omega), if_neg (by omega)]
theorem tH0_eq : tH0 = cH cI0 (fun _ _ => 0) (lN 0) (lN 1) := by
  unfold tH0
  rw [ch_R, ch_T, ch_E]
  rfl
theorem RC_0 : RC S0 tH0 := by
  refine ⟨cI0, fun _ _ => 0, tH0_eq, ⟨rfl, by decide, fun i hi => absurd hi (Nat.not_lt_zero _), ⟨by decide, rfl, rfl, rfl, fun i _ => rfl, fun q _ i _ _ => rfl, fun q hq => absurd hq (Nat.not_lt_zero _)⟩, fun d _ => ⟨fun k hk => absurd hk (Nat.not_lt_zero _), fun i j hi => absurd hi (Nat.not_lt_zero _)⟩, fun q hq => ?_⟩, fun r hr => ⟨?_, Or.inl rfl, fun i _ => rfl⟩, fun r hr => ⟨?_, Or.inl rfl, fun i _ => rfl⟩, ⟨rfl, rfl, fun f _ => rfl⟩⟩
  · show cI0 (42 + 3 * q) = -nI 1
    unfold cI0
    rw [if_pos (by omega)]
  · show cI0 (60 + r) = -nI 1
    unfold cI0
    rw [if_pos (by omega)]
  · show cI0 (70 + r) = -nI 1
    unfold cI0
    rw [if_pos (by omega)]

