/-! ===== the reference: a new object ===== -/
def mH0 : List Am_C := [.inr (7, [.ref 1, .ref 2, .int 0, .ref 3, .ref 4, .ref 5, .ref 6, .ref 7, .int 0, .long 0, .long (lN 1), .int 0, .ref 8, .ref 9, .ref 10, .int 0, .ref 11]), .inl (0, 2149, .inl (fun _ => 0)), .inl (0, 6, .inl (fun _ => 0)), .inl (0, 3, .inl (upd (upd (upd (fun _ => 0) 0 (-nI 1)) 1 (-nI 1)) 2 (-nI 1))), .inl (0, 240, .inl (fun _ => 0)), .inl (0, 6, .inl (upd (upd (upd (upd (upd (upd (fun _ => 0) 0 (-nI 1)) 1 (-nI 1)) 2 (-nI 1)) 3 (-nI 1)) 4 (-nI 1)) 5 (-nI 1))), .inl (1, 240, .inl (fun _ => 0)), .inl (0, 4, .inl (upd (upd (upd (upd (fun _ => 0) 0 (-nI 1)) 1 (-nI 1)) 2 (-nI 1)) 3 (-nI 1))), .inl (0, 6, .inl (fun _ => 0)), .inl (0, 6, .inl (fun _ => 0)), .inl (0, 6, .inl (fun _ => 0)), .inl (0, 2801, .inl (fun _ => 0))]
theorem c_M_init : Am_Ev true 1 11 5467 131 [.ref 0] [.inr (7, am_dv 7)] none mH0 := by
  refine am_ev 2 none true [4, 13, 21, 28, 37, 45, 54, 61, 74, 82, 90, 99, 101, 122, 142] ok_M_init am_mP_131 (by rw [am_m_131]) (by rw [am_m_131]) (fun _ => by rw [am_m_131]) (Nat.le_of_ble_eq_true rfl) (fun Go hG => ?_)
  have k3 : ∀ x, x = nI 3 → Go 142 [some (.ref 0), some (.int x)] [] [.inr (7, [.ref 1, .ref 2, .int 0, .ref 3, .ref 4, .ref 5, .ref 6, .ref 7, .int 0, .long 0, .long (lN 1), .int 0, .ref 8, .ref 9, .ref 10, .int 0, .ref 11]), .inl (0, 2149, .inl (fun _ => 0)), .inl (0, 6, .inl (fun _ => 0)), .inl (0, 3, .inl (upd (upd (upd (fun _ => 0) 0 (-nI 1)) 1 (-nI 1)) 2 (-nI 1))), .inl (0, 240, .inl (fun _ => 0)), .inl (0, 6, .inl (upd (upd (upd (upd (upd (upd (fun _ => 0) 0 (-nI 1)) 1 (-nI 1)) 2 (-nI 1)) 3 (-nI 1)) 4 (-nI 1)) 5 (-nI 1))), .inl (1, 240, .inl (fun _ => 0)), .inl (0, 4, .inl (upd (upd (upd (upd (fun _ => 0) 0 (-nI 1)) 1 (-nI 1)) 2 (-nI 1)) 3 (-nI 1))), .inl (0, 6, .inl (fun _ => 0)), .inl (0, 6, .inl (fun _ => 0)), .inl (0, 6, .inl (fun _ => 0)), .inl (0, 2801, .inl (fun _ => 0))] 11 5467 := by
    intro x hx
    subst hx
    refine hG 200 _ _ _ _ _ _ ?_
    refine br_t (by decide) ?_
    exact ⟨rfl, rfl, rfl, rfl⟩
  have k2 : ∀ x, x = nI 2 → Go 142 [some (.ref 0), some (.int x)] [] [.inr (7, [.ref 1, .ref 2, .int 0, .ref 3, .ref 4, .ref 5, .ref 6, .ref 7, .int 0, .long 0, .long (lN 1), .int 0, .ref 8, .ref 9, .ref 10, .int 0, .ref 11]), .inl (0, 2149, .inl (fun _ => 0)), .inl (0, 6, .inl (fun _ => 0)), .inl (0, 3, .inl (upd (upd (fun _ => 0) 0 (-nI 1)) 1 (-nI 1))), .inl (0, 240, .inl (fun _ => 0)), .inl (0, 6, .inl (upd (upd (upd (upd (upd (upd (fun _ => 0) 0 (-nI 1)) 1 (-nI 1)) 2 (-nI 1)) 3 (-nI 1)) 4 (-nI 1)) 5 (-nI 1))), .inl (1, 240, .inl (fun _ => 0)), .inl (0, 4, .inl (upd (upd (upd (upd (fun _ => 0) 0 (-nI 1)) 1 (-nI 1)) 2 (-nI 1)) 3 (-nI 1))), .inl (0, 6, .inl (fun _ => 0)), .inl (0, 6, .inl (fun _ => 0)), .inl (0, 6, .inl (fun _ => 0)), .inl (0, 2801, .inl (fun _ => 0))] 11 5467 := by
    intro x hx
    subst hx
    refine hG 200 _ _ _ _ _ _ ?_
    refine br_f (by decide) ?_
    refine Exists.intro 2 ⟨by decide, rfl, ?_⟩
    exact k3 _ (nI_s1 2)
  have k1 : ∀ x, x = nI 1 → Go 142 [some (.ref 0), some (.int x)] [] [.inr (7, [.ref 1, .ref 2, .int 0, .ref 3, .ref 4, .ref 5, .ref 6, .ref 7, .int 0, .long 0, .long (lN 1), .int 0, .ref 8, .ref 9, .ref 10, .int 0, .ref 11]), .inl (0, 2149, .inl (fun _ => 0)), .inl (0, 6, .inl (fun _ => 0)), .inl (0, 3, .inl (upd (fun _ => 0) 0 (-nI 1))), .inl (0, 240, .inl (fun _ => 0)), .inl (0, 6, .inl (upd (upd (upd (upd (upd (upd (fun _ => 0) 0 (-nI 1)) 1 (-nI 1)) 2 (-nI 1)) 3 (-nI 1)) 4 (-nI 1)) 5 (-nI 1))), .inl (1, 240, .inl (fun _ => 0)), .inl (0, 4, .inl (upd (upd (upd (upd (fun _ => 0) 0 (-nI 1)) 1 (-nI 1)) 2 (-nI 1)) 3 (-nI 1))), .inl (0, 6, .inl (fun _ => 0)), .inl (0, 6, .inl (fun _ => 0)), .inl (0, 6, .inl (fun _ => 0)), .inl (0, 2801, .inl (fun _ => 0))] 11 5467 := by
    intro x hx
    subst hx
    refine hG 200 _ _ _ _ _ _ ?_
    refine br_f (by decide) ?_
    refine Exists.intro 1 ⟨by decide, rfl, ?_⟩
    exact k2 _ (nI_s1 1)
  have k0 : ∀ x, x = nI 0 → Go 142 [some (.ref 0), some (.int x)] [] [.inr (7, [.ref 1, .ref 2, .int 0, .ref 3, .ref 4, .ref 5, .ref 6, .ref 7, .int 0, .long 0, .long (lN 1), .int 0, .ref 8, .ref 9, .ref 10, .int 0, .ref 11]), .inl (0, 2149, .inl (fun _ => 0)), .inl (0, 6, .inl (fun _ => 0)), .inl (0, 3, .inl (fun _ => 0)), .inl (0, 240, .inl (fun _ => 0)), .inl (0, 6, .inl (upd (upd (upd (upd (upd (upd (fun _ => 0) 0 (-nI 1)) 1 (-nI 1)) 2 (-nI 1)) 3 (-nI 1)) 4 (-nI 1)) 5 (-nI 1))), .inl (1, 240, .inl (fun _ => 0)), .inl (0, 4, .inl (upd (upd (upd (upd (fun _ => 0) 0 (-nI 1)) 1 (-nI 1)) 2 (-nI 1)) 3 (-nI 1))), .inl (0, 6, .inl (fun _ => 0)), .inl (0, 6, .inl (fun _ => 0)), .inl (0, 6, .inl (fun _ => 0)), .inl (0, 2801, .inl (fun _ => 0))] 11 5467 := by
    intro x hx
    subst hx
    refine hG 200 _ _ _ _ _ _ ?_
    refine br_f (by decide) ?_
    refine Exists.intro 0 ⟨by decide, rfl, ?_⟩
    exact k1 _ (nI_s1 0)
  have l4 : ∀ x, x = nI 4 → Go 122 [some (.ref 0), some (.int x)] [] [.inr (7, [.ref 1, .ref 2, .int 0, .ref 3, .ref 4, .ref 5, .ref 6, .ref 7, .int 0, .long 0, .long (lN 1), .int 0, .ref 8, .ref 9, .ref 10, .int 0, .ref 11]), .inl (0, 2149, .inl (fun _ => 0)), .inl (0, 6, .inl (fun _ => 0)), .inl (0, 3, .inl (fun _ => 0)), .inl (0, 240, .inl (fun _ => 0)), .inl (0, 6, .inl (upd (upd (upd (upd (upd (upd (fun _ => 0) 0 (-nI 1)) 1 (-nI 1)) 2 (-nI 1)) 3 (-nI 1)) 4 (-nI 1)) 5 (-nI 1))), .inl (1, 240, .inl (fun _ => 0)), .inl (0, 4, .inl (upd (upd (upd (upd (fun _ => 0) 0 (-nI 1)) 1 (-nI 1)) 2 (-nI 1)) 3 (-nI 1))), .inl (0, 6, .inl (fun _ => 0)), .inl (0, 6, .inl (fun _ => 0)), .inl (0, 6, .inl (fun _ => 0)), .inl (0, 2801, .inl (fun _ => 0))] 11 5467 := by
    intro x hx
    subst hx
    refine hG 200 _ _ _ _ _ _ ?_
    refine br_t (by decide) ?_
    exact k0 _ rfl
  have l3 : ∀ x, x = nI 3 → Go 122 [some (.ref 0), some (.int x)] [] [.inr (7, [.ref 1, .ref 2, .int 0, .ref 3, .ref 4, .ref 5, .ref 6, .ref 7, .int 0, .long 0, .long (lN 1), .int 0, .ref 8, .ref 9, .ref 10, .int 0, .ref 11]), .inl (0, 2149, .inl (fun _ => 0)), .inl (0, 6, .inl (fun _ => 0)), .inl (0, 3, .inl (fun _ => 0)), .inl (0, 240, .inl (fun _ => 0)), .inl (0, 6, .inl (upd (upd (upd (upd (upd (upd (fun _ => 0) 0 (-nI 1)) 1 (-nI 1)) 2 (-nI 1)) 3 (-nI 1)) 4 (-nI 1)) 5 (-nI 1))), .inl (1, 240, .inl (fun _ => 0)), .inl (0, 4, .inl (upd (upd (upd (fun _ => 0) 0 (-nI 1)) 1 (-nI 1)) 2 (-nI 1))), .inl (0, 6, .inl (fun _ => 0)), .inl (0, 6, .inl (fun _ => 0)), .inl (0, 6, .inl (fun _ => 0)), .inl (0, 2801, .inl (fun _ => 0))] 11 5467 := by
    intro x hx
    subst hx
    refine hG 200 _ _ _ _ _ _ ?_
    refine br_f (by decide) ?_
    refine Exists.intro 3 ⟨by decide, rfl, ?_⟩
    exact l4 _ (nI_s1 3)
  have l2 : ∀ x, x = nI 2 → Go 122 [some (.ref 0), some (.int x)] [] [.inr (7, [.ref 1, .ref 2, .int 0, .ref 3, .ref 4, .ref 5, .ref 6, .ref 7, .int 0, .long 0, .long (lN 1), .int 0, .ref 8, .ref 9, .ref 10, .int 0, .ref 11]), .inl (0, 2149, .inl (fun _ => 0)), .inl (0, 6, .inl (fun _ => 0)), .inl (0, 3, .inl (fun _ => 0)), .inl (0, 240, .inl (fun _ => 0)), .inl (0, 6, .inl (upd (upd (upd (upd (upd (upd (fun _ => 0) 0 (-nI 1)) 1 (-nI 1)) 2 (-nI 1)) 3 (-nI 1)) 4 (-nI 1)) 5 (-nI 1))), .inl (1, 240, .inl (fun _ => 0)), .inl (0, 4, .inl (upd (upd (fun _ => 0) 0 (-nI 1)) 1 (-nI 1))), .inl (0, 6, .inl (fun _ => 0)), .inl (0, 6, .inl (fun _ => 0)), .inl (0, 6, .inl (fun _ => 0)), .inl (0, 2801, .inl (fun _ => 0))] 11 5467 := by
    intro x hx
    subst hx
    refine hG 200 _ _ _ _ _ _ ?_
    refine br_f (by decide) ?_
    refine Exists.intro 2 ⟨by decide, rfl, ?_⟩
    exact l3 _ (nI_s1 2)
  have l1 : ∀ x, x = nI 1 → Go 122 [some (.ref 0), some (.int x)] [] [.inr (7, [.ref 1, .ref 2, .int 0, .ref 3, .ref 4, .ref 5, .ref 6, .ref 7, .int 0, .long 0, .long (lN 1), .int 0, .ref 8, .ref 9, .ref 10, .int 0, .ref 11]), .inl (0, 2149, .inl (fun _ => 0)), .inl (0, 6, .inl (fun _ => 0)), .inl (0, 3, .inl (fun _ => 0)), .inl (0, 240, .inl (fun _ => 0)), .inl (0, 6, .inl (upd (upd (upd (upd (upd (upd (fun _ => 0) 0 (-nI 1)) 1 (-nI 1)) 2 (-nI 1)) 3 (-nI 1)) 4 (-nI 1)) 5 (-nI 1))), .inl (1, 240, .inl (fun _ => 0)), .inl (0, 4, .inl (upd (fun _ => 0) 0 (-nI 1))), .inl (0, 6, .inl (fun _ => 0)), .inl (0, 6, .inl (fun _ => 0)), .inl (0, 6, .inl (fun _ => 0)), .inl (0, 2801, .inl (fun _ => 0))] 11 5467 := by
    intro x hx
    subst hx
    refine hG 200 _ _ _ _ _ _ ?_
    refine br_f (by decide) ?_
    refine Exists.intro 1 ⟨by decide, rfl, ?_⟩
    exact l2 _ (nI_s1 1)
  have l0 : ∀ x, x = nI 0 → Go 122 [some (.ref 0), some (.int x)] [] [.inr (7, [.ref 1, .ref 2, .int 0, .ref 3, .ref 4, .ref 5, .ref 6, .ref 7, .int 0, .long 0, .long (lN 1), .int 0, .ref 8, .ref 9, .ref 10, .int 0, .ref 11]), .inl (0, 2149, .inl (fun _ => 0)), .inl (0, 6, .inl (fun _ => 0)), .inl (0, 3, .inl (fun _ => 0)), .inl (0, 240, .inl (fun _ => 0)), .inl (0, 6, .inl (upd (upd (upd (upd (upd (upd (fun _ => 0) 0 (-nI 1)) 1 (-nI 1)) 2 (-nI 1)) 3 (-nI 1)) 4 (-nI 1)) 5 (-nI 1))), .inl (1, 240, .inl (fun _ => 0)), .inl (0, 4, .inl (fun _ => 0)), .inl (0, 6, .inl (fun _ => 0)), .inl (0, 6, .inl (fun _ => 0)), .inl (0, 6, .inl (fun _ => 0)), .inl (0, 2801, .inl (fun _ => 0))] 11 5467 := by
    intro x hx
    subst hx
    refine hG 200 _ _ _ _ _ _ ?_
    refine br_f (by decide) ?_
    refine Exists.intro 0 ⟨by decide, rfl, ?_⟩
    exact l1 _ (nI_s1 0)
  have s6 : ∀ x, x = nI 6 → Go 101 [some (.ref 0), some (.int x)] [] [.inr (7, [.ref 1, .ref 2, .int 0, .ref 3, .ref 4, .ref 5, .ref 6, .ref 7, .int 0, .long 0, .long (lN 1), .int 0, .ref 8, .ref 9, .ref 10, .int 0, .ref 11]), .inl (0, 2149, .inl (fun _ => 0)), .inl (0, 6, .inl (fun _ => 0)), .inl (0, 3, .inl (fun _ => 0)), .inl (0, 240, .inl (fun _ => 0)), .inl (0, 6, .inl (upd (upd (upd (upd (upd (upd (fun _ => 0) 0 (-nI 1)) 1 (-nI 1)) 2 (-nI 1)) 3 (-nI 1)) 4 (-nI 1)) 5 (-nI 1))), .inl (1, 240, .inl (fun _ => 0)), .inl (0, 4, .inl (fun _ => 0)), .inl (0, 6, .inl (fun _ => 0)), .inl (0, 6, .inl (fun _ => 0)), .inl (0, 6, .inl (fun _ => 0)), .inl (0, 2801, .inl (fun _ => 0))] 11 5467 := by
    intro x hx
    subst hx
    refine hG 200 _ _ _ _ _ _ ?_
    refine br_t (by decide) ?_
    exact l0 _ rfl
  have s5 : ∀ x, x = nI 5 → Go 101 [some (.ref 0), some (.int x)] [] [.inr (7, [.ref 1, .ref 2, .int 0, .ref 3, .ref 4, .ref 5, .ref 6, .ref 7, .int 0, .long 0, .long (lN 1), .int 0, .ref 8, .ref 9, .ref 10, .int 0, .ref 11]), .inl (0, 2149, .inl (fun _ => 0)), .inl (0, 6, .inl (fun _ => 0)), .inl (0, 3, .inl (fun _ => 0)), .inl (0, 240, .inl (fun _ => 0)), .inl (0, 6, .inl (upd (upd (upd (upd (upd (fun _ => 0) 0 (-nI 1)) 1 (-nI 1)) 2 (-nI 1)) 3 (-nI 1)) 4 (-nI 1))), .inl (1, 240, .inl (fun _ => 0)), .inl (0, 4, .inl (fun _ => 0)), .inl (0, 6, .inl (fun _ => 0)), .inl (0, 6, .inl (fun _ => 0)), .inl (0, 6, .inl (fun _ => 0)), .inl (0, 2801, .inl (fun _ => 0))] 11 5467 := by
    intro x hx
    subst hx
    refine hG 200 _ _ _ _ _ _ ?_
    refine br_f (by decide) ?_
    refine Exists.intro 5 ⟨by decide, rfl, ?_⟩
    exact s6 _ (nI_s1 5)
  have s4 : ∀ x, x = nI 4 → Go 101 [some (.ref 0), some (.int x)] [] [.inr (7, [.ref 1, .ref 2, .int 0, .ref 3, .ref 4, .ref 5, .ref 6, .ref 7, .int 0, .long 0, .long (lN 1), .int 0, .ref 8, .ref 9, .ref 10, .int 0, .ref 11]), .inl (0, 2149, .inl (fun _ => 0)), .inl (0, 6, .inl (fun _ => 0)), .inl (0, 3, .inl (fun _ => 0)), .inl (0, 240, .inl (fun _ => 0)), .inl (0, 6, .inl (upd (upd (upd (upd (fun _ => 0) 0 (-nI 1)) 1 (-nI 1)) 2 (-nI 1)) 3 (-nI 1))), .inl (1, 240, .inl (fun _ => 0)), .inl (0, 4, .inl (fun _ => 0)), .inl (0, 6, .inl (fun _ => 0)), .inl (0, 6, .inl (fun _ => 0)), .inl (0, 6, .inl (fun _ => 0)), .inl (0, 2801, .inl (fun _ => 0))] 11 5467 := by
    intro x hx
    subst hx
    refine hG 200 _ _ _ _ _ _ ?_
    refine br_f (by decide) ?_
    refine Exists.intro 4 ⟨by decide, rfl, ?_⟩
    exact s5 _ (nI_s1 4)
  have s3 : ∀ x, x = nI 3 → Go 101 [some (.ref 0), some (.int x)] [] [.inr (7, [.ref 1, .ref 2, .int 0, .ref 3, .ref 4, .ref 5, .ref 6, .ref 7, .int 0, .long 0, .long (lN 1), .int 0, .ref 8, .ref 9, .ref 10, .int 0, .ref 11]), .inl (0, 2149, .inl (fun _ => 0)), .inl (0, 6, .inl (fun _ => 0)), .inl (0, 3, .inl (fun _ => 0)), .inl (0, 240, .inl (fun _ => 0)), .inl (0, 6, .inl (upd (upd (upd (fun _ => 0) 0 (-nI 1)) 1 (-nI 1)) 2 (-nI 1))), .inl (1, 240, .inl (fun _ => 0)), .inl (0, 4, .inl (fun _ => 0)), .inl (0, 6, .inl (fun _ => 0)), .inl (0, 6, .inl (fun _ => 0)), .inl (0, 6, .inl (fun _ => 0)), .inl (0, 2801, .inl (fun _ => 0))] 11 5467 := by
    intro x hx
    subst hx
    refine hG 200 _ _ _ _ _ _ ?_
    refine br_f (by decide) ?_
    refine Exists.intro 3 ⟨by decide, rfl, ?_⟩
    exact s4 _ (nI_s1 3)
  have s2 : ∀ x, x = nI 2 → Go 101 [some (.ref 0), some (.int x)] [] [.inr (7, [.ref 1, .ref 2, .int 0, .ref 3, .ref 4, .ref 5, .ref 6, .ref 7, .int 0, .long 0, .long (lN 1), .int 0, .ref 8, .ref 9, .ref 10, .int 0, .ref 11]), .inl (0, 2149, .inl (fun _ => 0)), .inl (0, 6, .inl (fun _ => 0)), .inl (0, 3, .inl (fun _ => 0)), .inl (0, 240, .inl (fun _ => 0)), .inl (0, 6, .inl (upd (upd (fun _ => 0) 0 (-nI 1)) 1 (-nI 1))), .inl (1, 240, .inl (fun _ => 0)), .inl (0, 4, .inl (fun _ => 0)), .inl (0, 6, .inl (fun _ => 0)), .inl (0, 6, .inl (fun _ => 0)), .inl (0, 6, .inl (fun _ => 0)), .inl (0, 2801, .inl (fun _ => 0))] 11 5467 := by
    intro x hx
    subst hx
    refine hG 200 _ _ _ _ _ _ ?_
    refine br_f (by decide) ?_
    refine Exists.intro 2 ⟨by decide, rfl, ?_⟩
    exact s3 _ (nI_s1 2)
  have s1 : ∀ x, x = nI 1 → Go 101 [some (.ref 0), some (.int x)] [] [.inr (7, [.ref 1, .ref 2, .int 0, .ref 3, .ref 4, .ref 5, .ref 6, .ref 7, .int 0, .long 0, .long (lN 1), .int 0, .ref 8, .ref 9, .ref 10, .int 0, .ref 11]), .inl (0, 2149, .inl (fun _ => 0)), .inl (0, 6, .inl (fun _ => 0)), .inl (0, 3, .inl (fun _ => 0)), .inl (0, 240, .inl (fun _ => 0)), .inl (0, 6, .inl (upd (fun _ => 0) 0 (-nI 1))), .inl (1, 240, .inl (fun _ => 0)), .inl (0, 4, .inl (fun _ => 0)), .inl (0, 6, .inl (fun _ => 0)), .inl (0, 6, .inl (fun _ => 0)), .inl (0, 6, .inl (fun _ => 0)), .inl (0, 2801, .inl (fun _ => 0))] 11 5467 := by
    intro x hx
    subst hx
    refine hG 200 _ _ _ _ _ _ ?_
    refine br_f (by decide) ?_
    refine Exists.intro 1 ⟨by decide, rfl, ?_⟩
    exact s2 _ (nI_s1 1)
  have s0 : ∀ x, x = nI 0 → Go 101 [some (.ref 0), some (.int x)] [] [.inr (7, [.ref 1, .ref 2, .int 0, .ref 3, .ref 4, .ref 5, .ref 6, .ref 7, .int 0, .long 0, .long (lN 1), .int 0, .ref 8, .ref 9, .ref 10, .int 0, .ref 11]), .inl (0, 2149, .inl (fun _ => 0)), .inl (0, 6, .inl (fun _ => 0)), .inl (0, 3, .inl (fun _ => 0)), .inl (0, 240, .inl (fun _ => 0)), .inl (0, 6, .inl (fun _ => 0)), .inl (1, 240, .inl (fun _ => 0)), .inl (0, 4, .inl (fun _ => 0)), .inl (0, 6, .inl (fun _ => 0)), .inl (0, 6, .inl (fun _ => 0)), .inl (0, 6, .inl (fun _ => 0)), .inl (0, 2801, .inl (fun _ => 0))] 11 5467 := by
    intro x hx
    subst hx
    refine hG 200 _ _ _ _ _ _ ?_
    refine br_f (by decide) ?_
    refine Exists.intro 0 ⟨by decide, rfl, ?_⟩
    exact s1 _ (nI_s1 0)
  have g99 : Go 99 [some (.ref 0), none] [] [.inr (7, [.ref 1, .ref 2, .int 0, .ref 3, .ref 4, .ref 5, .ref 6, .ref 7, .int 0, .long 0, .long (lN 1), .int 0, .ref 8, .ref 9, .ref 10, .int 0, .ref 11]), .inl (0, 2149, .inl (fun _ => 0)), .inl (0, 6, .inl (fun _ => 0)), .inl (0, 3, .inl (fun _ => 0)), .inl (0, 240, .inl (fun _ => 0)), .inl (0, 6, .inl (fun _ => 0)), .inl (1, 240, .inl (fun _ => 0)), .inl (0, 4, .inl (fun _ => 0)), .inl (0, 6, .inl (fun _ => 0)), .inl (0, 6, .inl (fun _ => 0)), .inl (0, 6, .inl (fun _ => 0)), .inl (0, 2801, .inl (fun _ => 0))] 11 5467 := by
    refine hG 200 _ _ _ _ _ _ ?_
    exact s0 _ rfl
  have g90 : Go 90 [some (.ref 0), none] [] [.inr (7, [.ref 1, .ref 2, .int 0, .ref 3, .ref 4, .ref 5, .ref 6, .ref 7, .int 0, .long 0, .long (lN 1), .int 0, .ref 8, .ref 9, .ref 10, .int 0, .null]), .inl (0, 2149, .inl (fun _ => 0)), .inl (0, 6, .inl (fun _ => 0)), .inl (0, 3, .inl (fun _ => 0)), .inl (0, 240, .inl (fun _ => 0)), .inl (0, 6, .inl (fun _ => 0)), .inl (1, 240, .inl (fun _ => 0)), .inl (0, 4, .inl (fun _ => 0)), .inl (0, 6, .inl (fun _ => 0)), .inl (0, 6, .inl (fun _ => 0)), .inl (0, 6, .inl (fun _ => 0))] 10 2666 := by
    refine hG 200 _ _ _ _ _ _ ?_
    refine Exists.intro 2801 ⟨rfl, ?_⟩
    exact g99
  have g82 : Go 82 [some (.ref 0), none] [] [.inr (7, [.ref 1, .ref 2, .int 0, .ref 3, .ref 4, .ref 5, .ref 6, .ref 7, .int 0, .long 0, .long (lN 1), .int 0, .ref 8, .ref 9, .null, .int 0, .null]), .inl (0, 2149, .inl (fun _ => 0)), .inl (0, 6, .inl (fun _ => 0)), .inl (0, 3, .inl (fun _ => 0)), .inl (0, 240, .inl (fun _ => 0)), .inl (0, 6, .inl (fun _ => 0)), .inl (1, 240, .inl (fun _ => 0)), .inl (0, 4, .inl (fun _ => 0)), .inl (0, 6, .inl (fun _ => 0)), .inl (0, 6, .inl (fun _ => 0))] 9 2660 := by
    refine hG 200 _ _ _ _ _ _ ?_
    refine Exists.intro 6 ⟨rfl, ?_⟩
    exact g90
  have g74 : Go 74 [some (.ref 0), none] [] [.inr (7, [.ref 1, .ref 2, .int 0, .ref 3, .ref 4, .ref 5, .ref 6, .ref 7, .int 0, .long 0, .long (lN 1), .int 0, .ref 8, .null, .null, .int 0, .null]), .inl (0, 2149, .inl (fun _ => 0)), .inl (0, 6, .inl (fun _ => 0)), .inl (0, 3, .inl (fun _ => 0)), .inl (0, 240, .inl (fun _ => 0)), .inl (0, 6, .inl (fun _ => 0)), .inl (1, 240, .inl (fun _ => 0)), .inl (0, 4, .inl (fun _ => 0)), .inl (0, 6, .inl (fun _ => 0))] 8 2654 := by
    refine hG 200 _ _ _ _ _ _ ?_
    refine Exists.intro 6 ⟨rfl, ?_⟩
    exact g82
  have g61 : Go 61 [some (.ref 0), none] [] [.inr (7, [.ref 1, .ref 2, .int 0, .ref 3, .ref 4, .ref 5, .ref 6, .ref 7, .int 0, .long 0, .long 0, .int 0, .null, .null, .null, .int 0, .null]), .inl (0, 2149, .inl (fun _ => 0)), .inl (0, 6, .inl (fun _ => 0)), .inl (0, 3, .inl (fun _ => 0)), .inl (0, 240, .inl (fun _ => 0)), .inl (0, 6, .inl (fun _ => 0)), .inl (1, 240, .inl (fun _ => 0)), .inl (0, 4, .inl (fun _ => 0))] 7 2648 := by
    refine hG 200 _ _ _ _ _ _ ?_
    refine Exists.intro 6 ⟨rfl, ?_⟩
    exact g74
  have g54 : Go 54 [some (.ref 0), none] [] [.inr (7, [.ref 1, .ref 2, .int 0, .ref 3, .ref 4, .ref 5, .ref 6, .null, .int 0, .long 0, .long 0, .int 0, .null, .null, .null, .int 0, .null]), .inl (0, 2149, .inl (fun _ => 0)), .inl (0, 6, .inl (fun _ => 0)), .inl (0, 3, .inl (fun _ => 0)), .inl (0, 240, .inl (fun _ => 0)), .inl (0, 6, .inl (fun _ => 0)), .inl (1, 240, .inl (fun _ => 0))] 6 2644 := by
    refine hG 200 _ _ _ _ _ _ ?_
    refine Exists.intro 4 ⟨rfl, ?_⟩
    exact g61
  have g45 : Go 45 [some (.ref 0), none] [] [.inr (7, [.ref 1, .ref 2, .int 0, .ref 3, .ref 4, .ref 5, .null, .null, .int 0, .long 0, .long 0, .int 0, .null, .null, .null, .int 0, .null]), .inl (0, 2149, .inl (fun _ => 0)), .inl (0, 6, .inl (fun _ => 0)), .inl (0, 3, .inl (fun _ => 0)), .inl (0, 240, .inl (fun _ => 0)), .inl (0, 6, .inl (fun _ => 0))] 5 2404 := by
    refine hG 200 _ _ _ _ _ _ ?_
    refine Exists.intro 240 ⟨rfl, ?_⟩
    exact g54
  have g37 : Go 37 [some (.ref 0), none] [] [.inr (7, [.ref 1, .ref 2, .int 0, .ref 3, .ref 4, .null, .null, .null, .int 0, .long 0, .long 0, .int 0, .null, .null, .null, .int 0, .null]), .inl (0, 2149, .inl (fun _ => 0)), .inl (0, 6, .inl (fun _ => 0)), .inl (0, 3, .inl (fun _ => 0)), .inl (0, 240, .inl (fun _ => 0))] 4 2398 := by
    refine hG 200 _ _ _ _ _ _ ?_
    refine Exists.intro 6 ⟨rfl, ?_⟩
    exact g45
  have g28 : Go 28 [some (.ref 0), none] [] [.inr (7, [.ref 1, .ref 2, .int 0, .ref 3, .null, .null, .null, .null, .int 0, .long 0, .long 0, .int 0, .null, .null, .null, .int 0, .null]), .inl (0, 2149, .inl (fun _ => 0)), .inl (0, 6, .inl (fun _ => 0)), .inl (0, 3, .inl (fun _ => 0))] 3 2158 := by
    refine hG 200 _ _ _ _ _ _ ?_
    refine Exists.intro 240 ⟨rfl, ?_⟩
    exact g37
  have g21 : Go 21 [some (.ref 0), none] [] [.inr (7, [.ref 1, .ref 2, .int 0, .null, .null, .null, .null, .null, .int 0, .long 0, .long 0, .int 0, .null, .null, .null, .int 0, .null]), .inl (0, 2149, .inl (fun _ => 0)), .inl (0, 6, .inl (fun _ => 0))] 2 2155 := by
    refine hG 200 _ _ _ _ _ _ ?_
    refine Exists.intro 3 ⟨rfl, ?_⟩
    exact g28
  have g13 : Go 13 [some (.ref 0), none] [] [.inr (7, [.ref 1, .null, .int 0, .null, .null, .null, .null, .null, .int 0, .long 0, .long 0, .int 0, .null, .null, .null, .int 0, .null]), .inl (0, 2149, .inl (fun _ => 0))] 1 2149 := by
    refine hG 200 _ _ _ _ _ _ ?_
    refine Exists.intro 6 ⟨rfl, ?_⟩
    exact g21
  have g4 : Go 4 [some (.ref 0), none] [] [.inr (7, [.null, .null, .int 0, .null, .null, .null, .null, .null, .int 0, .long 0, .long 0, .int 0, .null, .null, .null, .int 0, .null])] 0 0 := by
    refine hG 200 _ _ _ _ _ _ ?_
    refine Exists.intro 2149 ⟨rfl, ?_⟩
    exact g13
  refine hG 200 _ _ _ _ _ _ ?_
  exact g4
def mF0 : Nat → Nat → Int32 := fun h => match h with
  | 3 => (upd (upd (upd (fun _ => 0) 0 (-nI 1)) 1 (-nI 1)) 2 (-nI 1))
  | 5 => (upd (upd (upd (upd (upd (upd (fun _ => 0) 0 (-nI 1)) 1 (-nI 1)) 2 (-nI 1)) 3 (-nI 1)) 4 (-nI 1)) 5 (-nI 1))
  | 7 => (upd (upd (upd (upd (fun _ => 0) 0 (-nI 1)) 1 (-nI 1)) 2 (-nI 1)) 3 (-nI 1))
  | _ => fun _ => 0
theorem RM_0 : RM S0 mH0 := by
  refine ⟨fun _ => nI 0, mF0, rfl, ⟨rfl, by decide, fun i hi => absurd hi (Nat.not_lt_zero _), ⟨by decide, rfl, fun k hk => absurd hk (Nat.not_lt_zero _), rfl, fun d hd => absurd hd (Nat.not_lt_zero _)⟩, fun d _ => ⟨fun k hk => absurd hk (Nat.not_lt_zero _), fun i j hi => absurd hi (Nat.not_lt_zero _)⟩, fun q hq => ?_⟩, fun r hr => ⟨?_, Or.inl rfl, fun i _ => rfl⟩, fun r hr => ⟨?_, Or.inl rfl, fun i _ => rfl⟩, ⟨rfl, rfl, fun f _ => rfl⟩⟩
  · show mF0 3 q = -nI 1
    rcases (show q = 0 ∨ q = 1 ∨ q = 2 by omega) with rfl | rfl | rfl <;> rfl
  · show mF0 5 r = -nI 1
    rcases (show r = 0 ∨ r = 1 ∨ r = 2 ∨ r = 3 ∨ r = 4 ∨ r = 5 by omega) with rfl | rfl | rfl | rfl | rfl | rfl <;> rfl
  · show mF0 7 r = -nI 1
    rcases (show r = 0 ∨ r = 1 ∨ r = 2 ∨ r = 3 by omega) with rfl | rfl | rfl | rfl <;> rfl

