/-! ===== the class: fault, things (public) ===== -/
theorem RCx_rd {I : Nat → Int32} {F : Nat → Nat → Int32} {S : Sta} (hx : RCx I F S) (x y : Int32) (a : Nat → Int32) : RCx (upd (upd I 20 x) 21 y) (va_up F 5 a) S := by
  obtain ⟨hs, hr, ht, h8, h11, h12⟩ := hx
  exact ⟨skyC_congr hs (fun j hj => by rw [pk_un (by omega), pk_un (by omega)]) (fun j hj => va_up_ne _ _ (by omega)), rowC_congr hr (fun j hj => by rw [pk_un (by omega), pk_un (by omega)]) (fun j hj => va_up_ne _ _ (by omega)), txtC_congr ht (fun j hj => by rw [pk_un (by omega), pk_un (by omega)]) (fun j hj => va_up_ne _ _ (by omega)), h8, h11, h12⟩

theorem pc_T_fault (S : Sta) (hp : List Am_C) (hRM : RC S hp) (t : Int32) : ∃ hp', Am_Ev false 6 0 0 27 [.ref 0, .int t] hp (some (.int (spFault S t).1)) hp' ∧ RC (spFault S t).2 hp' := by
  obtain ⟨I, F, rfl, hx⟩ := hRM
  obtain ⟨hs, hr, ht, hl⟩ := id hx
  unfold spFault wrT
  cases ho : okT t with
  | false =>
    rw [if_pos rfl]
    refine ⟨_, am_ev 3 (some .int) false [] ok_T_fault am_mP_27 (by rw [am_m_27]) (by rw [am_m_27]) (fun h => by cases h) (Nat.le_of_ble_eq_true rfl) (fun Go hG => ?_), RC_of hx⟩
    refine hG 200 _ _ _ _ _ _ ?_
    refine Exists.intro 1 (Exists.intro _ (Exists.intro _ ⟨by decide, c_T_refusalOfText_a I F _ _ t ho, ?_⟩))
    refine br_f (by decide) ?_
    exact ⟨rfl, rfl, rfl, rfl⟩
  | true =>
    rw [if_neg (by decide)]
    obtain ⟨j, -, hj, rfl⟩ := in3_nat (by decide) (by decide) ho
    rw [nat_nI (by omega)]
    obtain ⟨q1, q2, q3⟩ := ht j (by omega)
    have q1' : I (70 + j) = tz S j := q1
    have q2' : szOk 60 (tz S j) := q2
    by_cases e1 : tz S j < 0
    · rw [if_pos e1]
      refine ⟨_, am_ev 3 (some .int) false [] ok_T_fault am_mP_27 (by rw [am_m_27]) (by rw [am_m_27]) (fun h => by cases h) (Nat.le_of_ble_eq_true rfl) (fun Go hG => ?_), RC_fnd hx (by decide)⟩
      refine hG 200 _ _ _ _ _ _ ?_
      refine Exists.intro 1 (Exists.intro _ (Exists.intro _ ⟨by decide, c_T_refusalOfText_b I F _ _ j hj (by rw [q1]; exact e1), ?_⟩))
      refine br_f (by decide) ?_
      exact ⟨rfl, rfl, rfl, rfl⟩
    · rw [if_neg e1]
      obtain ⟨e3, e4⟩ := szOk_nI (by decide) q2' e1
      have hok1 := c_T_refusalOfText_d I F S.2.2.2.2.2.2.1 S.2.2.2.2.2.2.2 j hj (by rw [q1]; exact e1)
      have hrd := c_L_read I F S.2.2.2.2.2.2.1 S.2.2.2.2.2.2.2 j (nat (tz S j)) (tc S j) (by omega) (by rw [q1']; exact e3) e4 (fun i hi => q3 i hi) (fun _ => 0) (fun _ => 0) (spRd S j) rfl
      refine ⟨_, am_ev 3 (some .int) false [] ok_T_fault am_mP_27 (by rw [am_m_27]) (by rw [am_m_27]) (fun h => by cases h) (Nat.le_of_ble_eq_true rfl) (fun Go hG => ?_), RC_of (RCx_rd hx (nI (pkN (spRd S j).2.2.2 (spRd S j).2.1)) (nI (spRd S j).2.1) (mixF (spRd S j).2.1 (spRd S j).2.2.1 (F 5)))⟩
      refine hG 200 _ _ _ _ _ _ ?_
      refine Exists.intro 1 (Exists.intro _ (Exists.intro _ ⟨by decide, hok1, ?_⟩))
      refine br_t rfl ?_
      refine Exists.intro j (Exists.intro (30 + 2 * j) ⟨by omega, rfl, rfT_at (by omega), ?_⟩)
      refine Exists.intro 3 (Exists.intro _ (Exists.intro _ ⟨by decide, hrd, ?_⟩))
      exact ⟨rfl, rfl, rfl, rfl⟩

theorem c_T_forget (I : Nat → Int32) (F : Nat → Nat → Int32) (u v : Int64) (k : Nat) (hk : k < 3) : Am_Ev false 0 0 0 7 [.ref (38 + 5 * k)] (cH I F u v) none (cH (upd I (42 + 3 * k) (-nI 1)) F u v) := by
  have h := c_E_forget false (cH I F u v) (38 + 5 * k) _ _ _ _ _ _ _ (cH_kp hk)
  have e : evW (cH I F u v) (38 + 5 * k) (I (40 + 3 * k)) (I (41 + 3 * k)) (-nI 1) (F (39 + 5 * k)) (F (40 + 5 * k)) (F (41 + 5 * k)) (F (42 + 5 * k)) = cH (upd I (42 + 3 * k) (-nI 1)) F u v := by
    rcases (show k = 0 ∨ k = 1 ∨ k = 2 by omega) with rfl | rfl | rfl <;> rfl
  rw [e] at h
  exact h

theorem pc_T_things (S : Sta) (hp : List Am_C) (hRM : RC S hp) (t : Int32) : ∃ hp', Am_Ev false 6 0 0 36 [.ref 0, .int t] hp (some (.int (spThings S t).1)) hp' ∧ RC (spThings S t).2 hp' := by
  obtain ⟨I, F, rfl, hx⟩ := hRM
  obtain ⟨hs, hr, ht, hl⟩ := id hx
  unfold spThings wrT
  cases ho : okT t with
  | false =>
    rw [if_pos rfl]
    refine ⟨_, am_ev 4 (some .int) false [] ok_T_things am_mP_36 (by rw [am_m_36]) (by rw [am_m_36]) (fun h => by cases h) (Nat.le_of_ble_eq_true rfl) (fun Go hG => ?_), RC_of hx⟩
    refine hG 200 _ _ _ _ _ _ ?_
    refine Exists.intro 1 (Exists.intro _ (Exists.intro _ ⟨by decide, c_T_refusalOfText_a I F _ _ t ho, ?_⟩))
    refine br_f (by decide) ?_
    exact ⟨rfl, rfl, rfl, rfl⟩
  | true =>
    rw [if_neg (by decide)]
    obtain ⟨j, -, hj, rfl⟩ := in3_nat (by decide) (by decide) ho
    rw [nat_nI (by omega)]
    obtain ⟨q1, q2, q3⟩ := ht j (by omega)
    have q1' : I (70 + j) = tz S j := q1
    have q2' : szOk 60 (tz S j) := q2
    by_cases e1 : tz S j < 0
    · rw [if_pos e1]
      refine ⟨_, am_ev 4 (some .int) false [] ok_T_things am_mP_36 (by rw [am_m_36]) (by rw [am_m_36]) (fun h => by cases h) (Nat.le_of_ble_eq_true rfl) (fun Go hG => ?_), RC_fnd hx (by decide)⟩
      refine hG 200 _ _ _ _ _ _ ?_
      refine Exists.intro 1 (Exists.intro _ (Exists.intro _ ⟨by decide, c_T_refusalOfText_b I F _ _ j hj (by rw [q1]; exact e1), ?_⟩))
      refine br_f (by decide) ?_
      exact ⟨rfl, rfl, rfl, rfl⟩
    · rw [if_neg e1]
      obtain ⟨e3, e4⟩ := szOk_nI (by decide) q2' e1
      have hok1 := c_T_refusalOfText_d I F S.2.2.2.2.2.2.1 S.2.2.2.2.2.2.2 j hj (by rw [q1]; exact e1)
      have hrd := c_L_read I F S.2.2.2.2.2.2.1 S.2.2.2.2.2.2.2 j (nat (tz S j)) (tc S j) (by omega) (by rw [q1']; exact e3) e4 (fun i hi => q3 i hi) (fun _ => 0) (fun _ => 0) (spRd S j) rfl
      have hok := spRd_ok S j
      generalize hgR : spRd S j = Rr at hrd hok ⊢
      obtain ⟨r, m, kr, dr⟩ := Rr
      by_cases hr9 : r = -nI 9
      · rw [if_pos hr9]
        have hm6 : m ≤ 6 := hok.1
        refine ⟨cH (upd (upd (upd (eI (upd (upd (upd I 20 (nI (pkN dr m))) 21 (nI m)) 22 (nI m)) (nI (pkN dr m)) (nI 0) (nI 0)) 42 (-nI 1)) 45 (-nI 1)) 48 (-nI 1)) (eF (va_up (va_up F 5 (mixF m kr (F 5))) 7 (va_cpy (mixF m kr (F 5)) (F 7) 0 0 6)) (fillF (F 9) 0 6 (nI 0)) (F 10) (F 11) (F 12)) S.2.2.2.2.2.2.1 S.2.2.2.2.2.2.2, am_ev 4 (some .int) false [] ok_T_things am_mP_36 (by rw [am_m_36]) (by rw [am_m_36]) (fun h => by cases h) (Nat.le_of_ble_eq_true rfl) (fun Go hG => ?_), ?_⟩
        · refine hG 200 _ _ _ _ _ _ ?_
          refine Exists.intro 1 (Exists.intro _ (Exists.intro _ ⟨by decide, hok1, ?_⟩))
          refine br_t rfl ?_
          refine Exists.intro j (Exists.intro (30 + 2 * j) ⟨by omega, rfl, rfT_at (by omega), ?_⟩)
          refine Exists.intro 3 (Exists.intro _ (Exists.intro _ ⟨by decide, hrd, ?_⟩))
          refine br_t hr9 ?_
          refine Exists.intro 1 (Exists.intro _ (Exists.intro _ ⟨by decide, c_P_takeFrom (upd (upd I 20 (nI (pkN dr m))) 21 (nI m)) (va_up F 5 (mixF m kr (F 5))) S.2.2.2.2.2.2.1 S.2.2.2.2.2.2.2, ?_⟩))
          refine Exists.intro 0 (Exists.intro _ (Exists.intro _ ⟨by decide, c_E_begin (cH (upd (upd (upd I 20 (nI (pkN dr m))) 21 (nI m)) 22 (nI m)) (va_up (va_up F 5 (mixF m kr (F 5))) 7 (va_cpy (mixF m kr (F 5)) (F 7) 0 0 6)) S.2.2.2.2.2.2.1 S.2.2.2.2.2.2.2) 8 _ _ _ _ _ _ _ cH_ev (nI (pkN dr m)), ?_⟩))
          refine br_f (by decide) ?_
          refine Exists.intro 0 (Exists.intro 38 ⟨by decide, by decide, rfl, ?_⟩)
          refine Exists.intro 0 (Exists.intro _ (Exists.intro _ ⟨by decide, c_T_forget (eI (upd (upd (upd I 20 (nI (pkN dr m))) 21 (nI m)) 22 (nI m)) (nI (pkN dr m)) (nI 0) (nI 0)) (eF (va_up (va_up F 5 (mixF m kr (F 5))) 7 (va_cpy (mixF m kr (F 5)) (F 7) 0 0 6)) (fillF (F 9) 0 6 (nI 0)) (F 10) (F 11) (F 12)) S.2.2.2.2.2.2.1 S.2.2.2.2.2.2.2 0 (by decide), ?_⟩))
          refine br_f (by decide) ?_
          refine Exists.intro 1 (Exists.intro 43 ⟨by decide, by decide, rfl, ?_⟩)
          refine Exists.intro 0 (Exists.intro _ (Exists.intro _ ⟨by decide, c_T_forget (upd (eI (upd (upd (upd I 20 (nI (pkN dr m))) 21 (nI m)) 22 (nI m)) (nI (pkN dr m)) (nI 0) (nI 0)) 42 (-nI 1)) (eF (va_up (va_up F 5 (mixF m kr (F 5))) 7 (va_cpy (mixF m kr (F 5)) (F 7) 0 0 6)) (fillF (F 9) 0 6 (nI 0)) (F 10) (F 11) (F 12)) S.2.2.2.2.2.2.1 S.2.2.2.2.2.2.2 1 (by decide), ?_⟩))
          refine br_f (by decide) ?_
          refine Exists.intro 2 (Exists.intro 48 ⟨by decide, by decide, rfl, ?_⟩)
          refine Exists.intro 0 (Exists.intro _ (Exists.intro _ ⟨by decide, c_T_forget (upd (upd (eI (upd (upd (upd I 20 (nI (pkN dr m))) 21 (nI m)) 22 (nI m)) (nI (pkN dr m)) (nI 0) (nI 0)) 42 (-nI 1)) 45 (-nI 1)) (eF (va_up (va_up F 5 (mixF m kr (F 5))) 7 (va_cpy (mixF m kr (F 5)) (F 7) 0 0 6)) (fillF (F 9) 0 6 (nI 0)) (F 10) (F 11) (F 12)) S.2.2.2.2.2.2.1 S.2.2.2.2.2.2.2 2 (by decide), ?_⟩))
          refine br_t (by decide) ?_
          exact ⟨rfl, rfl, rfl, rfl⟩
        · refine ⟨_, _, rfl, ⟨rfl, hm6, fun i hi => ⟨?_, (hok.2.1 i hi).1⟩, ⟨by show 0 ≤ 40; omega, rfl, rfl, rfl, fun i hi => fillF_in hi, fun _ _ _ _ _ => rfl, fun q hq => absurd hq (Nat.not_lt_zero _)⟩, fun d hd => rdOk_apart hok, fun q hq => ?_⟩, ?_, ?_, hl⟩
          · have hi' : i < m := hi
            show va_cpy (mixF m kr (F 5)) (F 7) 0 0 6 i = nI (kr i)
            rw [cpyA (by omega)]
            exact mixF_in kr _ hi'
          · show (upd (upd (upd (eI (upd (upd (upd I 20 (nI (pkN dr m))) 21 (nI m)) 22 (nI m)) (nI (pkN dr m)) (nI 0) (nI 0)) 42 (-nI 1)) 45 (-nI 1)) 48 (-nI 1)) (42 + 3 * q) = -nI 1
            rcases (show q = 0 ∨ q = 1 ∨ q = 2 by omega) with rfl | rfl | rfl <;> rfl
          · refine rowC_congr hr (fun q hq => ?_) (fun q hq => ?_)
            · rw [pk_un (by omega), pk_un (by omega), pk_un (by omega), eI_ne (by omega), pk_un (by omega), pk_un (by omega), pk_un (by omega)]
            · rw [eF_ne (by omega), va_up_ne _ _ (by omega), va_up_ne _ _ (by omega)]
          · refine txtC_congr ht (fun q hq => ?_) (fun q hq => ?_)
            · rw [pk_un (by omega), pk_un (by omega), pk_un (by omega), eI_ne (by omega), pk_un (by omega), pk_un (by omega), pk_un (by omega)]
            · rw [eF_ne (by omega), va_up_ne _ _ (by omega), va_up_ne _ _ (by omega)]
      · rw [if_neg hr9]
        refine ⟨_, am_ev 4 (some .int) false [] ok_T_things am_mP_36 (by rw [am_m_36]) (by rw [am_m_36]) (fun h => by cases h) (Nat.le_of_ble_eq_true rfl) (fun Go hG => ?_), RC_of (RCx_rd hx (nI (pkN dr m)) (nI m) (mixF m kr (F 5)))⟩
        refine hG 200 _ _ _ _ _ _ ?_
        refine Exists.intro 1 (Exists.intro _ (Exists.intro _ ⟨by decide, hok1, ?_⟩))
        refine br_t rfl ?_
        refine Exists.intro j (Exists.intro (30 + 2 * j) ⟨by omega, rfl, rfT_at (by omega), ?_⟩)
        refine Exists.intro 3 (Exists.intro _ (Exists.intro _ ⟨by decide, hrd, ?_⟩))
        refine br_f hr9 ?_
        exact ⟨rfl, rfl, rfl, rfl⟩

