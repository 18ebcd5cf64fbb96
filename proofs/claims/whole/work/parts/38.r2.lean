/-! ===== the reference: fault, things ===== -/
theorem setS_id (g : Nat → Nat) (k : Nat) : setS g k (g k) = g := by
  funext j
  unfold setS
  by_cases e : j = k
  · rw [if_pos e, e]
  · rw [if_neg e]
theorem mixF_c {m k : Nat} (g : Nat → Nat) (f f2 : Nat → Int32) (h : k < m) : upd (mixF k g f) k (mixF m g f2 k) = mixF (k + 1) g f := by
  rw [mixF_in g f2 h, mixF_s, setS_id]
theorem fillF_s0 (f : Nat → Int32) (k : Nat) (x : Int32) : upd (fillF f 0 k x) k x = fillF f 0 (k + 1) x := by
  have h := fillF_s f 0 k x
  rw [Nat.zero_add] at h
  exact h
theorem fillF_in {f : Nat → Int32} {k j : Nat} {x : Int32} (h : j < k) : fillF f 0 k x j = x := if_pos (by omega)
theorem RMx_rd {I : Nat → Int32} {F : Nat → Nat → Int32} {S : Sta} (hx : RMx I F S) (x : Int32) (a b : Nat → Int32) : RMx (upd I 15 x) (va_up (va_up F 9 a) 10 b) S := hx
theorem spRd_ok (S : Sta) (t : Nat) : rdOk (spRd S t).2.1 (spRd S t).2.2.1 (spRd S t).2.2.2 := rdT_ok _ _ _ _ _ (rdOk_0 _ _)
theorem rdOk_apart {m : Nat} {kr dr : Nat → Nat} (h : rdOk m kr dr) : apart m dr := ⟨fun k hk => by have := (h.2.1 k hk).2; omega, h.2.2⟩
theorem szOk_nI {m : Nat} {x : Int32} (hm : m < 2 ^ 31) (h : szOk m x) (hx : ¬ x < 0) : x = nI (nat x) ∧ nat x ≤ m := by
  rcases h with rfl | ⟨k, hk, rfl⟩
  · exact absurd (by decide) hx
  · rw [nat_nI (by omega)]
    exact ⟨rfl, hk⟩

theorem pm_M_fault (S : Sta) (hp : List Am_C) (hRM : RM S hp) (t : Int32) : ∃ hp', Am_Ev false 4 0 0 147 [.ref 0, .int t] hp (some (.int (spFault S t).1)) hp' ∧ RM (spFault S t).2 hp' := by
  obtain ⟨I, F, rfl, hx⟩ := hRM
  obtain ⟨hs, hr, ht, hl⟩ := id hx
  unfold spFault wrT
  have hc := c_M_isText (mH I F S.2.2.2.2.2.2.1 S.2.2.2.2.2.2.2) t
  cases ho : okT t with
  | false =>
    rw [if_pos rfl]
    rw [show in3 t (nI 0) (nI 3) = false from ho] at hc
    refine ⟨_, am_ev 2 (some .int) false [] ok_M_fault am_mP_147 (by rw [am_m_147]) (by rw [am_m_147]) (fun h => by cases h) (Nat.le_of_ble_eq_true rfl) (fun Go hG => ?_), RM_of hx⟩
    refine hG 200 _ _ _ _ _ _ ?_
    refine Exists.intro 1 (Exists.intro _ (Exists.intro _ ⟨by decide, hc, ?_⟩))
    refine bn_f rfl ?_
    exact ⟨rfl, rfl, rfl, rfl⟩
  | true =>
    rw [if_neg (by decide)]
    rw [show in3 t (nI 0) (nI 3) = true from ho] at hc
    obtain ⟨j, -, hj, rfl⟩ := in3_nat (by decide) (by decide) ho
    rw [nat_nI (by omega)]
    obtain ⟨q1, q2, q3⟩ := ht j (by omega)
    have q1' : F 7 j = tz S j := q1
    have q2' : szOk 60 (tz S j) := q2
    by_cases e1 : tz S j < 0
    · rw [if_pos e1]
      refine ⟨_, am_ev 2 (some .int) false [] ok_M_fault am_mP_147 (by rw [am_m_147]) (by rw [am_m_147]) (fun h => by cases h) (Nat.le_of_ble_eq_true rfl) (fun Go hG => ?_), RM_fnd hx (by decide)⟩
      refine hG 200 _ _ _ _ _ _ ?_
      refine Exists.intro 1 (Exists.intro _ (Exists.intro _ ⟨by decide, hc, ?_⟩))
      refine bn_t (by decide) ?_
      refine Exists.intro j ⟨by omega, rfl, ?_⟩
      refine br_f (by rw [q1']; exact Int32.not_le.mpr e1) ?_
      refine Exists.intro 0 (Exists.intro _ (Exists.intro _ ⟨by decide, c_M_found I F S.2.2.2.2.2.2.1 S.2.2.2.2.2.2.2 1 (by decide), ?_⟩))
      exact ⟨rfl, rfl, rfl, rfl⟩
    · rw [if_neg e1]
      obtain ⟨e3, e4⟩ := szOk_nI (by decide) q2' e1
      have hrd := c_M_readText I F S.2.2.2.2.2.2.1 S.2.2.2.2.2.2.2 j (nat (tz S j)) (tc S j) (by omega) (by rw [q1']; exact e3) e4 (fun i hi => q3 i hi) (fun _ => 0) (fun _ => 0) (spRd S j) rfl
      refine ⟨_, am_ev 2 (some .int) false [] ok_M_fault am_mP_147 (by rw [am_m_147]) (by rw [am_m_147]) (fun h => by cases h) (Nat.le_of_ble_eq_true rfl) (fun Go hG => ?_), RM_of (RMx_rd hx (nI (spRd S j).2.1) (mixF (spRd S j).2.1 (spRd S j).2.2.1 (F 9)) (mixF (spRd S j).2.1 (spRd S j).2.2.2 (F 10)))⟩
      refine hG 200 _ _ _ _ _ _ ?_
      refine Exists.intro 1 (Exists.intro _ (Exists.intro _ ⟨by decide, hc, ?_⟩))
      refine bn_t (by decide) ?_
      refine Exists.intro j ⟨by omega, rfl, ?_⟩
      refine br_t (by rw [q1']; exact Int32.not_lt.mp e1) ?_
      refine Exists.intro 2 (Exists.intro _ (Exists.intro _ ⟨by decide, hrd, ?_⟩))
      exact ⟨rfl, rfl, rfl, rfl⟩

theorem pm_M_things (S : Sta) (hp : List Am_C) (hRM : RM S hp) (t : Int32) : ∃ hp', Am_Ev false 4 0 0 152 [.ref 0, .int t] hp (some (.int (spThings S t).1)) hp' ∧ RM (spThings S t).2 hp' := by
  obtain ⟨I, F, rfl, hx⟩ := hRM
  obtain ⟨hs, hr, ht, hl⟩ := id hx
  unfold spThings wrT
  have hc := c_M_isText (mH I F S.2.2.2.2.2.2.1 S.2.2.2.2.2.2.2) t
  cases ho : okT t with
  | false =>
    rw [if_pos rfl]
    rw [show in3 t (nI 0) (nI 3) = false from ho] at hc
    refine ⟨_, am_ev 3 (some .int) false [47, 69, 109] ok_M_things am_mP_152 (by rw [am_m_152]) (by rw [am_m_152]) (fun h => by cases h) (Nat.le_of_ble_eq_true rfl) (fun Go hG => ?_), RM_of hx⟩
    refine hG 200 _ _ _ _ _ _ ?_
    refine Exists.intro 1 (Exists.intro _ (Exists.intro _ ⟨by decide, hc, ?_⟩))
    refine bn_f rfl ?_
    exact ⟨rfl, rfl, rfl, rfl⟩
  | true =>
    rw [if_neg (by decide)]
    rw [show in3 t (nI 0) (nI 3) = true from ho] at hc
    obtain ⟨j, -, hj, rfl⟩ := in3_nat (by decide) (by decide) ho
    rw [nat_nI (by omega)]
    obtain ⟨q1, q2, q3⟩ := ht j (by omega)
    have q1' : F 7 j = tz S j := q1
    have q2' : szOk 60 (tz S j) := q2
    by_cases e1 : tz S j < 0
    · rw [if_pos e1]
      refine ⟨_, am_ev 3 (some .int) false [47, 69, 109] ok_M_things am_mP_152 (by rw [am_m_152]) (by rw [am_m_152]) (fun h => by cases h) (Nat.le_of_ble_eq_true rfl) (fun Go hG => ?_), RM_fnd hx (by decide)⟩
      refine hG 200 _ _ _ _ _ _ ?_
      refine Exists.intro 1 (Exists.intro _ (Exists.intro _ ⟨by decide, hc, ?_⟩))
      refine bn_t (by decide) ?_
      refine Exists.intro j ⟨by omega, rfl, ?_⟩
      refine br_f (by rw [q1']; exact Int32.not_le.mpr e1) ?_
      refine Exists.intro 0 (Exists.intro _ (Exists.intro _ ⟨by decide, c_M_found I F S.2.2.2.2.2.2.1 S.2.2.2.2.2.2.2 1 (by decide), ?_⟩))
      exact ⟨rfl, rfl, rfl, rfl⟩
    · rw [if_neg e1]
      obtain ⟨e3, e4⟩ := szOk_nI (by decide) q2' e1
      have hrd := c_M_readText I F S.2.2.2.2.2.2.1 S.2.2.2.2.2.2.2 j (nat (tz S j)) (tc S j) (by omega) (by rw [q1']; exact e3) e4 (fun i hi => q3 i hi) (fun _ => 0) (fun _ => 0) (spRd S j) rfl
      have hok := spRd_ok S j
      generalize hgR : spRd S j = Rr at hrd hok ⊢
      obtain ⟨r, m, kr, dr⟩ := Rr
      by_cases hr9 : r = -nI 9
      · rw [if_pos hr9]
        have hm6 : m ≤ 6 := hok.1
        refine ⟨mH (upd (upd I 15 (nI m)) 2 (nI m)) (va_up (va_up (va_up (va_up (va_up F 9 (mixF m kr (F 9))) 10 (mixF m dr (F 10))) 2 (mixF m kr (F 2))) 1 (mixF m dr (fillF (F 1) 0 534 (nI 0)))) 3 (fillF (F 3) 0 3 (-nI 1))) S.2.2.2.2.2.2.1 S.2.2.2.2.2.2.2, am_ev 3 (some .int) false [47, 69, 109] ok_M_things am_mP_152 (by rw [am_m_152]) (by rw [am_m_152]) (fun h => by cases h) (Nat.le_of_ble_eq_true rfl) (fun Go hG => ?_), ?_⟩
        · have L109 : ∀ (c k : Nat), k + c = 3 → Go 109 [some (.ref 0), some (.int (nI j)), some (.int (nI k))] [] (mH (upd (upd I 15 (nI m)) 2 (nI m)) (va_up (va_up (va_up (va_up (va_up F 9 (mixF m kr (F 9))) 10 (mixF m dr (F 10))) 2 (mixF m kr (F 2))) 1 (mixF m dr (fillF (F 1) 0 534 (nI 0)))) 3 (fillF (F 3) 0 k (-nI 1))) S.2.2.2.2.2.2.1 S.2.2.2.2.2.2.2) 0 0 := by
            intro c
            induction c with
            | zero =>
              intro k hk
              refine hG 200 _ _ _ _ _ _ ?_
              refine br_t (nI_le (by omega) (by omega)) ?_
              rw [show k = 3 by omega]
              exact ⟨rfl, rfl, rfl, rfl⟩
            | succ c ih =>
              intro k hk
              have h9 := ih (k + 1) (by omega)
              rw [← nI_s1 k, ← fillF_s0 (F 3) k] at h9
              refine hG 200 _ _ _ _ _ _ ?_
              refine br_f (nI_ge (by omega) (by omega)) ?_
              refine Exists.intro k ⟨by omega, rfl, ?_⟩
              exact h9
          have L69 : ∀ (c k : Nat), k + c = m → Go 69 [some (.ref 0), some (.int (nI j)), some (.int (nI k))] [] (mH (upd (upd I 15 (nI m)) 2 (nI m)) (va_up (va_up (va_up (va_up F 9 (mixF m kr (F 9))) 10 (mixF m dr (F 10))) 2 (mixF k kr (F 2))) 1 (mixF k dr (fillF (F 1) 0 534 (nI 0)))) S.2.2.2.2.2.2.1 S.2.2.2.2.2.2.2) 0 0 := by
            intro c
            induction c with
            | zero =>
              intro k hk
              have h8 := L109 3 0 (by omega)
              rw [fillF_0] at h8
              refine hG 200 _ _ _ _ _ _ ?_
              refine br_t (nI_le (by omega) (by omega)) ?_
              rw [show k = m by omega]
              exact h8
            | succ c ih =>
              intro k hk
              have h9 := ih (k + 1) (by omega)
              rw [← nI_s1 k, ← mixF_c kr (F 2) (F 9) (show k < m by omega), ← mixF_c dr (fillF (F 1) 0 534 (nI 0)) (F 10) (show k < m by omega)] at h9
              refine hG 200 _ _ _ _ _ _ ?_
              refine br_f (nI_ge (by omega) (by omega)) ?_
              refine Exists.intro k ⟨by omega, rfl, ?_⟩
              refine Exists.intro k ⟨by omega, rfl, ?_⟩
              refine Exists.intro k ⟨by omega, rfl, ?_⟩
              refine Exists.intro k ⟨by omega, rfl, ?_⟩
              exact h9
          have L47 : ∀ (c k : Nat), k + c = 534 → Go 47 [some (.ref 0), some (.int (nI j)), some (.int (nI k))] [] (mH (upd (upd I 15 (nI m)) 2 (nI m)) (va_up (va_up (va_up F 9 (mixF m kr (F 9))) 10 (mixF m dr (F 10))) 1 (fillF (F 1) 0 k (nI 0))) S.2.2.2.2.2.2.1 S.2.2.2.2.2.2.2) 0 0 := by
            intro c
            induction c with
            | zero =>
              intro k hk
              have h8 := L69 m 0 (by omega)
              rw [mixF_0, mixF_0] at h8
              refine hG 200 _ _ _ _ _ _ ?_
              refine br_t (nI_le (by omega) (by omega)) ?_
              rw [show k = 534 by omega]
              exact h8
            | succ c ih =>
              intro k hk
              have h9 := ih (k + 1) (by omega)
              rw [← nI_s1 k, ← fillF_s0] at h9
              refine hG 200 _ _ _ _ _ _ ?_
              refine br_f (nI_ge (by omega) (by omega)) ?_
              refine Exists.intro k ⟨by omega, rfl, ?_⟩
              exact h9
          have h7 := L47 534 0 (by omega)
          rw [fillF_0] at h7
          refine hG 200 _ _ _ _ _ _ ?_
          refine Exists.intro 1 (Exists.intro _ (Exists.intro _ ⟨by decide, hc, ?_⟩))
          refine bn_t (by decide) ?_
          refine Exists.intro j ⟨by omega, rfl, ?_⟩
          refine br_t (by rw [q1']; exact Int32.not_lt.mp e1) ?_
          refine Exists.intro 2 (Exists.intro _ (Exists.intro _ ⟨by decide, hrd, ?_⟩))
          refine br_t hr9 ?_
          exact h7
        · refine ⟨_, _, rfl, ⟨rfl, hm6, fun i hi => ⟨mixF_in kr (F 2) hi, (hok.2.1 i hi).1⟩, ?_, fun d hd => rdOk_apart hok, fun q hq => fillF_in hq⟩, hr, ht, hl⟩
          have ew : ∀ q, q < 534 → m ≤ q → mixF m dr (fillF (F 1) 0 534 (nI 0)) q = nI 0 := fun q h1 h2 => by
            unfold mixF
            rw [if_neg (by omega)]
            exact fillF_in h1
          refine ⟨by show 0 ≤ 40; omega, ew 533 (by omega) (by omega), fun k hk => ⟨?_, ?_⟩, ew 12 (by omega) (by omega), fun d hd => absurd hd (Nat.not_lt_zero _)⟩
          · show mixF m dr _ (0 + k) = nI (dr k)
            rw [Nat.zero_add]
            exact mixF_in dr _ hk
          · have hk' : k < m := hk
            show mixF m dr _ (0 + 6 + k) = nI 0
            exact ew _ (by omega) (by omega)
      · rw [if_neg hr9]
        refine ⟨_, am_ev 3 (some .int) false [47, 69, 109] ok_M_things am_mP_152 (by rw [am_m_152]) (by rw [am_m_152]) (fun h => by cases h) (Nat.le_of_ble_eq_true rfl) (fun Go hG => ?_), RM_of (RMx_rd hx (nI m) (mixF m kr (F 9)) (mixF m dr (F 10)))⟩
        refine hG 200 _ _ _ _ _ _ ?_
        refine Exists.intro 1 (Exists.intro _ (Exists.intro _ ⟨by decide, hc, ?_⟩))
        refine bn_t (by decide) ?_
        refine Exists.intro j ⟨by omega, rfl, ?_⟩
        refine br_t (by rw [q1']; exact Int32.not_lt.mp e1) ?_
        refine Exists.intro 2 (Exists.intro _ (Exists.intro _ ⟨by decide, hrd, ?_⟩))
        refine br_f hr9 ?_
        exact ⟨rfl, rfl, rfl, rfl⟩

