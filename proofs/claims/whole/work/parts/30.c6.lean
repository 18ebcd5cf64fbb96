/-! ===== the class's deeds ===== -/
theorem evC_push {d b m d' b' c t : Int32} {tt da th bk tt' : Nat → Int32} {n : Nat} {E : Evn} {du' th' : Nat → Nat} {bb : Nat} (h : evC d b m tt da th bk n E) (hE : E.1 < 40) (hd : d' = nI (pkN du' n)) (hc : c = nI bb) (hb : b' = b + c) (ht' : ∀ i, i < 6 → tt' i = nI (th' i)) (hz : ∀ i, n ≤ i → i < 6 → th' i = 0)
    (hth : (t = -nI 9 ∧ ∀ i, i < 6 → th' i = thE E i) ∨ ∃ z, z < n ∧ t = nI z ∧ ∀ i, i < 6 → th' i = thE E i + (if i = z then 1 else 0)) : evC d' b' (m + nI 1) tt' (upd da E.1 d) (upd th E.1 t) (upd bk E.1 c) n (pushE E du' th' (btE E + bb)) := by
  obtain ⟨h1, h2, h3, h4, h5, h6, h7⟩ := h
  refine ⟨by show E.1 + 1 ≤ 40; omega, by rw [h2]; exact nI_s1 _, ?_, ?_, fun i hi => ?_, fun q hq i h8 h9 => ?_, fun q hq => ?_⟩
  · have e := push_du E du' th' (btE E + bb)
    show d' = nI (pkN (duE (pushE E du' th' (btE E + bb))) n)
    rw [e]
    exact hd
  · have e := push_bt E du' th' (btE E + bb)
    show b' = nI (btE (pushE E du' th' (btE E + bb)))
    rw [e, hb, hc, h4, nI_add]
    rfl
  · have e := push_th E du' th' (btE E + bb)
    show tt' i = nI (thE (pushE E du' th' (btE E + bb)) i)
    rw [e]
    exact ht' i hi
  · have hq2 : q ≤ E.1 + 1 := hq
    by_cases hqe : q = E.1 + 1
    · have e : (pushE E du' th' (btE E + bb)).2.2.1 q = th' := if_pos hqe
      rw [e]
      exact hz i h8 h9
    · rw [(push_old (by omega)).2.1]
      exact h6 q (by omega) i h8 h9
  · have hq2 : q < E.1 + 1 := hq
    obtain ⟨o1, o2, o3⟩ := push_old (E := E) (d := du') (t := th') (b := btE E + bb) (q := q) (by omega)
    rw [o1, o2, o3]
    by_cases hqe : q = E.1
    · subst hqe
      have n2 : (pushE E du' th' (btE E + bb)).2.2.1 (E.1 + 1) = th' := if_pos rfl
      have n3 : (pushE E du' th' (btE E + bb)).2.2.2 (E.1 + 1) = btE E + bb := if_pos rfl
      rw [n2, n3, pk_us, pk_us, pk_us]
      exact ⟨h3, ⟨bb, hc, rfl⟩, hth⟩
    · obtain ⟨p1, p2, p3⟩ := push_old (E := E) (d := du') (t := th') (b := btE E + bb) (q := q + 1) (by omega)
      rw [p2, p3, pk_un hqe, pk_un hqe, pk_un hqe]
      exact h7 q (by omega)
def eI (I : Nat → Int32) (d b m : Int32) : Nat → Int32 := upd (upd (upd I 30 d) 31 b) 32 m
def eF (F : Nat → Nat → Int32) (tt da th bk : Nat → Int32) : Nat → Nat → Int32 := va_up (va_up (va_up (va_up F 9 tt) 10 da) 11 th) 12 bk
theorem eI_ne {I : Nat → Int32} {d b m : Int32} {j : Nat} (h : j ≠ 30 ∧ j ≠ 31 ∧ j ≠ 32) : eI I d b m j = I j := by
  unfold eI
  rw [pk_un h.2.2, pk_un h.2.1, pk_un h.1]
theorem eF_ne {F : Nat → Nat → Int32} {tt da th bk : Nat → Int32} {j : Nat} (h : j < 9 ∨ 12 < j) : eF F tt da th bk j = F j := by
  unfold eF
  rw [va_up_ne _ _ (by omega), va_up_ne _ _ (by omega), va_up_ne _ _ (by omega), va_up_ne _ _ (by omega)]
theorem cH_ev {I : Nat → Int32} {F : Nat → Nat → Int32} {u v : Int64} : evH (cH I F u v) 8 (I 30) (I 31) (I 32) (F 9) (F 10) (F 11) (F 12) := ⟨rfl, rfl, rfl, rfl, rfl⟩
theorem cH_evW {I : Nat → Int32} {F : Nat → Nat → Int32} {u v : Int64} (d b m : Int32) (tt da th bk : Nat → Int32) : evW (cH I F u v) 8 d b m tt da th bk = cH (eI I d b m) (eF F tt da th bk) u v := rfl
theorem cH_kp {I : Nat → Int32} {F : Nat → Nat → Int32} {u v : Int64} {k : Nat} (h : k < 3) : evH (cH I F u v) (38 + 5 * k) (I (40 + 3 * k)) (I (41 + 3 * k)) (I (42 + 3 * k)) (F (39 + 5 * k)) (F (40 + 5 * k)) (F (41 + 5 * k)) (F (42 + 5 * k)) := by
  rcases (show k = 0 ∨ k = 1 ∨ k = 2 by omega) with rfl | rfl | rfl <;> exact ⟨rfl, rfl, rfl, rfl, rfl⟩
def kI (I : Nat → Int32) (k : Nat) (d b m : Int32) : Nat → Int32 := upd (upd (upd I (40 + 3 * k) d) (41 + 3 * k) b) (42 + 3 * k) m
def kF (F : Nat → Nat → Int32) (k : Nat) (tt da th bk : Nat → Int32) : Nat → Nat → Int32 := va_up (va_up (va_up (va_up F (39 + 5 * k) tt) (40 + 5 * k) da) (41 + 5 * k) th) (42 + 5 * k) bk
theorem cH_kpW {I : Nat → Int32} {F : Nat → Nat → Int32} {u v : Int64} {k : Nat} (h : k < 3) (d b m : Int32) (tt da th bk : Nat → Int32) : evW (cH I F u v) (38 + 5 * k) d b m tt da th bk = cH (kI I k d b m) (kF F k tt da th bk) u v := by
  rcases (show k = 0 ∨ k = 1 ∨ k = 2 by omega) with rfl | rfl | rfl <;> rfl
theorem kI_ne {I : Nat → Int32} {k : Nat} {d b m : Int32} {j : Nat} (h : j ≠ 40 + 3 * k ∧ j ≠ 41 + 3 * k ∧ j ≠ 42 + 3 * k) : kI I k d b m j = I j := by
  unfold kI
  rw [pk_un h.2.2, pk_un h.2.1, pk_un h.1]
theorem kF_ne {F : Nat → Nat → Int32} {k : Nat} {tt da th bk : Nat → Int32} {j : Nat} (h : j < 39 + 5 * k ∨ 42 + 5 * k < j) : kF F k tt da th bk j = F j := by
  unfold kF
  rw [va_up_ne _ _ (by omega), va_up_ne _ _ (by omega), va_up_ne _ _ (by omega), va_up_ne _ _ (by omega)]
/-- the evening is another one, all else as it was -/
theorem RCx_ev {I : Nat → Int32} {F : Nat → Nat → Int32} {S : Sta} {d b m : Int32} {tt da th bk : Nat → Int32} {E2 : Evn} (hx : RCx I F S) (h : evC d b m tt da th bk (eN S) E2) (hg : gdE (eN S) E2) : RCx (eI I d b m) (eF F tt da th bk) (sE S E2) := by
  obtain ⟨⟨g1, g2, g3, g4, g5, g6⟩, hr, ht, hl⟩ := hx
  refine ⟨⟨by rw [eI_ne (by omega)]; exact g1, g2, fun i hi => by rw [eF_ne (by omega)]; exact g3 i hi, h, hg, fun q hq => ?_⟩, rowC_congr hr (fun j hj => eI_ne (by omega)) (fun j hj => eF_ne (by omega)), txtC_congr ht (fun j hj => eI_ne (by omega)) (fun j hj => eF_ne (by omega)), by rw [eI_ne (by omega)]; exact hl.1, by rw [eI_ne (by omega)]; exact hl.2.1, fun f hf => by rw [eF_ne (by omega)]; exact hl.2.2 f hf⟩
  have g7 := g6 q hq
  rw [eI_ne (by omega), eI_ne (by omega), eI_ne (by omega), eF_ne (by omega), eF_ne (by omega), eF_ne (by omega), eF_ne (by omega)]
  exact g7

theorem c_T_isThing (I : Nat → Int32) (F : Nat → Nat → Int32) (u v : Int64) (n : Nat) (hI : I 22 = nI n) (hn : n ≤ 6) (x : Int32) : Am_Ev false 0 0 0 40 [.ref 0, .int x] (cH I F u v) (some (.int (b2 (in3 x (nI 0) (nI n - nI 1))))) (cH I F u v) := by
  refine am_ev 2 (some .boolean) false [] ok_T_isThing am_mP_40 (by rw [am_m_40]) (by rw [am_m_40]) (fun h => by cases h) (Nat.le_of_ble_eq_true rfl) ?_
  intro Go hG
  have hh := hasI_in3 (k := n) (i := x) (by omega)
  refine hG 200 _ _ _ _ _ _ ?_
  refine And.intro (fun h1 => ?_) (fun h1 => And.intro (fun h2 => ?_) (fun h2 => ?_))
  · exact ⟨Or.inl rfl, by rw [← hh]; unfold hasI; rw [decide_eq_false (fun q => q h1)]; rfl, rfl, rfl, rfl⟩
  · rw [hI] at h2
    exact ⟨Or.inl rfl, by rw [← hh]; unfold hasI; rw [show decide (x < nI n) = false from decide_eq_false (Int32.not_lt.mpr h2), Bool.and_false]; rfl, rfl, rfl, rfl⟩
  · rw [hI] at h2
    exact ⟨Or.inr rfl, by rw [← hh]; unfold hasI; rw [decide_eq_true h1, decide_eq_true (Int32.not_le.mp h2)]; rfl, rfl, rfl, rfl⟩

theorem c_T_skyNow (I : Nat → Int32) (F : Nat → Nat → Int32) (u v : Int64) (n : Nat) (du : Nat → Nat) (hI : I 22 = nI n) (hn : n ≤ 6) (ha : le15 n du) (h30 : I 30 = nI (pkN du n)) : Am_Ev false 2 0 0 61 [.ref 0] (cH I F u v) (some (.int (skyS n du))) (cH I F u v) := by
  refine am_ev 1 (some .int) false [] ok_T_skyNow am_mP_61 (by rw [am_m_61]) (by rw [am_m_61]) (fun h => by cases h) (Nat.le_of_ble_eq_true rfl) ?_
  intro Go hG
  have hc := c_P_sky (cH I F u v) 6 7 n (by show some _ = some _; rw [hI]) hn (I 30)
  have eS : skyG (gP (I 30)) n = skyS n du := by rw [h30]; exact skyG_congr (fun k hk => gP_S ha hn hk)
  rw [eS] at hc
  refine hG 200 _ _ _ _ _ _ ?_
  refine Exists.intro 1 (Exists.intro _ (Exists.intro _ ⟨by decide, hc, ?_⟩))
  exact ⟨rfl, rfl, rfl, rfl⟩

theorem c_T_enterRest (I : Nat → Int32) (F : Nat → Nat → Int32) (u v : Int64) (n m : Nat) (du : Nat → Nat) (hI : I 22 = nI n) (hn : n ≤ 6) (ha : apart n du) (h30 : I 30 = nI (pkN du n)) (h32 : I 32 = nI m) (hm : m < 40) (hp1 : ∀ k, k < n → 1 ≤ du k) : Am_Ev false 2 0 0 63 [.ref 0] (cH I F u v) (none) (cH (eI I (nI (pkN (latS 1 du) n)) (I 31 + nI 1) (I 32 + nI 1)) (eF F (F 9) (upd (F 10) m (I 30)) (upd (F 11) m (-nI 9)) (upd (F 12) m (nI 1))) u v) := by
  refine am_ev 1 none false [] ok_T_enterRest am_mP_63 (by rw [am_m_63]) (by rw [am_m_63]) (fun h => by cases h) (Nat.le_of_ble_eq_true rfl) ?_
  intro Go hG
  have hc := c_P_later (cH I F u v) 6 7 n (by show some _ = some _; rw [hI]) hn (I 30) (nI 1)
  rw [show latP n (I 30) (nI 1) = nI (pkN (latS 1 du) n) by rw [h30]; exact latP_S hn hp1] at hc
  have he := c_E_enter (cH I F u v) 8 (I 30) (I 31) (I 32) (F 9) (F 10) (F 11) (F 12) cH_ev m (nI (pkN (latS 1 du) n)) (-nI 9) (nI 1) h32 hm (Or.inl rfl)
  rw [if_pos rfl, cH_evW] at he
  refine hG 200 _ _ _ _ _ _ ?_
  refine Exists.intro 0 (Exists.intro _ (Exists.intro _ ⟨by decide, hc, ?_⟩))
  refine Exists.intro 1 (Exists.intro _ (Exists.intro _ ⟨by decide, he, ?_⟩))
  exact ⟨rfl, rfl, rfl, rfl⟩

theorem c_T_enterExchange (I : Nat → Int32) (F : Nat → Nat → Int32) (u v : Int64) (n m : Nat) (du : Nat → Nat) (hI : I 22 = nI n) (hn : n ≤ 6) (ha : apart n du) (h30 : I 30 = nI (pkN du n)) (h32 : I 32 = nI m) (hm : m < 40) (i j : Nat) (hi : i < n) (hj : j < n) : Am_Ev false 2 0 0 65 [.ref 0, .int (nI i), .int (nI j)] (cH I F u v) (none) (cH (eI I (nI (pkN (swpS du i j) n)) (I 31 + nI 0) (I 32 + nI 1)) (eF F (F 9) (upd (F 10) m (I 30)) (upd (F 11) m (-nI 9)) (upd (F 12) m (nI 0))) u v) := by
  refine am_ev 3 none false [] ok_T_enterExchange am_mP_65 (by rw [am_m_65]) (by rw [am_m_65]) (fun h => by cases h) (Nat.le_of_ble_eq_true rfl) ?_
  intro Go hG
  have hc := c_P_exchanged (cH I F u v) (I 30) (nI i) (nI j)
  rw [show withP (withP (I 30) (nI i) (dueP (I 30) (nI j))) (nI j) (dueP (I 30) (nI i)) = nI (pkN (swpS du i j) n) by rw [h30]; exact exch_S (le15_of ha) hn hi hj] at hc
  have he := c_E_enter (cH I F u v) 8 (I 30) (I 31) (I 32) (F 9) (F 10) (F 11) (F 12) cH_ev m (nI (pkN (swpS du i j) n)) (-nI 9) (nI 0) h32 hm (Or.inl rfl)
  rw [if_pos rfl, cH_evW] at he
  refine hG 200 _ _ _ _ _ _ ?_
  refine Exists.intro 1 (Exists.intro _ (Exists.intro _ ⟨by decide, hc, ?_⟩))
  refine Exists.intro 1 (Exists.intro _ (Exists.intro _ ⟨by decide, he, ?_⟩))
  exact ⟨rfl, rfl, rfl, rfl⟩

theorem c_T_enterThrow (I : Nat → Int32) (F : Nat → Nat → Int32) (u v : Int64) (n m : Nat) (du : Nat → Nat) (hI : I 22 = nI n) (hn : n ≤ 6) (ha : apart n du) (h30 : I 30 = nI (pkN du n)) (h32 : I 32 = nI m) (hm : m < 40) (kd : Nat → Nat) (hk : ∀ i, i < n → F 7 i = nI (kd i) ∧ kd i < 6) (h : Nat) (hh : 1 ≤ h ∧ h ≤ 7) (hmay : mayS n kd du (nI h) = true) : Am_Ev false 3 0 0 56 [.ref 0, .int (nI h)] (cH I F u v) (none) (cH (eI I (nI (pkN (tosS n kd du h) n)) (I 31 + nI 1) (I 32 + nI 1)) (eF F (upd (F 9) (dueS n du) (F 9 (dueS n du) + nI 1)) (upd (F 10) m (I 30)) (upd (F 11) m (nI (dueS n du))) (upd (F 12) m (nI 1))) u v) := by
  refine am_ev 3 none false [] ok_T_enterThrow am_mP_56 (by rw [am_m_56]) (by rw [am_m_56]) (fun h => by cases h) (Nat.le_of_ble_eq_true rfl) ?_
  intro Go hG
  have hg : ∀ k, k < n → gP (I 30) k = gN du k := fun k hk2 => by rw [h30]; exact gP_S (le15_of ha) hn hk2
  obtain ⟨hi, hv, hf⟩ := (mayS_iff ha.1 (fun i q => (hk i q).2) hh).mp hmay
  obtain ⟨ap1, ap2⟩ := tos_pos ha (fun i q => (hk i q).2) hh hmay
  have hdu : dueG (gP (I 30)) n 0 = dueS n du := dueG_congr hg n 0 (by omega)
  have hc := c_P_dueNow (cH I F u v) 6 7 n (by show some _ = some _; rw [hI]) hn (I 30)
  rw [hdu, dueR_yes hi] at hc
  have hc2 := c_P_thrown (cH I F u v) 6 7 n (by show some _ = some _; rw [hI]) hn kd (F 7) rfl hk (I 30) h (dueS n du) hh hdu hi
  have e1 : withP (I 30) (nI (dueS n du)) (landI (F 7 (dueS n du)) (nI h)) = nI (pkN (setS du (dueS n du) (lnd (kd (dueS n du)) h)) n) := by
    rw [h30, (hk _ hi).1, landI_S (hk _ hi).2 hh]
    unfold ldR
    rw [if_neg hv]
    exact withP_S (le15_of ha) hn hi (by have := lnd_le (hk _ hi).2 hh; omega)
  rw [e1, latP_S hn ap2] at hc2
  have he := c_E_enter (cH I F u v) 8 (I 30) (I 31) (I 32) (F 9) (F 10) (F 11) (F 12) cH_ev m (nI (pkN (tosS n kd du h) n)) (nI (dueS n du)) (nI 1) h32 hm (Or.inr ⟨_, by omega, rfl⟩)
  rw [if_neg (nI_m9 (by omega)), nat_nI (by omega), cH_evW] at he
  refine hG 200 _ _ _ _ _ _ ?_
  refine Exists.intro 1 (Exists.intro _ (Exists.intro _ ⟨by decide, hc, ?_⟩))
  refine Exists.intro 2 (Exists.intro _ (Exists.intro _ ⟨by decide, hc2, ?_⟩))
  refine Exists.intro 1 (Exists.intro _ (Exists.intro _ ⟨by decide, he, ?_⟩))
  exact ⟨rfl, rfl, rfl, rfl⟩

theorem pc_T_toss (S : Sta) (hp : List Am_C) (hRM : RC S hp) (h : Int32) : ∃ hp', Am_Ev false 6 0 0 50 [.ref 0, .int h] hp (some (.int (spToss S h).1)) hp' ∧ RC (spToss S h).2 hp' := by
  obtain ⟨I, F, rfl, hx⟩ := hRM
  obtain ⟨hs, hr, ht, hl⟩ := id hx
  obtain ⟨g1, g2, g3, g4, g5, g6⟩ := hs
  have hI : I 22 = nI (eN S) := g1
  have hn : eN S ≤ 6 := g2
  have hk : ∀ i, i < eN S → F 7 i = nI (eK S i) ∧ eK S i < 6 := g3
  have hE : evC (I 30) (I 31) (I 32) (F 9) (F 10) (F 11) (F 12) (eN S) (eE S) := g4
  have hG5 : gdE (eN S) (eE S) := g5
  have hap : apart (eN S) (duE (eE S)) := hG5 _ (Nat.le_refl _)
  obtain ⟨v1, v2, v3, v4, v5, v6, v7⟩ := id hE
  have h30 : I 30 = nI (pkN (duE (eE S)) (eN S)) := v3
  have hg : ∀ k, k < eN S → gP (I 30) k = gN (duE (eE S)) k := fun k hk2 => by rw [h30]; exact gP_S (le15_of hap) hn hk2
  have eDue : dueG (gP (I 30)) (eN S) 0 = dueS (eN S) (duE (eE S)) := dueG_congr hg _ 0 (by omega)
  have eMay : ∀ z, mayG (gP (I 30)) (F 7) (eN S) z = mayS (eN S) (eK S) (duE (eE S)) z := fun z => mayG_congr hg (fun k q => (hk k q).1) z
  unfold spToss
  have hfu := c_E_isFull (cH I F S.2.2.2.2.2.2.1 S.2.2.2.2.2.2.2) 8 (I 30) (I 31) (I 32) (F 9) (F 10) (F 11) (F 12) cH_ev
  have hc := c_T_isHeight (cH I F S.2.2.2.2.2.2.1 S.2.2.2.2.2.2.2) h
  cases ho : okH h with
  | false =>
    rw [if_pos rfl]
    rw [show in3 h (nI 1) (nI 7) = false from ho] at hc
    refine ⟨_, am_ev 2 (some .int) false [] ok_T_toss am_mP_50 (by rw [am_m_50]) (by rw [am_m_50]) (fun h => by cases h) (Nat.le_of_ble_eq_true rfl) (fun Go hG => ?_), RC_of hx⟩
    refine hG 200 _ _ _ _ _ _ ?_
    refine Exists.intro 0 (Exists.intro _ (Exists.intro _ ⟨by decide, hc, ?_⟩))
    refine bn_f rfl ?_
    exact ⟨rfl, rfl, rfl, rfl⟩
  | true =>
    rw [if_neg (by decide)]
    rw [show in3 h (nI 1) (nI 7) = true from ho] at hc
    obtain ⟨q, hq1, hq2, rfl⟩ := in3_nat (by decide) (by decide) ho
    rw [nat_nI (by omega)]
    have hmc := c_P_mayGo (cH I F S.2.2.2.2.2.2.1 S.2.2.2.2.2.2.2) 6 7 (eN S) (by show some _ = some _; rw [hI]) hn (eK S) (F 7) rfl hk (I 30) q ⟨hq1, hq2⟩
    rw [eMay] at hmc
    cases hm : mayS (eN S) (eK S) (duE (eE S)) (nI q) with
    | false =>
      rw [if_pos rfl]
      rw [hm] at hmc
      refine ⟨_, am_ev 2 (some .int) false [] ok_T_toss am_mP_50 (by rw [am_m_50]) (by rw [am_m_50]) (fun h => by cases h) (Nat.le_of_ble_eq_true rfl) (fun Go hG => ?_), RC_of hx⟩
      refine hG 200 _ _ _ _ _ _ ?_
      refine Exists.intro 0 (Exists.intro _ (Exists.intro _ ⟨by decide, hc, ?_⟩))
      refine bn_t (by decide) ?_
      refine Exists.intro 2 (Exists.intro _ (Exists.intro _ ⟨by decide, hmc, ?_⟩))
      refine bn_f rfl ?_
      exact ⟨rfl, rfl, rfl, rfl⟩
    | true =>
      rw [if_neg (by decide)]
      rw [hm] at hmc
      by_cases h40 : (eE S).1 = 40
      · rw [if_pos h40]
        rw [decide_eq_true (show nI 40 ≤ I 32 by rw [v2, h40]; decide)] at hfu
        refine ⟨_, am_ev 2 (some .int) false [] ok_T_toss am_mP_50 (by rw [am_m_50]) (by rw [am_m_50]) (fun h => by cases h) (Nat.le_of_ble_eq_true rfl) (fun Go hG => ?_), RC_of hx⟩
        refine hG 200 _ _ _ _ _ _ ?_
        refine Exists.intro 0 (Exists.intro _ (Exists.intro _ ⟨by decide, hc, ?_⟩))
        refine bn_t (by decide) ?_
        refine Exists.intro 2 (Exists.intro _ (Exists.intro _ ⟨by decide, hmc, ?_⟩))
        refine bn_t (by decide) ?_
        refine Exists.intro 0 (Exists.intro _ (Exists.intro _ ⟨by decide, hfu, ?_⟩))
        refine br_f (by decide) ?_
        exact ⟨rfl, rfl, rfl, rfl⟩
      · rw [if_neg h40]
        have hlt : (eE S).1 < 40 := by omega
        rw [decide_eq_false (show ¬ nI 40 ≤ I 32 by rw [v2]; exact nI_ge hlt (by omega))] at hfu
        obtain ⟨hi, hv, hf⟩ := (mayS_iff hap.1 (fun i q => (hk i q).2) ⟨hq1, hq2⟩).mp hm
        have ht := c_T_enterThrow I F S.2.2.2.2.2.2.1 S.2.2.2.2.2.2.2 (eN S) (eE S).1 (duE (eE S)) hI hn hap h30 v2 hlt (eK S) hk q ⟨hq1, hq2⟩ hm
        have ap3 := apart_tos hap (fun i q => (hk i q).2) ⟨hq1, hq2⟩ hm
        have hx2 := RCx_ev (E2 := tossE (eN S) (eK S) (eE S) q) hx (evC_push (du' := tosS (eN S) (eK S) (duE (eE S)) q) (th' := incS (thE (eE S)) (dueS (eN S) (duE (eE S)))) (bb := 1) (tt' := upd (F 9) (dueS (eN S) (duE (eE S))) (F 9 (dueS (eN S) (duE (eE S))) + nI 1)) (t := nI (dueS (eN S) (duE (eE S)))) hE hlt rfl rfl rfl (fun i hi2 => ?_) (fun i h1 h2 => ?_) (Or.inr ⟨_, hi, rfl, fun i _ => rfl⟩)) (gdE_push hG5 ap3)
        · have hsk := c_T_skyNow (eI I (nI (pkN (tosS (eN S) (eK S) (duE (eE S)) q) (eN S))) (I 31 + nI 1) (I 32 + nI 1)) (eF F (upd (F 9) (dueS (eN S) (duE (eE S))) (F 9 (dueS (eN S) (duE (eE S))) + nI 1)) (upd (F 10) (eE S).1 (I 30)) (upd (F 11) (eE S).1 (nI (dueS (eN S) (duE (eE S))))) (upd (F 12) (eE S).1 (nI 1))) S.2.2.2.2.2.2.1 S.2.2.2.2.2.2.2 (eN S) (tosS (eN S) (eK S) (duE (eE S)) q) hI hn (le15_of ap3) rfl
          refine ⟨_, am_ev 2 (some .int) false [] ok_T_toss am_mP_50 (by rw [am_m_50]) (by rw [am_m_50]) (fun h => by cases h) (Nat.le_of_ble_eq_true rfl) (fun Go hG => ?_), RC_of hx2⟩
          refine hG 200 _ _ _ _ _ _ ?_
          refine Exists.intro 0 (Exists.intro _ (Exists.intro _ ⟨by decide, hc, ?_⟩))
          refine bn_t (by decide) ?_
          refine Exists.intro 2 (Exists.intro _ (Exists.intro _ ⟨by decide, hmc, ?_⟩))
          refine bn_t (by decide) ?_
          refine Exists.intro 0 (Exists.intro _ (Exists.intro _ ⟨by decide, hfu, ?_⟩))
          refine br_t rfl ?_
          refine Exists.intro 3 (Exists.intro _ (Exists.intro _ ⟨by decide, ht, ?_⟩))
          refine Exists.intro 2 (Exists.intro _ (Exists.intro _ ⟨by decide, hsk, ?_⟩))
          exact ⟨rfl, rfl, rfl, rfl⟩
        · unfold incS upd
          by_cases hid : i = dueS (eN S) (duE (eE S))
          · rw [if_pos hid, if_pos hid, ← hid, v5 i hi2, nI_s1]
            rfl
          · rw [if_neg hid, if_neg hid, v5 i hi2]
            rfl
        · unfold incS
          rw [if_neg (by omega)]
          exact v6 _ (Nat.le_refl _) i h1 h2

theorem pc_T_rest (S : Sta) (hp : List Am_C) (hRM : RC S hp)  : ∃ hp', Am_Ev false 6 0 0 62 [.ref 0] hp (some (.int (spRest S).1)) hp' ∧ RC (spRest S).2 hp' := by
  obtain ⟨I, F, rfl, hx⟩ := hRM
  obtain ⟨hs, hr, ht, hl⟩ := id hx
  obtain ⟨g1, g2, g3, g4, g5, g6⟩ := hs
  have hI : I 22 = nI (eN S) := g1
  have hn : eN S ≤ 6 := g2
  have hk : ∀ i, i < eN S → F 7 i = nI (eK S i) ∧ eK S i < 6 := g3
  have hE : evC (I 30) (I 31) (I 32) (F 9) (F 10) (F 11) (F 12) (eN S) (eE S) := g4
  have hG5 : gdE (eN S) (eE S) := g5
  have hap : apart (eN S) (duE (eE S)) := hG5 _ (Nat.le_refl _)
  obtain ⟨v1, v2, v3, v4, v5, v6, v7⟩ := id hE
  have h30 : I 30 = nI (pkN (duE (eE S)) (eN S)) := v3
  have hg : ∀ k, k < eN S → gP (I 30) k = gN (duE (eE S)) k := fun k hk2 => by rw [h30]; exact gP_S (le15_of hap) hn hk2
  have eDue : dueG (gP (I 30)) (eN S) 0 = dueS (eN S) (duE (eE S)) := dueG_congr hg _ 0 (by omega)
  have eMay : ∀ z, mayG (gP (I 30)) (F 7) (eN S) z = mayS (eN S) (eK S) (duE (eE S)) z := fun z => mayG_congr hg (fun k q => (hk k q).1) z
  unfold spRest
  have hfu := c_E_isFull (cH I F S.2.2.2.2.2.2.1 S.2.2.2.2.2.2.2) 8 (I 30) (I 31) (I 32) (F 9) (F 10) (F 11) (F 12) cH_ev
  by_cases h0 : eN S = 0
  · rw [if_pos h0]
    refine ⟨_, am_ev 1 (some .int) false [] ok_T_rest am_mP_62 (by rw [am_m_62]) (by rw [am_m_62]) (fun h => by cases h) (Nat.le_of_ble_eq_true rfl) (fun Go hG => ?_), RC_of hx⟩
    refine hG 200 _ _ _ _ _ _ ?_
    refine br_t (by rw [hI, h0]; rfl) ?_
    exact ⟨rfl, rfl, rfl, rfl⟩
  · rw [if_neg h0]
    have hz : ¬ I 22 = 0 := by rw [hI]; exact nI_ne0 (by omega) (by omega)
    have hdc := c_P_dueNow (cH I F S.2.2.2.2.2.2.1 S.2.2.2.2.2.2.2) 6 7 (eN S) (by show some _ = some _; rw [hI]) hn (I 30)
    rw [eDue] at hdc
    by_cases hd : dueS (eN S) (duE (eE S)) < eN S
    · rw [if_pos hd]
      rw [dueR_yes hd] at hdc
      refine ⟨_, am_ev 1 (some .int) false [] ok_T_rest am_mP_62 (by rw [am_m_62]) (by rw [am_m_62]) (fun h => by cases h) (Nat.le_of_ble_eq_true rfl) (fun Go hG => ?_), RC_of hx⟩
      refine hG 200 _ _ _ _ _ _ ?_
      refine br_f hz ?_
      refine Exists.intro 1 (Exists.intro _ (Exists.intro _ ⟨by decide, hdc, ?_⟩))
      refine br_f (nI_m9 (by omega)) ?_
      exact ⟨rfl, rfl, rfl, rfl⟩
    · rw [if_neg hd]
      rw [dueR_no hd] at hdc
      by_cases h40 : (eE S).1 = 40
      · rw [if_pos h40]
        rw [decide_eq_true (show nI 40 ≤ I 32 by rw [v2, h40]; decide)] at hfu
        refine ⟨_, am_ev 1 (some .int) false [] ok_T_rest am_mP_62 (by rw [am_m_62]) (by rw [am_m_62]) (fun h => by cases h) (Nat.le_of_ble_eq_true rfl) (fun Go hG => ?_), RC_of hx⟩
        refine hG 200 _ _ _ _ _ _ ?_
        refine br_f hz ?_
        refine Exists.intro 1 (Exists.intro _ (Exists.intro _ ⟨by decide, hdc, ?_⟩))
        refine br_t rfl ?_
        refine Exists.intro 0 (Exists.intro _ (Exists.intro _ ⟨by decide, hfu, ?_⟩))
        refine br_f (by decide) ?_
        exact ⟨rfl, rfl, rfl, rfl⟩
      · rw [if_neg h40]
        have hlt : (eE S).1 < 40 := by omega
        rw [decide_eq_false (show ¬ nI 40 ≤ I 32 by rw [v2]; exact nI_ge hlt (by omega))] at hfu
        have hpos := dueS_pos hd
        have ap3 := apart_lat hap hpos
        have ht := c_T_enterRest I F S.2.2.2.2.2.2.1 S.2.2.2.2.2.2.2 (eN S) (eE S).1 (duE (eE S)) hI hn hap h30 v2 hlt hpos
        have hx2 := RCx_ev (E2 := restE (eE S)) hx (evC_push (du' := latS 1 (duE (eE S))) (th' := thE (eE S)) (bb := 1) (tt' := F 9) (t := -nI 9) hE hlt rfl rfl rfl v5 (fun i h1 h2 => v6 _ (Nat.le_refl _) i h1 h2) (Or.inl ⟨rfl, fun i _ => rfl⟩)) (gdE_push hG5 ap3)
        have hsk := c_T_skyNow (eI I (nI (pkN (latS 1 (duE (eE S))) (eN S))) (I 31 + nI 1) (I 32 + nI 1)) (eF F (F 9) (upd (F 10) (eE S).1 (I 30)) (upd (F 11) (eE S).1 (-nI 9)) (upd (F 12) (eE S).1 (nI 1))) S.2.2.2.2.2.2.1 S.2.2.2.2.2.2.2 (eN S) (latS 1 (duE (eE S))) hI hn (le15_of ap3) rfl
        refine ⟨_, am_ev 1 (some .int) false [] ok_T_rest am_mP_62 (by rw [am_m_62]) (by rw [am_m_62]) (fun h => by cases h) (Nat.le_of_ble_eq_true rfl) (fun Go hG => ?_), RC_of hx2⟩
        refine hG 200 _ _ _ _ _ _ ?_
        refine br_f hz ?_
        refine Exists.intro 1 (Exists.intro _ (Exists.intro _ ⟨by decide, hdc, ?_⟩))
        refine br_t rfl ?_
        refine Exists.intro 0 (Exists.intro _ (Exists.intro _ ⟨by decide, hfu, ?_⟩))
        refine br_t rfl ?_
        refine Exists.intro 2 (Exists.intro _ (Exists.intro _ ⟨by decide, ht, ?_⟩))
        refine Exists.intro 2 (Exists.intro _ (Exists.intro _ ⟨by decide, hsk, ?_⟩))
        exact ⟨rfl, rfl, rfl, rfl⟩

theorem pc_T_exchange (S : Sta) (hp : List Am_C) (hRM : RC S hp) (i j : Int32) : ∃ hp', Am_Ev false 6 0 0 64 [.ref 0, .int i, .int j] hp (some (.int (spExch S i j).1)) hp' ∧ RC (spExch S i j).2 hp' := by
  obtain ⟨I, F, rfl, hx⟩ := hRM
  obtain ⟨hs, hr, ht, hl⟩ := id hx
  obtain ⟨g1, g2, g3, g4, g5, g6⟩ := hs
  have hI : I 22 = nI (eN S) := g1
  have hn : eN S ≤ 6 := g2
  have hk : ∀ i, i < eN S → F 7 i = nI (eK S i) ∧ eK S i < 6 := g3
  have hE : evC (I 30) (I 31) (I 32) (F 9) (F 10) (F 11) (F 12) (eN S) (eE S) := g4
  have hG5 : gdE (eN S) (eE S) := g5
  have hap : apart (eN S) (duE (eE S)) := hG5 _ (Nat.le_refl _)
  obtain ⟨v1, v2, v3, v4, v5, v6, v7⟩ := id hE
  have h30 : I 30 = nI (pkN (duE (eE S)) (eN S)) := v3
  have hg : ∀ k, k < eN S → gP (I 30) k = gN (duE (eE S)) k := fun k hk2 => by rw [h30]; exact gP_S (le15_of hap) hn hk2
  have eDue : dueG (gP (I 30)) (eN S) 0 = dueS (eN S) (duE (eE S)) := dueG_congr hg _ 0 (by omega)
  have eMay : ∀ z, mayG (gP (I 30)) (F 7) (eN S) z = mayS (eN S) (eK S) (duE (eE S)) z := fun z => mayG_congr hg (fun k q => (hk k q).1) z
  unfold spExch
  have hfu := c_E_isFull (cH I F S.2.2.2.2.2.2.1 S.2.2.2.2.2.2.2) 8 (I 30) (I 31) (I 32) (F 9) (F 10) (F 11) (F 12) cH_ev
  have hc1 := c_T_isThing I F S.2.2.2.2.2.2.1 S.2.2.2.2.2.2.2 (eN S) hI hn i
  cases ho : okI S i with
  | false =>
    rw [if_pos rfl]
    rw [show in3 i (nI 0) (nI (eN S) - nI 1) = false from ho] at hc1
    refine ⟨_, am_ev 3 (some .int) false [] ok_T_exchange am_mP_64 (by rw [am_m_64]) (by rw [am_m_64]) (fun h => by cases h) (Nat.le_of_ble_eq_true rfl) (fun Go hG => ?_), RC_of hx⟩
    refine hG 200 _ _ _ _ _ _ ?_
    refine Exists.intro 0 (Exists.intro _ (Exists.intro _ ⟨by decide, hc1, ?_⟩))
    refine br_t rfl ?_
    exact ⟨rfl, rfl, rfl, rfl⟩
  | true =>
    rw [if_neg (by decide)]
    rw [show in3 i (nI 0) (nI (eN S) - nI 1) = true from ho] at hc1
    obtain ⟨a, ha, rfl⟩ := in3_nat2 (k := eN S) (by omega) rfl ho
    rw [nat_nI (by omega)]
    have hc2 := c_T_isThing I F S.2.2.2.2.2.2.1 S.2.2.2.2.2.2.2 (eN S) hI hn j
    cases ho2 : okI S j with
    | false =>
      rw [if_pos rfl]
      rw [show in3 j (nI 0) (nI (eN S) - nI 1) = false from ho2] at hc2
      refine ⟨_, am_ev 3 (some .int) false [] ok_T_exchange am_mP_64 (by rw [am_m_64]) (by rw [am_m_64]) (fun h => by cases h) (Nat.le_of_ble_eq_true rfl) (fun Go hG => ?_), RC_of hx⟩
      refine hG 200 _ _ _ _ _ _ ?_
      refine Exists.intro 0 (Exists.intro _ (Exists.intro _ ⟨by decide, hc1, ?_⟩))
      refine br_f (by decide) ?_
      refine Exists.intro 0 (Exists.intro _ (Exists.intro _ ⟨by decide, hc2, ?_⟩))
      refine br_t rfl ?_
      exact ⟨rfl, rfl, rfl, rfl⟩
    | true =>
      rw [if_neg (by decide)]
      rw [show in3 j (nI 0) (nI (eN S) - nI 1) = true from ho2] at hc2
      obtain ⟨b, hb, rfl⟩ := in3_nat2 (k := eN S) (by omega) rfl ho2
      rw [nat_nI (by omega)]
      by_cases hab : nI a = nI b
      · rw [if_pos hab]
        refine ⟨_, am_ev 3 (some .int) false [] ok_T_exchange am_mP_64 (by rw [am_m_64]) (by rw [am_m_64]) (fun h => by cases h) (Nat.le_of_ble_eq_true rfl) (fun Go hG => ?_), RC_of hx⟩
        refine hG 200 _ _ _ _ _ _ ?_
        refine Exists.intro 0 (Exists.intro _ (Exists.intro _ ⟨by decide, hc1, ?_⟩))
        refine br_f (by decide) ?_
        refine Exists.intro 0 (Exists.intro _ (Exists.intro _ ⟨by decide, hc2, ?_⟩))
        refine br_f (by decide) ?_
        refine bn_f hab ?_
        exact ⟨rfl, rfl, rfl, rfl⟩
      · rw [if_neg hab]
        by_cases h40 : (eE S).1 = 40
        · rw [if_pos h40]
          rw [decide_eq_true (show nI 40 ≤ I 32 by rw [v2, h40]; decide)] at hfu
          refine ⟨_, am_ev 3 (some .int) false [] ok_T_exchange am_mP_64 (by rw [am_m_64]) (by rw [am_m_64]) (fun h => by cases h) (Nat.le_of_ble_eq_true rfl) (fun Go hG => ?_), RC_of hx⟩
          refine hG 200 _ _ _ _ _ _ ?_
          refine Exists.intro 0 (Exists.intro _ (Exists.intro _ ⟨by decide, hc1, ?_⟩))
          refine br_f (by decide) ?_
          refine Exists.intro 0 (Exists.intro _ (Exists.intro _ ⟨by decide, hc2, ?_⟩))
          refine br_f (by decide) ?_
          refine bn_t hab ?_
          refine Exists.intro 0 (Exists.intro _ (Exists.intro _ ⟨by decide, hfu, ?_⟩))
          refine br_f (by decide) ?_
          exact ⟨rfl, rfl, rfl, rfl⟩
        · rw [if_neg h40]
          have hlt : (eE S).1 < 40 := by omega
          rw [decide_eq_false (show ¬ nI 40 ≤ I 32 by rw [v2]; exact nI_ge hlt (by omega))] at hfu
          have ap3 := apart_swp hap ha hb
          have ht := c_T_enterExchange I F S.2.2.2.2.2.2.1 S.2.2.2.2.2.2.2 (eN S) (eE S).1 (duE (eE S)) hI hn hap h30 v2 hlt a b ha hb
          have hx2 := RCx_ev (E2 := exchE (eE S) a b) hx (evC_push (du' := swpS (duE (eE S)) a b) (th' := thE (eE S)) (bb := 0) (tt' := F 9) (t := -nI 9) hE hlt rfl rfl rfl v5 (fun i h1 h2 => v6 _ (Nat.le_refl _) i h1 h2) (Or.inl ⟨rfl, fun i _ => rfl⟩)) (gdE_push hG5 ap3)
          have hsk := c_T_skyNow (eI I (nI (pkN (swpS (duE (eE S)) a b) (eN S))) (I 31 + nI 0) (I 32 + nI 1)) (eF F (F 9) (upd (F 10) (eE S).1 (I 30)) (upd (F 11) (eE S).1 (-nI 9)) (upd (F 12) (eE S).1 (nI 0))) S.2.2.2.2.2.2.1 S.2.2.2.2.2.2.2 (eN S) (swpS (duE (eE S)) a b) hI hn (le15_of ap3) rfl
          refine ⟨_, am_ev 3 (some .int) false [] ok_T_exchange am_mP_64 (by rw [am_m_64]) (by rw [am_m_64]) (fun h => by cases h) (Nat.le_of_ble_eq_true rfl) (fun Go hG => ?_), RC_of hx2⟩
          refine hG 200 _ _ _ _ _ _ ?_
          refine Exists.intro 0 (Exists.intro _ (Exists.intro _ ⟨by decide, hc1, ?_⟩))
          refine br_f (by decide) ?_
          refine Exists.intro 0 (Exists.intro _ (Exists.intro _ ⟨by decide, hc2, ?_⟩))
          refine br_f (by decide) ?_
          refine bn_t hab ?_
          refine Exists.intro 0 (Exists.intro _ (Exists.intro _ ⟨by decide, hfu, ?_⟩))
          refine br_t rfl ?_
          refine Exists.intro 2 (Exists.intro _ (Exists.intro _ ⟨by decide, ht, ?_⟩))
          refine Exists.intro 2 (Exists.intro _ (Exists.intro _ ⟨by decide, hsk, ?_⟩))
          exact ⟨rfl, rfl, rfl, rfl⟩

