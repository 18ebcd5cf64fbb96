/-! ===== the class: what is only tried ===== -/
def CBs (I : Nat → Int32) (F : Nat → Nat → Int32) (n : Nat) (kd : Nat → Nat) : Prop := I 22 = nI n ∧ n ≤ 6 ∧ 0 < n ∧ ∀ i, i < n → F 7 i = nI (kd i) ∧ kd i < 6
theorem CBs_of {I : Nat → Int32} {F : Nat → Nat → Int32} {S : Sta} (hx : RCx I F S) (h0 : ¬ eN S = 0) : CBs I F (eN S) (eK S) := by
  obtain ⟨⟨g1, g2, g3, g4, g5, g6⟩, hr, ht, hl⟩ := hx
  exact ⟨g1, g2, by omega, g3⟩
theorem skyC_cg {I I' : Nat → Int32} {F F' : Nat → Nat → Int32} {k : Sky} (h : skyC I F k) (hI : ∀ j, j = 22 ∨ (30 ≤ j ∧ j < 52) → I' j = I j) (hF : ∀ j, j = 7 ∨ (9 ≤ j ∧ j ≤ 12) ∨ 39 ≤ j → F' j = F j) : skyC I' F' k := by
  obtain ⟨h1, h2, h3, h4, h5, h6⟩ := h
  refine ⟨by rw [hI 22 (by omega)]; exact h1, h2, fun i hi => by rw [hF 7 (by omega)]; exact h3 i hi, ?_, h5, fun q hq => ?_⟩
  · rw [hI 30 (by omega), hI 31 (by omega), hI 32 (by omega), hF 9 (by omega), hF 10 (by omega), hF 11 (by omega), hF 12 (by omega)]
    exact h4
  · have h7 := h6 q hq
    rw [hI (40 + 3 * q) (by omega), hI (41 + 3 * q) (by omega), hI (42 + 3 * q) (by omega), hF (39 + 5 * q) (by omega), hF (40 + 5 * q) (by omega), hF (41 + 5 * q) (by omega), hF (42 + 5 * q) (by omega)]
    exact h7
/-- what is only tried is not looked at -/
theorem RCx_try {I : Nat → Int32} {F : Nat → Nat → Int32} {S : Sta} (hx : RCx I F S) (x y : Int32) (p : Nat → Int32) : RCx (upd (upd I 23 x) 24 y) (va_up F 15 p) S := by
  obtain ⟨hs, hr, ht, h8, h11, h12⟩ := hx
  exact ⟨skyC_cg hs (fun j hj => by rw [pk_un (by omega), pk_un (by omega)]) (fun j hj => va_up_ne _ _ (by omega)), rowC_congr hr (fun j hj => by rw [pk_un (by omega), pk_un (by omega)]) (fun j hj => va_up_ne _ _ (by omega)), txtC_congr ht (fun j hj => by rw [pk_un (by omega), pk_un (by omega)]) (fun j hj => va_up_ne _ _ (by omega)), h8, h11, h12⟩
theorem cH_23 {I : Nat → Int32} {F : Nat → Nat → Int32} {u v : Int64} (x : Int32) : cH (upd I 23 x) F u v = cH (upd (upd I 23 x) 24 (I 24)) (va_up F 15 (F 15)) u v := rfl
theorem cH_15 {I : Nat → Int32} {F : Nat → Nat → Int32} {u v : Int64} (p : Nat → Int32) : cH I (va_up F 15 p) u v = cH (upd (upd I 23 (I 23)) 24 (I 24)) (va_up F 15 p) u v := rfl
theorem cH_24 {I : Nat → Int32} {F : Nat → Nat → Int32} {u v : Int64} (x : Int32) : cH (upd I 24 x) F u v = cH (upd (upd I 23 (I 23)) 24 x) (va_up F 15 (F 15)) u v := rfl
def cFd (I : Nat → Int32) (F : Nat → Nat → Int32) (u v : Int64) (c : Nat) : List Am_C := if c = 0 ∨ c = 9 then cH I F u v else cH (upd I 9 (nI c)) (va_up F 17 (upd (F 17) c (F 17 c + nI 1))) u v
theorem RC_fd {I : Nat → Int32} {F : Nat → Nat → Int32} {S : Sta} (h : RCx I F S) {c : Nat} (h0 : ¬ c = 0) (hc : c < 6 ∨ c = 9) : RC (fdS S c) (cFd I F S.2.2.2.2.2.2.1 S.2.2.2.2.2.2.2 c) := by
  unfold fdS cFd
  by_cases e : c = 9
  · rw [if_pos e, if_pos (Or.inr e)]; exact RC_of h
  · rw [if_neg e, if_neg (by omega)]; exact RC_fnd h (by omega)

theorem y_sky {I : Nat → Int32} {F : Nat → Nat → Int32} {n : Nat} {kd : Nat → Nat} (hb : CBs I F n kd) (u v : Int64) {d : Nat → Nat} (ha : apart n d) : Am_Ev false 1 0 0 32 [.ref 6, .int (nI (pkN d n))] (cH I F u v) (some (.int (skyS n d))) (cH I F u v) := by
  have h := c_P_sky (cH I F u v) 6 7 n (by show some _ = some _; rw [hb.1]) hb.2.1 (nI (pkN d n))
  rw [skyG_congr (h := gN d) (fun k hk => gP_S (le15_of ha) hb.2.1 hk)] at h
  exact h
theorem y_sum {I : Nat → Int32} {F : Nat → Nat → Int32} {n : Nat} {kd : Nat → Nat} (hb : CBs I F n kd) (u v : Int64) {d : Nat → Nat} (ha : apart n d) : Am_Ev false 1 0 0 108 [.ref 6, .int (nI (pkN d n))] (cH I F u v) (some (.int (sumS n d))) (cH I F u v) := by
  have h := c_P_dueTogether (cH I F u v) 6 7 n (by show some _ = some _; rw [hb.1]) hb.2.1 (nI (pkN d n))
  rw [sumG_congr (h := gN d) (fun k hk => gP_S (le15_of ha) hb.2.1 hk)] at h
  exact h
theorem y_due {I : Nat → Int32} {F : Nat → Nat → Int32} {n : Nat} {kd : Nat → Nat} (hb : CBs I F n kd) (u v : Int64) {d : Nat → Nat} (ha : apart n d) : Am_Ev false 1 0 0 53 [.ref 6, .int (nI (pkN d n))] (cH I F u v) (some (.int (dueR n (dueS n d)))) (cH I F u v) := by
  have h := c_P_dueNow (cH I F u v) 6 7 n (by show some _ = some _; rw [hb.1]) hb.2.1 (nI (pkN d n))
  rw [dueG_congr (h := gN d) (fun k hk => gP_S (le15_of ha) hb.2.1 hk) n 0 (by omega)] at h
  exact h
theorem y_rests {I : Nat → Int32} {F : Nat → Nat → Int32} {n : Nat} {kd : Nat → Nat} (hb : CBs I F n kd) (u v : Int64) {d : Nat → Nat} (ha : apart n d) : Am_Ev false 1 0 0 80 [.ref 6, .int (nI (pkN d n))] (cH I F u v) (some (.int (nI (mnS d n)))) (cH I F u v) := by
  have h := c_P_restsAhead (cH I F u v) 6 7 n (by show some _ = some _; rw [hb.1]) hb.2.1 (nI (pkN d n))
  rw [rstG_congr (h := gN d) (fun k hk => gP_S (le15_of ha) hb.2.1 hk), rstG_S ha.1] at h
  exact h
theorem y_later {I : Nat → Int32} {F : Nat → Nat → Int32} {n : Nat} {kd : Nat → Nat} (hb : CBs I F n kd) (u v : Int64) {d : Nat → Nat} (b : Nat) (hd : ∀ k, k < n → b ≤ d k) : Am_Ev false 0 0 0 58 [.ref 6, .int (nI (pkN d n)), .int (nI b)] (cH I F u v) (some (.int (nI (pkN (latS b d) n)))) (cH I F u v) := by
  have h := c_P_later (cH I F u v) 6 7 n (by show some _ = some _; rw [hb.1]) hb.2.1 (nI (pkN d n)) (nI b)
  rw [latP_S hb.2.1 hd] at h
  exact h
theorem y_rested {I : Nat → Int32} {F : Nat → Nat → Int32} {n : Nat} {kd : Nat → Nat} (hb : CBs I F n kd) (u v : Int64) {d : Nat → Nat} (ha : apart n d) : Am_Ev false 2 0 0 79 [.ref 6, .int (nI (pkN d n))] (cH I F u v) (some (.int (nI (pkN (rstS n d) n)))) (cH I F u v) := by
  have h := c_P_rested (cH I F u v) 6 7 n (by show some _ = some _; rw [hb.1]) hb.2.1 (nI (pkN d n))
  rw [rstG_congr (h := gN d) (fun k hk => gP_S (le15_of ha) hb.2.1 hk), rstG_S ha.1, latP_S hb.2.1 (fun k hk => mnS_le hk)] at h
  exact h
theorem y_may {I : Nat → Int32} {F : Nat → Nat → Int32} {n : Nat} {kd : Nat → Nat} (hb : CBs I F n kd) (u v : Int64) {d : Nat → Nat} (ha : apart n d) (q : Nat) (hq : 1 ≤ q ∧ q ≤ 7) : Am_Ev false 2 0 0 52 [.ref 6, .int (nI (pkN d n)), .int (nI q)] (cH I F u v) (some (.int (b2 (mayS n kd d (nI q))))) (cH I F u v) := by
  have h := c_P_mayGo (cH I F u v) 6 7 n (by show some _ = some _; rw [hb.1]) hb.2.1 kd (F 7) rfl hb.2.2.2 (nI (pkN d n)) q hq
  rw [mayG_congr (h := gN d) (kh := gN kd) (fun k hk => gP_S (le15_of ha) hb.2.1 hk) (fun k hk => (hb.2.2.2 k hk).1)] at h
  exact h
theorem y_heights {I : Nat → Int32} {F : Nat → Nat → Int32} {n : Nat} {kd : Nat → Nat} (hb : CBs I F n kd) (u v : Int64) {d : Nat → Nat} (ha : apart n d) : Am_Ev false 2 0 0 75 [.ref 6, .int (nI (pkN d n))] (cH I F u v) (some (.int (hgtS n kd d))) (cH I F u v) := by
  have h := c_P_heightsNow (cH I F u v) 6 7 n (by show some _ = some _; rw [hb.1]) hb.2.1 kd (F 7) rfl hb.2.2.2 (nI (pkN d n))
  rw [hgtG_congr (q := mayS n kd d) (fun z => mayG_congr (h := gN d) (kh := gN kd) (fun k hk => gP_S (le15_of ha) hb.2.1 hk) (fun k hk => (hb.2.2.2 k hk).1) z)] at h
  exact h
theorem y_thrown {I : Nat → Int32} {F : Nat → Nat → Int32} {n : Nat} {kd : Nat → Nat} (hb : CBs I F n kd) (u v : Int64) {d : Nat → Nat} (ha : apart n d) (h : Nat) (hh : 1 ≤ h ∧ h ≤ 7) (hm : mayS n kd d (nI h) = true) : Am_Ev false 2 0 0 57 [.ref 6, .int (nI (pkN d n)), .int (nI h)] (cH I F u v) (some (.int (nI (pkN (tosS n kd d h) n)))) (cH I F u v) := by
  obtain ⟨hi, hv, hf⟩ := (mayS_iff ha.1 (fun i q => (hb.2.2.2 i q).2) hh).mp hm
  obtain ⟨ap1, ap2⟩ := tos_pos ha (fun i q => (hb.2.2.2 i q).2) hh hm
  have hdu : dueG (gP (nI (pkN d n))) n 0 = dueS n d := dueG_congr (h := gN d) (fun k hk => gP_S (le15_of ha) hb.2.1 hk) n 0 (by omega)
  have hc2 := c_P_thrown (cH I F u v) 6 7 n (by show some _ = some _; rw [hb.1]) hb.2.1 kd (F 7) rfl hb.2.2.2 (nI (pkN d n)) h (dueS n d) hh hdu hi
  have e1 : withP (nI (pkN d n)) (nI (dueS n d)) (landI (F 7 (dueS n d)) (nI h)) = nI (pkN (setS d (dueS n d) (lnd (kd (dueS n d)) h)) n) := by
    rw [(hb.2.2.2 _ hi).1, landI_S (hb.2.2.2 _ hi).2 hh]
    unfold ldR
    rw [if_neg hv]
    exact withP_S (le15_of ha) hb.2.1 hi (by have := lnd_le (hb.2.2.2 _ hi).2 hh; omega)
  rw [e1, latP_S hb.2.1 ap2] at hc2
  exact hc2

theorem c_T_refusalOfThrows {I : Nat → Int32} {F : Nat → Nat → Int32} {S : Sta} (hx : RCx I F S) (hn0 : ¬ eN S = 0) (r : Int32) (lo hi : Nat) (hlo : lo ≤ 1) (hhi : hi ≤ 40) : Am_Ev false 2 0 0 77 [.ref 0, .int r, .int (nI lo), .int (nI hi)] (cH I F S.2.2.2.2.2.2.1 S.2.2.2.2.2.2.2) (some (.int (wrV (wrHc S r lo hi)))) (cFd I F S.2.2.2.2.2.2.1 S.2.2.2.2.2.2.2 (wrHc S r lo hi)) := by
  obtain ⟨hs, hr, ht, hl⟩ := id hx
  obtain ⟨hI, hn, -, -⟩ := CBs_of hx hn0
  have hI0 : ¬ I 22 = 0 := by rw [hI]; exact fun q => hn0 ((nI_z (by omega)).mp q)
  unfold wrHc
  cases ho : okR r with
  | false =>
    rw [if_pos rfl]
    refine am_ev 7 (some .int) false [63] ok_T_refusalOfThrows am_mP_77 (by rw [am_m_77]) (by rw [am_m_77]) (fun h => by cases h) (Nat.le_of_ble_eq_true rfl) (fun Go hG => ?_)
    refine hG 200 _ _ _ _ _ _ ?_
    refine bn_t hI0 ?_
    refine Exists.intro 1 (Exists.intro _ (Exists.intro _ ⟨by decide, c_T_refusalOfRow_a I F _ _ r ho, ?_⟩))
    refine br_f (by decide) ?_
    exact ⟨rfl, rfl, rfl, rfl⟩
  | true =>
    rw [if_neg (by decide)]
    obtain ⟨j, -, hj, rfl⟩ := in3_nat (by decide) (by decide) ho
    rw [nat_nI (by omega)]
    obtain ⟨q1, q2, q3⟩ := hr j (by omega)
    have q1' : I (60 + j) = rz S j := q1
    have q2' : szOk 40 (rz S j) := q2
    by_cases e1 : rz S j < 0
    · rw [if_pos e1]
      refine am_ev 7 (some .int) false [63] ok_T_refusalOfThrows am_mP_77 (by rw [am_m_77]) (by rw [am_m_77]) (fun h => by cases h) (Nat.le_of_ble_eq_true rfl) (fun Go hG => ?_)
      refine hG 200 _ _ _ _ _ _ ?_
      refine bn_t hI0 ?_
      refine Exists.intro 1 (Exists.intro _ (Exists.intro _ ⟨by decide, c_T_refusalOfRow_b I F _ _ j hj (by rw [q1]; exact e1), ?_⟩))
      refine br_f (by decide) ?_
      exact ⟨rfl, rfl, rfl, rfl⟩
    · rw [if_neg e1]
      obtain ⟨e3, e4⟩ := szOk_nI (by decide) q2' e1
      have hok1 := c_T_refusalOfRow_d I F S.2.2.2.2.2.2.1 S.2.2.2.2.2.2.2 j hj (by rw [q1]; exact e1)
      cases hio : in3 (rz S j) (nI lo) (nI hi) with
      | false =>
        rw [if_pos rfl]
        refine am_ev 7 (some .int) false [63] ok_T_refusalOfThrows am_mP_77 (by rw [am_m_77]) (by rw [am_m_77]) (fun h => by cases h) (Nat.le_of_ble_eq_true rfl) (fun Go hG => ?_)
        refine hG 200 _ _ _ _ _ _ ?_
        refine bn_t hI0 ?_
        refine Exists.intro 1 (Exists.intro _ (Exists.intro _ ⟨by decide, hok1, ?_⟩))
        refine br_t rfl ?_
        refine Exists.intro j (Exists.intro (18 + 2 * j) ⟨by omega, rfl, rfR_at (by omega), ?_⟩)
        refine am_ob_of (cH_row (by omega)) ?_
        refine And.intro (fun h1 => ?_) (fun h1 => ?_)
        · refine Exists.intro 0 (Exists.intro _ (Exists.intro _ ⟨by decide, c_T_found I F S.2.2.2.2.2.2.1 S.2.2.2.2.2.2.2 5 (by decide), ?_⟩))
          exact ⟨rfl, rfl, rfl, rfl⟩
        · refine am_ob_of (cH_row (by omega)) ?_
          refine And.intro (fun h2 => ?_) (fun h2 => ?_)
          · have h9 : in3 (rz S j) (nI lo) (nI hi) = true := by
              unfold in3
              rw [← q1', decide_eq_true (Int32.not_lt.mp h1), decide_eq_true h2]
              rfl
            rw [hio] at h9
            cases h9
          · refine Exists.intro 0 (Exists.intro _ (Exists.intro _ ⟨by decide, c_T_found I F S.2.2.2.2.2.2.1 S.2.2.2.2.2.2.2 5 (by decide), ?_⟩))
            exact ⟨rfl, rfl, rfl, rfl⟩
      | true =>
        rw [if_neg (by decide)]
        have hio' := hio
        unfold in3 at hio'
        rw [Bool.and_eq_true, decide_eq_true_eq, decide_eq_true_eq] at hio'
        refine am_ev 7 (some .int) false [63] ok_T_refusalOfThrows am_mP_77 (by rw [am_m_77]) (by rw [am_m_77]) (fun h => by cases h) (Nat.le_of_ble_eq_true rfl) (fun Go hG => ?_)
        have L : ∀ (i k : Nat), k + i = nat (rz S j) → allH (rc S j) k = true → Go 63 [some (.ref 0), some (.int (nI j)), some (.int (nI lo)), some (.int (nI hi)), some (.int (nI 0)), some (.ref (18 + 2 * j)), some (.int (nI k))] [] (cH I F S.2.2.2.2.2.2.1 S.2.2.2.2.2.2.2) 0 0 := by
          intro i
          induction i with
          | zero =>
            intro k hk ha
            have hk' : k = nat (rz S j) := by omega
            rw [← hk', if_neg (by rw [ha]; decide)] at hG
            refine hG 200 _ _ _ _ _ _ ?_
            refine am_ob_of (cH_row (by omega)) ?_
            refine br_t (by rw [q1', e3]; exact nI_le (by omega) (by omega)) ?_
            exact ⟨rfl, rfl, rfl, rfl⟩
          | succ i ih =>
            intro k hk ha
            have hcell : F (19 + 2 * j) k = rc S j k := q3 k (by show k < nat (rz S j); omega)
            have hih := c_T_isHeight (cH I F S.2.2.2.2.2.2.1 S.2.2.2.2.2.2.2) (rc S j k)
            cases hok : okH (rc S j k) with
            | false =>
              rw [show in3 (rc S j k) (nI 1) (nI 7) = false from hok, ← hcell] at hih
              have hf : allH (rc S j) (nat (rz S j)) = false := by
                cases h5 : allH (rc S j) (nat (rz S j)) with
                | false => rfl
                | true => rw [allH_at h5 (by omega)] at hok; cases hok
              rw [if_pos hf] at hG
              refine hG 200 _ _ _ _ _ _ ?_
              refine am_ob_of (cH_row (by omega)) ?_
              refine br_f (by rw [q1', e3]; exact nI_ge (by omega) (by omega)) ?_
              refine am_ob_of (cH_row (by omega)) ?_
              refine am_ai_of (cH_rowc (by omega)) rfl ?_
              refine Exists.intro k ⟨by omega, rfl, ?_⟩
              refine Exists.intro 0 (Exists.intro _ (Exists.intro _ ⟨by decide, hih, ?_⟩))
              refine bn_f rfl ?_
              refine Exists.intro 0 (Exists.intro _ (Exists.intro _ ⟨by decide, c_T_found I F S.2.2.2.2.2.2.1 S.2.2.2.2.2.2.2 3 (by decide), ?_⟩))
              exact ⟨rfl, rfl, rfl, rfl⟩
            | true =>
              rw [show in3 (rc S j k) (nI 1) (nI 7) = true from hok, ← hcell] at hih
              have h9 := ih (k + 1) (by omega) (by show (allH (rc S j) k && okH (rc S j k)) = true; rw [ha, hok]; rfl)
              rw [← nI_s1 k] at h9
              refine hG 200 _ _ _ _ _ _ ?_
              refine am_ob_of (cH_row (by omega)) ?_
              refine br_f (by rw [q1', e3]; exact nI_ge (by omega) (by omega)) ?_
              refine am_ob_of (cH_row (by omega)) ?_
              refine am_ai_of (cH_rowc (by omega)) rfl ?_
              refine Exists.intro k ⟨by omega, rfl, ?_⟩
              refine Exists.intro 0 (Exists.intro _ (Exists.intro _ ⟨by decide, hih, ?_⟩))
              refine bn_t (by decide) ?_
              exact h9
        refine hG 200 _ _ _ _ _ _ ?_
        refine bn_t hI0 ?_
        refine Exists.intro 1 (Exists.intro _ (Exists.intro _ ⟨by decide, hok1, ?_⟩))
        refine br_t rfl ?_
        refine Exists.intro j (Exists.intro (18 + 2 * j) ⟨by omega, rfl, rfR_at (by omega), ?_⟩)
        refine am_ob_of (cH_row (by omega)) ?_
        refine br_f (by rw [q1']; exact Int32.not_lt.mpr hio'.1) ?_
        refine am_ob_of (cH_row (by omega)) ?_
        refine br_t (by rw [q1']; exact hio'.2) ?_
        exact L (nat (rz S j)) 0 (by omega) rfl

theorem y_throwsMade {I : Nat → Int32} {F : Nat → Nat → Int32} {n : Nat} {kd : Nat → Nat} (hb : CBs I F n kd) (u v : Int64) {hs : Nat → Nat} (r z : Nat) (hr6 : r ≤ 5) (hz : I (60 + r) = nI z) (hz40 : z ≤ 40) (hc : ∀ i, i < z → F (19 + 2 * r) i = nI (hs i)) (hh : ∀ i, i < z → 1 ≤ hs i ∧ hs i ≤ 7) {du : Nat → Nat} (ha0 : apart n du) (R : Nat × (Nat → Nat)) (hR0 : thS n kd hs z 0 du = R) : Am_Ev false 3 0 0 78 [.ref 14, .int (nI (pkN du n)), .ref (18 + 2 * r)] (cH I F u v) (some (.int (nI R.1))) (cH (upd I 23 (nI (pkN R.2 n))) F u v) := by
  have E1 : ∀ x, (cH (upd I 23 x) F u v)[18 + 2 * r]? = some (.inr (4, [.ref (19 + 2 * r), .int (nI z)])) := fun x => by rw [cH_row (by omega), pk_un (by omega), hz]
  have E2 : ∀ x, (cH (upd I 23 x) F u v)[19 + 2 * r]? = some (.inl (0, 40, .inl (F (19 + 2 * r)))) := fun x => cH_rowc (by omega)
  have hkd : kdok n kd := fun i q => (hb.2.2.2 i q).2
  refine am_ev 4 (some .int) false [7, 52] ok_O_throwsMade am_mP_78 (by rw [am_m_78]) (by rw [am_m_78]) (fun h => by cases h) (Nat.le_of_ble_eq_true rfl) (fun Go hG => ?_)
  have L : ∀ (j k : Nat) (d : Nat → Nat), k + j = z → apart n d → thS n kd hs j k d = R → Go 7 [some (.ref 14), some (.int (nI (pkN du n))), some (.ref (18 + 2 * r)), some (.int (nI k))] [] (cH (upd I 23 (nI (pkN d n))) F u v) 0 0 := by
    intro j
    induction j with
    | zero =>
      intro k d hk ha hR
      have hR' : (k, d) = R := hR
      rw [← hR'] at hG
      refine hG 200 _ _ _ _ _ _ ?_
      refine am_ob_of (E1 _) ?_
      refine br_t (nI_le (by omega) (by omega)) ?_
      refine am_ob_of (E1 _) ?_
      exact ⟨by rw [show z = k by omega], rfl, rfl, rfl⟩
    | succ j ih =>
      intro k d hk ha hR
      have hb1 : CBs (upd I 23 (nI (pkN d n))) F n kd := hb
      have hb2 : CBs (upd I 23 (nI (pkN (rstS n d) n))) F n kd := hb
      have hcr := y_rested hb1 u v ha
      have hcm := y_may hb2 u v (apart_rst ha) (hs k) (hh k (by omega))
      have hck := hc k (by omega)
      unfold thS at hR
      cases hm : mayS n kd (rstS n d) (nI (hs k)) with
      | false =>
        rw [hm, if_neg (by decide)] at hR
        rw [← hR] at hG
        rw [hm, ← hck] at hcm
        refine hG 200 _ _ _ _ _ _ ?_
        refine am_ob_of (E1 _) ?_
        refine br_f (nI_ge (by omega) (by omega)) ?_
        refine Exists.intro 2 (Exists.intro _ (Exists.intro _ ⟨by decide, hcr, ?_⟩))
        refine am_ob_of (E1 (nI (pkN (rstS n d) n))) ?_
        refine am_ai_of (E2 (nI (pkN (rstS n d) n))) rfl ?_
        refine Exists.intro k ⟨by omega, rfl, ?_⟩
        refine Exists.intro 2 (Exists.intro _ (Exists.intro _ ⟨by decide, hcm, ?_⟩))
        refine bn_f rfl ?_
        exact ⟨rfl, rfl, rfl, rfl⟩
      | true =>
        rw [hm, if_pos rfl] at hR
        have hct := y_thrown hb2 u v (apart_rst ha) (hs k) (hh k (by omega)) hm
        rw [hm, ← hck] at hcm
        rw [← hck] at hct
        have h9 := ih (k + 1) _ (by omega) (apart_tos (apart_rst ha) hkd (hh k (by omega)) hm) hR
        rw [← nI_s1 k] at h9
        refine hG 200 _ _ _ _ _ _ ?_
        refine am_ob_of (E1 _) ?_
        refine br_f (nI_ge (by omega) (by omega)) ?_
        refine Exists.intro 2 (Exists.intro _ (Exists.intro _ ⟨by decide, hcr, ?_⟩))
        refine am_ob_of (E1 (nI (pkN (rstS n d) n))) ?_
        refine am_ai_of (E2 (nI (pkN (rstS n d) n))) rfl ?_
        refine Exists.intro k ⟨by omega, rfl, ?_⟩
        refine Exists.intro 2 (Exists.intro _ (Exists.intro _ ⟨by decide, hcm, ?_⟩))
        refine bn_t (by decide) ?_
        show Go 52 [some (.ref 14), some (.int (nI (pkN du n))), some (.ref (18 + 2 * r)), some (.int (nI k))] [] (cH (upd I 23 (nI (pkN (rstS n d) n))) F u v) 0 0
        refine hG 200 _ _ _ _ _ _ ?_
        refine am_ob_of (E1 _) ?_
        refine am_ai_of (E2 _) rfl ?_
        refine Exists.intro k ⟨by omega, rfl, ?_⟩
        refine Exists.intro 2 (Exists.intro _ (Exists.intro _ ⟨by decide, hct, ?_⟩))
        exact h9
  refine hG 200 _ _ _ _ _ _ ?_
  exact L z 0 du (by omega) ha0 hR0

