/-! ===== the reference: fewest ===== -/
theorem pw7 {q : Nat} (hq : q ≤ 5) : 0 < 7 ^ q ∧ 7 ^ q ≤ 16807 := ⟨Nat.pow_pos (by decide), by have := Nat.pow_le_pow_right (n := 7) (by decide) hq; omega⟩
theorem pw74 {q : Nat} (hq : q ≤ 4) : 0 < 7 ^ q ∧ 7 ^ q ≤ 2401 := ⟨Nat.pow_pos (by decide), by have := Nat.pow_le_pow_right (n := 7) (by decide) hq; omega⟩

theorem c_M_power (hp : List Am_C) (q : Nat) (hq : q ≤ 5) : Am_Ev false 0 0 0 188 [.int (nI 7), .int (nI q)] (hp) (some (.int (nI (7 ^ q)))) (hp) := by
  refine am_ev 4 (some .int) false [4] ok_M_power am_mP_188 (by rw [am_m_188]) (by rw [am_m_188]) (fun h => by cases h) (Nat.le_of_ble_eq_true rfl) ?_
  intro Go hG
  have L : ∀ (j k : Nat), k + j = q → Go 4 [some (.int (nI 7)), some (.int (nI q)), some (.int (nI (7 ^ k))), some (.int (nI k))] [] hp 0 0 := by
    intro j
    induction j with
    | zero =>
      intro k hk
      refine hG 200 _ _ _ _ _ _ ?_
      refine br_t (nI_le (by omega) (by omega)) ?_
      exact ⟨by rw [show k = q by omega], rfl, rfl, rfl⟩
    | succ j ih =>
      intro k hk
      have h9 := ih (k + 1) (by omega)
      rw [← nI_s1 k, Nat.pow_succ, ← pk_mul] at h9
      refine hG 200 _ _ _ _ _ _ ?_
      refine br_f (nI_ge (by omega) (by omega)) ?_
      exact h9
  refine hG 200 _ _ _ _ _ _ ?_
  exact L q 0 (by omega)

theorem c_M_figure (hp : List Am_C) (c q k : Nat) (hq : q ≤ 5) (hk : k < q) (hc : c < 2 ^ 31) : Am_Ev false 1 0 0 190 [.int (nI c), .int (nI q), .int (nI k)] (hp) (some (.int (nI (fg q c k)))) (hp) := by
  refine am_ev 3 (some .int) false [] ok_M_figure am_mP_190 (by rw [am_m_190]) (by rw [am_m_190]) (fun h => by cases h) (Nat.le_of_ble_eq_true rfl) ?_
  intro Go hG
  have e1 : nI q - nI 1 - nI k = nI (q - 1 - k) := by rw [pk_sub (by omega), pk_sub (by omega)]
  have hpw := c_M_power hp (q - 1 - k) (by omega)
  rw [← e1] at hpw
  obtain ⟨b1, b2⟩ := pw7 (q := q - 1 - k) (by omega)
  have hdl : c / 7 ^ (q - 1 - k) ≤ c := Nat.div_le_self _ _
  refine hG 200 _ _ _ _ _ _ ?_
  refine Exists.intro 0 (Exists.intro _ (Exists.intro _ ⟨by decide, hpw, ?_⟩))
  refine And.intro (fun h => by have := (nI_z (by omega)).mp h; omega) ?_
  refine And.intro (by decide) ?_
  exact ⟨by rw [pk_div hc b1 (by omega), pk_rem (by omega) (by decide) (by decide), nI_s1]; rfl, rfl, rfl, rfl⟩

theorem l_M_can {I : Nat → Int32} {F : Nat → Nat → Int32} {n : Nat} {kd du : Nat → Nat} (hb : MBs I F n kd du) (u v : Int64) (c q : Nat) (hq : q ≤ 4) (hc : c < 7 ^ q) : ∀ (j k : Nat) (w : Nat → Int32) (d : Nat → Nat), k + j = q → TW n d (F 1) w → apart n d → ∀ x : Option Value, ∃ w', TW n (thS n kd (fg q c) j k d).2 (F 1) w' ∧ Rch cd_M_canThrow [6] 2 (some .boolean) 6 [some (.ref 0), some (.int (nI c)), some (.int (nI q)), some (.int (nI k)), x] [] (mH I (va_up F 1 w) u v) (some (.int (b2 (decide ((thS n kd (fg q c) j k d).1 = q))))) (mH I (va_up F 1 w') u v) := by
  have hq7 := pw74 hq
  intro j
  induction j with
  | zero =>
    intro k w d hk hw ha x
    refine ⟨w, hw, fun Go hG => ?_⟩
    have e : decide ((thS n kd (fg q c) 0 k d).1 = q) = true := decide_eq_true (by show k = q; omega)
    rw [e] at hG
    refine hG 200 _ _ _ _ _ _ ?_
    refine br_t (nI_le (by omega) (by omega)) ?_
    exact ⟨Or.inr rfl, rfl, rfl, rfl, rfl⟩
  | succ j ih =>
    intro k w d hk hw ha x
    obtain ⟨w1, hc1, hw1⟩ := x_rests hb u v hw ha
    have hfg := fg_ok q c k
    have hcf := c_M_figure (mH I (va_up F 1 w1) u v) c q k (by omega) (by omega) (by omega)
    have hcm := x_may hb u v hw1 (nI (fg q c k))
    unfold thS
    cases hm : mayS n kd (rstS n d) (nI (fg q c k)) with
    | false =>
      rw [if_neg (by decide)]
      rw [hm] at hcm
      refine ⟨w1, hw1, fun Go hG => ?_⟩
      have e : decide (k = q) = false := decide_eq_false (by omega)
      dsimp only at hG
      rw [e] at hG
      refine hG 200 _ _ _ _ _ _ ?_
      refine br_f (nI_ge (by omega) (by omega)) ?_
      refine Exists.intro 1 (Exists.intro _ (Exists.intro _ ⟨by decide, hc1, ?_⟩))
      refine Exists.intro 1 (Exists.intro _ (Exists.intro _ ⟨by decide, hcf, ?_⟩))
      refine Exists.intro 1 (Exists.intro _ (Exists.intro _ ⟨by decide, hcm, ?_⟩))
      refine bn_f rfl ?_
      exact ⟨Or.inl rfl, rfl, rfl, rfl, rfl⟩
    | true =>
      rw [if_pos rfl]
      obtain ⟨w2, hc2, hw2⟩ := x_toss hb u v hw1 (apart_rst ha) (fg q c k) hfg hm
      rw [hm] at hcm
      obtain ⟨w3, hw3, hR⟩ := ih (k + 1) w2 _ (by omega) hw2 (apart_tos (apart_rst ha) (fun i q => (hb.2.2.2.1 i q).2) hfg hm) (some (.int (nI (fg q c k))))
      refine ⟨w3, hw3, fun Go hG => ?_⟩
      have h9 := hR Go hG
      rw [← nI_s1 k] at h9
      refine hG 200 _ _ _ _ _ _ ?_
      refine br_f (nI_ge (by omega) (by omega)) ?_
      refine Exists.intro 1 (Exists.intro _ (Exists.intro _ ⟨by decide, hc1, ?_⟩))
      refine Exists.intro 1 (Exists.intro _ (Exists.intro _ ⟨by decide, hcf, ?_⟩))
      refine Exists.intro 1 (Exists.intro _ (Exists.intro _ ⟨by decide, hcm, ?_⟩))
      refine bn_t (by decide) ?_
      refine Exists.intro 1 (Exists.intro _ (Exists.intro _ ⟨by decide, hc2, ?_⟩))
      exact h9
theorem x_can {I : Nat → Int32} {F : Nat → Nat → Int32} {n : Nat} {kd du : Nat → Nat} (hb : MBs I F n kd du) (u v : Int64) {w : Nat → Int32} (hl : ∀ j, j < 2136 → w j = F 1 j) (c q : Nat) (hq : q ≤ 4) (hc : c < 7 ^ q) : ∃ w', TW n (ctS n kd q c du).2 (F 1) w' ∧ Am_Ev false 2 0 0 189 [.ref 0, .int (nI c), .int (nI q)] (mH I (va_up F 1 w) u v) (some (.int (b2 (decide ((ctS n kd q c du).1 = q))))) (mH I (va_up F 1 w') u v) := by
  obtain ⟨w1, hb1, hw1⟩ := x_begin hb u v hl
  obtain ⟨w2, hw2, hR⟩ := l_M_can hb u v c q hq hc q 0 w1 du (by omega) hw1 hb.2.2.2.2.2 none
  refine ⟨w2, hw2, am_ev 5 (some .boolean) false [6] ok_M_canThrow am_mP_189 (by rw [am_m_189]) (by rw [am_m_189]) (fun h => by cases h) (Nat.le_of_ble_eq_true rfl) (fun Go hG => ?_)⟩
  refine hG 200 _ _ _ _ _ _ ?_
  refine Exists.intro 1 (Exists.intro _ (Exists.intro _ ⟨by decide, hb1, ?_⟩))
  exact hR Go hG

theorem l_M_comes {I : Nat → Int32} {F : Nat → Nat → Int32} {n : Nat} {kd du : Nat → Nat} (hb : MBs I F n kd du) (u v : Int64) {d : Nat → Nat} (ha : apart n d) (sky : Int32) : ∀ (i b : Nat) (w : Nat → Int32), b + i = mnS d n → (∀ b', b' < b → ¬ skyS n (latS b' d) = sky) → TW n (latS b d) (F 1) w → ∃ w', (∀ j, j < 2136 → w' j = F 1 j) ∧ Rch cd_M_comesTo [0] 1 (some .boolean) 0 [some (.ref 0), some (.int sky)] [] (mH I (va_up F 1 w) u v) (some (.int (b2 (cmK n d sky)))) (mH I (va_up F 1 w') u v) := by
  have yes : ∀ (b : Nat) (w : Nat → Int32), b ≤ mnS d n → skyS n (latS b d) = sky → TW n (latS b d) (F 1) w → Rch cd_M_comesTo [0] 1 (some .boolean) 0 [some (.ref 0), some (.int sky)] [] (mH I (va_up F 1 w) u v) (some (.int (b2 (cmK n d sky)))) (mH I (va_up F 1 w) u v) := by
    intro b w hbm h hw Go hG
    have e : cmK n d sky = true := anyN_iff.mpr ⟨b, by omega, decide_eq_true h⟩
    rw [e] at hG
    refine hG 200 _ _ _ _ _ _ ?_
    refine Exists.intro 0 (Exists.intro _ (Exists.intro _ ⟨by decide, x_sky hb u v hw, ?_⟩))
    refine br_t h ?_
    refine Exists.intro 0 (Exists.intro _ (Exists.intro _ ⟨by decide, x_sky hb u v hw, ?_⟩))
    refine bn_f h ?_
    exact ⟨Or.inr rfl, rfl, rfl, rfl, rfl⟩
  intro i
  induction i with
  | zero =>
    intro b w hbi hno hw
    by_cases h : skyS n (latS b d) = sky
    · exact ⟨w, hw.2, yes b w (by omega) h hw⟩
    · refine ⟨w, hw.2, fun Go hG => ?_⟩
      have e : cmK n d sky = false := anyN_no (fun k hk => decide_eq_false (by
        by_cases e : k = b
        · rw [e]; exact h
        · exact hno k (by omega)))
      have hdue : dueS n (latS b d) < n := by rw [show b = mnS d n by omega]; exact rstS_due ha.1 hb.2.2.1
      have hn6 := hb.2.1
      have hdc := x_due hb u v hw
      rw [dueR_yes hdue] at hdc
      rw [e] at hG
      refine hG 200 _ _ _ _ _ _ ?_
      refine Exists.intro 0 (Exists.intro _ (Exists.intro _ ⟨by decide, x_sky hb u v hw, ?_⟩))
      refine br_f h ?_
      refine Exists.intro 0 (Exists.intro _ (Exists.intro _ ⟨by decide, hdc, ?_⟩))
      refine bn_t (nI_m9 (by omega)) ?_
      refine Exists.intro 0 (Exists.intro _ (Exists.intro _ ⟨by decide, x_sky hb u v hw, ?_⟩))
      refine bn_t h ?_
      exact ⟨Or.inl rfl, rfl, rfl, rfl, rfl⟩
  | succ i ih =>
    intro b w hbi hno hw
    by_cases h : skyS n (latS b d) = sky
    · exact ⟨w, hw.2, yes b w (by omega) h hw⟩
    · have hdue : ¬ dueS n (latS b d) < n := mn_no ha.1 (by omega)
      have hdc := x_due hb u v hw
      rw [dueR_no hdue] at hdc
      obtain ⟨w1, hc1, hw1⟩ := x_later hb u v hw (dueS_pos hdue)
      have hw1' : TW n (latS (b + 1) d) (F 1) w1 := ⟨fun k hk => by rw [hw1.1 k hk]; rfl, hw1.2⟩
      obtain ⟨w2, hl2, hR⟩ := ih (b + 1) w1 (by omega) (fun b' hb' => by
        by_cases e : b' = b
        · rw [e]; exact h
        · exact hno b' (by omega)) hw1'
      refine ⟨w2, hl2, fun Go hG => ?_⟩
      have h9 := hR Go hG
      refine hG 200 _ _ _ _ _ _ ?_
      refine Exists.intro 0 (Exists.intro _ (Exists.intro _ ⟨by decide, x_sky hb u v hw, ?_⟩))
      refine br_f h ?_
      refine Exists.intro 0 (Exists.intro _ (Exists.intro _ ⟨by decide, hdc, ?_⟩))
      refine bn_f rfl ?_
      refine Exists.intro 0 (Exists.intro _ (Exists.intro _ ⟨by decide, hc1, ?_⟩))
      exact h9
theorem x_comes {I : Nat → Int32} {F : Nat → Nat → Int32} {n : Nat} {kd du : Nat → Nat} (hb : MBs I F n kd du) (u v : Int64) {w : Nat → Int32} {d : Nat → Nat} (hw : TW n d (F 1) w) (ha : apart n d) (sky : Int32) : ∃ w', (∀ j, j < 2136 → w' j = F 1 j) ∧ Am_Ev false 1 0 0 191 [.ref 0, .int sky] (mH I (va_up F 1 w) u v) (some (.int (b2 (cmK n d sky)))) (mH I (va_up F 1 w') u v) := by
  obtain ⟨w1, hl1, hR⟩ := l_M_comes hb u v ha sky (mnS d n) 0 w (by omega) (fun b' hb' => absurd hb' (Nat.not_lt_zero _)) ⟨fun k hk => by rw [hw.1 k hk]; rfl, hw.2⟩
  refine ⟨w1, hl1, am_ev 2 (some .boolean) false [0] ok_M_comesTo am_mP_191 (by rw [am_m_191]) (by rw [am_m_191]) (fun h => by cases h) (Nat.le_of_ble_eq_true rfl) (fun Go hG => ?_)⟩
  exact hR Go hG
def wrL (f : Nat → Int32) (r k : Nat) (l : List Nat) : Nat → Int32 := fun a => if 40 * r ≤ a ∧ a < 40 * r + k then nI (l.getD (a - 40 * r) 0) else f a
theorem wrL_0 (f : Nat → Int32) (r : Nat) (l : List Nat) : wrL f r 0 l = f := by
  funext a
  unfold wrL
  rw [if_neg (by omega)]
theorem wrL_s (f : Nat → Int32) (r k : Nat) (l : List Nat) : upd (wrL f r k l) (40 * r + k) (nI (l.getD k 0)) = wrL f r (k + 1) l := by
  funext a
  by_cases e : a = 40 * r + k
  · rw [e, pk_us]
    unfold wrL
    rw [if_pos (by omega), show 40 * r + k - 40 * r = k by omega]
  · rw [pk_un e]
    unfold wrL
    by_cases h : 40 * r ≤ a ∧ a < 40 * r + k
    · rw [if_pos h, if_pos (by omega)]
    · rw [if_neg h, if_neg (by omega)]
theorem wrL_at {f : Nat → Int32} {r k i : Nat} {l : List Nat} (hi : i < k) : wrL f r k l (40 * r + i) = nI (l.getD i 0) := by
  unfold wrL
  rw [if_pos (by omega), show 40 * r + i - 40 * r = i by omega]
theorem wrL_ne {f : Nat → Int32} {r r' k i : Nat} {l : List Nat} (h : r' ≠ r) (hi : i < 40) (hk : k ≤ 40) : wrL f r k l (40 * r' + i) = f (40 * r' + i) := by
  unfold wrL
  rw [if_neg (by omega)]

theorem l_M_write (I : Nat → Int32) (F : Nat → Nat → Int32) (u v : Int64) (sky : Int32) (r q c : Nat) (hr6 : r ≤ 5) (hq : q ≤ 4) (hc : c < 7 ^ q) : ∀ (j k : Nat), k + j = q → Rch cd_M_fewest [28, 36, 75] 4 (some .int) 75 [some (.ref 0), some (.int sky), some (.int (nI r)), some (.int (nI q)), some (.int (nI c)), some (.int (nI k))] [] (mH I (va_up F 4 (wrL (F 4) r k (digs q c))) u v) (some (.int (nI q))) (mH I (va_up F 4 (wrL (F 4) r q (digs q c))) u v) := by
  have hq7 := pw74 hq
  intro j
  induction j with
  | zero =>
    intro k hk Go hG
    refine hG 200 _ _ _ _ _ _ ?_
    refine br_t (nI_le (by omega) (by omega)) ?_
    exact ⟨rfl, by rw [show k = q by omega], rfl, rfl⟩
  | succ j ih =>
    intro k hk Go hG
    have h9 := ih (k + 1) (by omega) Go hG
    rw [← nI_s1 k, ← wrL_s, digs_at q c k (by omega)] at h9
    refine hG 200 _ _ _ _ _ _ ?_
    refine br_f (nI_ge (by omega) (by omega)) ?_
    refine Exists.intro 1 (Exists.intro _ (Exists.intro _ ⟨by decide, c_M_figure _ c q k (by omega) (by omega) (by omega), ?_⟩))
    refine Exists.intro (40 * r + k) ⟨by omega, nI_idx _ _ _, ?_⟩
    exact h9
theorem l_M_code {I : Nat → Int32} {F : Nat → Nat → Int32} {n : Nat} {kd du : Nat → Nat} (hb : MBs I F n kd du) (u v : Int64) (sky : Int32) (r q : Nat) (hr6 : r ≤ 5) (hq : q ≤ 4) : ∀ (j c : Nat) (w : Nat → Int32) (x : Option Value), c + j = 7 ^ q → (∀ i, i < 2136 → w i = F 1 i) → ∃ w', (∀ i, i < 2136 → w' i = F 1 i) ∧ (∀ c', fsO (fun c => opB (gdB n kd sky q du c) c) j c = some c' → Rch cd_M_fewest [28, 36, 75] 4 (some .int) 36 [some (.ref 0), some (.int sky), some (.int (nI r)), some (.int (nI q)), some (.int (nI c)), x] [] (mH I (va_up F 1 w) u v) (some (.int (nI q))) (mH I (va_up (va_up (va_up F 1 w') 5 (upd (F 5) r (nI q))) 4 (wrL (F 4) r q (digs q c'))) u v)) ∧ (fsO (fun c => opB (gdB n kd sky q du c) c) j c = none → ∀ r1 hp', Rch cd_M_fewest [28, 36, 75] 4 (some .int) 28 [some (.ref 0), some (.int sky), some (.int (nI r)), some (.int (nI (q + 1))), some (.int (nI (7 ^ q))), x] [] (mH I (va_up F 1 w') u v) r1 hp' → Rch cd_M_fewest [28, 36, 75] 4 (some .int) 36 [some (.ref 0), some (.int sky), some (.int (nI r)), some (.int (nI q)), some (.int (nI c)), x] [] (mH I (va_up F 1 w) u v) r1 hp') := by
  have hq7 := pw74 hq
  have hkd : kdok n kd := fun i q => (hb.2.2.2.1 i q).2
  intro j
  induction j with
  | zero =>
    intro c w x hcj hl
    refine ⟨w, hl, fun c' h => (by cases h), fun _ r1 hp' hR Go hG => ?_⟩
    have h9 := hR Go hG
    rw [← nI_s1 q] at h9
    refine hG 200 _ _ _ _ _ _ ?_
    refine Exists.intro 0 (Exists.intro _ (Exists.intro _ ⟨by decide, c_M_power _ q (by omega), ?_⟩))
    refine br_t (nI_le (by omega) (by omega)) ?_
    rw [show c = 7 ^ q by omega]
    exact h9
  | succ j ih =>
    intro c w x hcj hl
    have hpw := c_M_power (mH I (va_up F 1 w) u v) q (by omega)
    obtain ⟨w1, hw1, hcan⟩ := x_can hb u v hl c q hq (by omega)
    have hok := ctS_ok hkd (q := q) (c := c) hb.2.2.2.2.2
    have goon : ∀ (w2 : Nat → Int32) (hl2 : ∀ i, i < 2136 → w2 i = F 1 i) (hf : gdB n kd sky q du c = false) (step : ∀ r1 hp', Rch cd_M_fewest [28, 36, 75] 4 (some .int) 36 [some (.ref 0), some (.int sky), some (.int (nI r)), some (.int (nI q)), some (.int (nI (c + 1))), x] [] (mH I (va_up F 1 w2) u v) r1 hp' → Rch cd_M_fewest [28, 36, 75] 4 (some .int) 36 [some (.ref 0), some (.int sky), some (.int (nI r)), some (.int (nI q)), some (.int (nI c)), x] [] (mH I (va_up F 1 w) u v) r1 hp'), ∃ w', (∀ i, i < 2136 → w' i = F 1 i) ∧ (∀ c', fsO (fun c => opB (gdB n kd sky q du c) c) (j + 1) c = some c' → Rch cd_M_fewest [28, 36, 75] 4 (some .int) 36 [some (.ref 0), some (.int sky), some (.int (nI r)), some (.int (nI q)), some (.int (nI c)), x] [] (mH I (va_up F 1 w) u v) (some (.int (nI q))) (mH I (va_up (va_up (va_up F 1 w') 5 (upd (F 5) r (nI q))) 4 (wrL (F 4) r q (digs q c'))) u v)) ∧ (fsO (fun c => opB (gdB n kd sky q du c) c) (j + 1) c = none → ∀ r1 hp', Rch cd_M_fewest [28, 36, 75] 4 (some .int) 28 [some (.ref 0), some (.int sky), some (.int (nI r)), some (.int (nI (q + 1))), some (.int (nI (7 ^ q))), x] [] (mH I (va_up F 1 w') u v) r1 hp' → Rch cd_M_fewest [28, 36, 75] 4 (some .int) 36 [some (.ref 0), some (.int sky), some (.int (nI r)), some (.int (nI q)), some (.int (nI c)), x] [] (mH I (va_up F 1 w) u v) r1 hp') := by
      intro w2 hl2 hf step
      obtain ⟨w3, hl3, hA, hB⟩ := ih (c + 1) w2 x (by omega) hl2
      have e : fsO (fun c => opB (gdB n kd sky q du c) c) (j + 1) c = fsO (fun c => opB (gdB n kd sky q du c) c) j (c + 1) := fsO_n (by unfold opB; rw [hf]; rfl)
      exact ⟨w3, hl3, fun c' h => step _ _ (hA c' (by rw [← e]; exact h)), fun h r1 hp' hR => step _ _ (hB (by rw [← e]; exact h) r1 hp' hR)⟩
    by_cases h1 : (ctS n kd q c du).1 = q
    · rw [decide_eq_true h1] at hcan
      obtain ⟨w2, hl2, hcs⟩ := x_comes hb u v hw1 hok.1 sky
      cases h2 : cmK n (ctS n kd q c du).2 sky with
      | false =>
        rw [h2] at hcs
        refine goon w2 hl2 (by unfold gdB; rw [h2, Bool.and_false]) (fun r1 hp' hR Go hG => ?_)
        have h9 := hR Go hG
        rw [← nI_s1 c] at h9
        refine hG 200 _ _ _ _ _ _ ?_
        refine Exists.intro 0 (Exists.intro _ (Exists.intro _ ⟨by decide, hpw, ?_⟩))
        refine br_f (nI_ge (by omega) (by omega)) ?_
        refine Exists.intro 2 (Exists.intro _ (Exists.intro _ ⟨by decide, hcan, ?_⟩))
        refine br_f (by decide) ?_
        refine Exists.intro 1 (Exists.intro _ (Exists.intro _ ⟨by decide, hcs, ?_⟩))
        refine br_t rfl ?_
        exact h9
      | true =>
        rw [h2] at hcs
        have hg : gdB n kd sky q du c = true := by unfold gdB; rw [h2, decide_eq_true h1]; rfl
        have e : fsO (fun c => opB (gdB n kd sky q du c) c) (j + 1) c = some c := fsO_s (by unfold opB; rw [hg]; rfl)
        refine ⟨w2, hl2, fun c' h => ?_, fun h => (by rw [e] at h; cases h)⟩
        rw [e] at h
        cases h
        intro Go hG
        have h9 := l_M_write I (va_up (va_up F 1 w2) 5 (upd (F 5) r (nI q))) u v sky r q c hr6 hq (by omega) q 0 (by omega) Go hG
        rw [wrL_0] at h9
        refine hG 200 _ _ _ _ _ _ ?_
        refine Exists.intro 0 (Exists.intro _ (Exists.intro _ ⟨by decide, hpw, ?_⟩))
        refine br_f (nI_ge (by omega) (by omega)) ?_
        refine Exists.intro 2 (Exists.intro _ (Exists.intro _ ⟨by decide, hcan, ?_⟩))
        refine br_f (by decide) ?_
        refine Exists.intro 1 (Exists.intro _ (Exists.intro _ ⟨by decide, hcs, ?_⟩))
        refine br_f (by decide) ?_
        refine Exists.intro r ⟨by omega, rfl, ?_⟩
        exact h9
    · rw [decide_eq_false h1] at hcan
      refine goon w1 hw1.2 (by unfold gdB; rw [decide_eq_false h1]; rfl) (fun r1 hp' hR Go hG => ?_)
      have h9 := hR Go hG
      rw [← nI_s1 c] at h9
      refine hG 200 _ _ _ _ _ _ ?_
      refine Exists.intro 0 (Exists.intro _ (Exists.intro _ ⟨by decide, hpw, ?_⟩))
      refine br_f (nI_ge (by omega) (by omega)) ?_
      refine Exists.intro 2 (Exists.intro _ (Exists.intro _ ⟨by decide, hcan, ?_⟩))
      refine br_t rfl ?_
      exact h9
theorem l_M_few {I : Nat → Int32} {F : Nat → Nat → Int32} {n : Nat} {kd du : Nat → Nat} (hb : MBs I F n kd du) (u v : Int64) (sky : Int32) (r : Nat) (hr6 : r ≤ 5) : ∀ (j q : Nat) (w : Nat → Int32) (x4 x5 : Option Value), q + j = 5 → (∀ i, i < 2136 → w i = F 1 i) → ∃ w', (∀ i, i < 2136 → w' i = F 1 i) ∧ (∀ q' l, fsO (fun q => (ldS n kd sky q du).map (fun l => (q, l))) j q = some (q', l) → Rch cd_M_fewest [28, 36, 75] 4 (some .int) 28 [some (.ref 0), some (.int sky), some (.int (nI r)), some (.int (nI q)), x4, x5] [] (mH I (va_up F 1 w) u v) (some (.int (nI q'))) (mH I (va_up (va_up (va_up F 1 w') 5 (upd (F 5) r (nI q'))) 4 (wrL (F 4) r q' l)) u v)) ∧ (fsO (fun q => (ldS n kd sky q du).map (fun l => (q, l))) j q = none → Rch cd_M_fewest [28, 36, 75] 4 (some .int) 28 [some (.ref 0), some (.int sky), some (.int (nI r)), some (.int (nI q)), x4, x5] [] (mH I (va_up F 1 w) u v) (some (.int (-nI 9))) (mH I (va_up F 1 w') u v)) := by
  intro j
  induction j with
  | zero =>
    intro q w x4 x5 hq hl
    refine ⟨w, hl, fun q' l h => (by cases h), fun _ Go hG => ?_⟩
    refine hG 200 _ _ _ _ _ _ ?_
    refine br_t (nI_lt (by omega) (by omega)) ?_
    exact ⟨rfl, rfl, rfl, rfl⟩
  | succ j ih =>
    intro q w x4 x5 hq hl
    obtain ⟨w1, hl1, hA, hB⟩ := l_M_code hb u v sky r q hr6 (by omega) (7 ^ q) 0 w x5 (by omega) hl
    have hcl := code_ld2 (n := n) (kd := kd) (sky := sky) q du
    have enter : ∀ r1 hp', Rch cd_M_fewest [28, 36, 75] 4 (some .int) 36 [some (.ref 0), some (.int sky), some (.int (nI r)), some (.int (nI q)), some (.int (nI 0)), x5] [] (mH I (va_up F 1 w) u v) r1 hp' → Rch cd_M_fewest [28, 36, 75] 4 (some .int) 28 [some (.ref 0), some (.int sky), some (.int (nI r)), some (.int (nI q)), x4, x5] [] (mH I (va_up F 1 w) u v) r1 hp' := by
      intro r1 hp' hR Go hG
      have h9 := hR Go hG
      refine hG 200 _ _ _ _ _ _ ?_
      refine br_f (nI_nlt (by omega) (by omega)) ?_
      exact h9
    cases hf : fsO (fun c => opB (gdB n kd sky q du c) c) (7 ^ q) 0 with
    | some c =>
      rw [hf] at hcl
      have e : fsO (fun q => (ldS n kd sky q du).map (fun l => (q, l))) (j + 1) q = some (q, digs q c) := fsO_s (by rw [← hcl]; rfl)
      refine ⟨w1, hl1, fun q' l h => ?_, fun h => (by rw [e] at h; cases h)⟩
      rw [e] at h
      cases h
      exact enter _ _ (hA c hf)
    | none =>
      rw [hf] at hcl
      have e : fsO (fun q => (ldS n kd sky q du).map (fun l => (q, l))) (j + 1) q = fsO (fun q => (ldS n kd sky q du).map (fun l => (q, l))) j (q + 1) := fsO_n (by rw [← hcl]; rfl)
      obtain ⟨w2, hl2, hC, hD⟩ := ih (q + 1) w1 (some (.int (nI (7 ^ q)))) x5 (by omega) hl1
      exact ⟨w2, hl2, fun q' l h => enter _ _ (hB hf _ _ (hC q' l (by rw [← e]; exact h))), fun h => enter _ _ (hB hf _ _ (hD (by rw [← e]; exact h)))⟩
theorem fwS_ok {n : Nat} {kd d : Nat → Nat} {sky : Int32} {q : Nat} {l : List Nat} (h : fwS n kd sky d = some (q, l)) : q ≤ 4 ∧ l.length = q := by
  have G : ∀ (c a : Nat), fsO (fun q => (ldS n kd sky q d).map (fun l => (q, l))) c a = some (q, l) → q < a + c ∧ l.length = q := by
    intro c
    induction c with
    | zero => intro a h; cases h
    | succ c ih =>
      intro a h
      cases e : ldS n kd sky a d with
      | none =>
        rw [fsO_n (by show (ldS n kd sky a d).map _ = none; rw [e]; rfl)] at h
        have := ih (a + 1) h
        exact ⟨by omega, this.2⟩
      | some l' =>
        rw [fsO_s (x := (a, l')) (by show (ldS n kd sky a d).map _ = _; rw [e]; rfl)] at h
        cases h
        exact ⟨by omega, ldS_len e⟩
  have := G 5 0 h
  exact ⟨by omega, this.2⟩
theorem RMx_pth {I : Nat → Int32} {F : Nat → Nat → Int32} {S : Sta} {r q : Nat} {l : List Nat} (hx : RMx I F S) (hr : r ≤ 5) (hq : q ≤ 4) : RMx I (va_up (va_up F 5 (upd (F 5) r (nI q))) 4 (wrL (F 4) r q l)) (sR S (upd S.2.1.1 r (nI q), pth S.2.1.2 r q l)) := by
  obtain ⟨hs, hr2, ht, hl⟩ := hx
  refine ⟨hs, fun a ha => ?_, ht, hl⟩
  obtain ⟨q1, q2, q3⟩ := hr2 a ha
  show upd (F 5) r (nI q) a = upd S.2.1.1 r (nI q) a ∧ szOk 40 (upd S.2.1.1 r (nI q) a) ∧ ∀ i, i < nat (upd S.2.1.1 r (nI q) a) → wrL (F 4) r q l (40 * a + i) = pth S.2.1.2 r q l a i
  by_cases e : a = r
  · rw [e, pk_us, pk_us]
    refine ⟨rfl, Or.inr ⟨q, by omega, rfl⟩, fun i hi => ?_⟩
    rw [nat_nI (by omega)] at hi
    rw [wrL_at hi]
    unfold pth
    rw [if_pos ⟨rfl, hi⟩]
  · rw [pk_un e, pk_un e]
    refine ⟨q1, q2, fun i hi => ?_⟩
    have h40 := (szOk_nat (by decide) q2).1
    rw [wrL_ne e (by omega) (by omega), q3 i hi]
    unfold pth
    rw [if_neg (by omega)]

theorem pm_M_fewest (S : Sta) (hp : List Am_C) (hRM : RM S hp) (sky r : Int32) : ∃ hp', Am_Ev false 4 0 0 186 [.ref 0, .int sky, .int r] hp (some (.int (spFewest S sky r).1)) hp' ∧ RM (spFewest S sky r).2 hp' := by
  obtain ⟨I, F, rfl, hx⟩ := hRM
  obtain ⟨hs, hr, ht, hl⟩ := id hx
  obtain ⟨g1, g2, g3, g4, g5, g6⟩ := hs
  have hI : I 2 = nI (eN S) := g1
  have hn : eN S ≤ 6 := g2
  unfold spFewest
  by_cases hn0 : eN S = 0
  · rw [if_pos hn0]
    refine ⟨_, am_ev 6 (some .int) false [28, 36, 75] ok_M_fewest am_mP_186 (by rw [am_m_186]) (by rw [am_m_186]) (fun h => by cases h) (Nat.le_of_ble_eq_true rfl) (fun Go hG => ?_), RM_of hx⟩
    refine hG 200 _ _ _ _ _ _ ?_
    refine bn_f (by rw [hI, hn0]; rfl) ?_
    exact ⟨rfl, rfl, rfl, rfl⟩
  · rw [if_neg hn0]
    have hI0 : ¬ I 2 = 0 := by rw [hI]; exact fun q => hn0 ((nI_z (by omega)).mp q)
    have hb := MBs_of hx hn0
    have hsy := c_M_isSky (mH I F S.2.2.2.2.2.2.1 S.2.2.2.2.2.2.2) sky
    have hrw := c_M_isRow (mH I F S.2.2.2.2.2.2.1 S.2.2.2.2.2.2.2) r
    cases ho : okS sky with
    | false =>
      rw [if_pos rfl]
      rw [show in3 sky (nI 0) (nI 65535) = false from ho] at hsy
      refine ⟨_, am_ev 6 (some .int) false [28, 36, 75] ok_M_fewest am_mP_186 (by rw [am_m_186]) (by rw [am_m_186]) (fun h => by cases h) (Nat.le_of_ble_eq_true rfl) (fun Go hG => ?_), RM_of hx⟩
      refine hG 200 _ _ _ _ _ _ ?_
      refine bn_t hI0 ?_
      refine Exists.intro 1 (Exists.intro _ (Exists.intro _ ⟨by decide, hsy, ?_⟩))
      refine br_t rfl ?_
      exact ⟨rfl, rfl, rfl, rfl⟩
    | true =>
      rw [if_neg (by decide)]
      rw [show in3 sky (nI 0) (nI 65535) = true from ho] at hsy
      cases ho2 : okR r with
      | false =>
        rw [if_pos rfl]
        rw [show in3 r (nI 0) (nI 5) = false from ho2] at hrw
        refine ⟨_, am_ev 6 (some .int) false [28, 36, 75] ok_M_fewest am_mP_186 (by rw [am_m_186]) (by rw [am_m_186]) (fun h => by cases h) (Nat.le_of_ble_eq_true rfl) (fun Go hG => ?_), RM_of hx⟩
        refine hG 200 _ _ _ _ _ _ ?_
        refine bn_t hI0 ?_
        refine Exists.intro 1 (Exists.intro _ (Exists.intro _ ⟨by decide, hsy, ?_⟩))
        refine br_f (by decide) ?_
        refine Exists.intro 1 (Exists.intro _ (Exists.intro _ ⟨by decide, hrw, ?_⟩))
        refine bn_f rfl ?_
        exact ⟨rfl, rfl, rfl, rfl⟩
      | true =>
        rw [if_neg (by decide)]
        rw [show in3 r (nI 0) (nI 5) = true from ho2] at hrw
        obtain ⟨j, -, hj, rfl⟩ := in3_nat (by decide) (by decide) ho2
        rw [nat_nI (by omega)]
        obtain ⟨w1, hl1, hA, hB⟩ := l_M_few hb S.2.2.2.2.2.2.1 S.2.2.2.2.2.2.2 sky j hj 5 0 (F 1) none none (by omega) (fun _ _ => rfl)
        rw [va_up_same] at hA hB
        cases hf : fwS (eN S) (eK S) sky (duE (eE S)) with
        | none =>
          have h8 := hB hf
          refine ⟨_, am_ev 6 (some .int) false [28, 36, 75] ok_M_fewest am_mP_186 (by rw [am_m_186]) (by rw [am_m_186]) (fun h => by cases h) (Nat.le_of_ble_eq_true rfl) (fun Go hG => ?_), RM_of (RMx_try hx hl1)⟩
          refine hG 200 _ _ _ _ _ _ ?_
          refine bn_t hI0 ?_
          refine Exists.intro 1 (Exists.intro _ (Exists.intro _ ⟨by decide, hsy, ?_⟩))
          refine br_f (by decide) ?_
          refine Exists.intro 1 (Exists.intro _ (Exists.intro _ ⟨by decide, hrw, ?_⟩))
          refine bn_t (by decide) ?_
          exact h8 Go hG
        | some ql =>
          obtain ⟨q, l⟩ := ql
          have h8 := hA q l hf
          have hq4 := (fwS_ok hf).1
          refine ⟨_, am_ev 6 (some .int) false [28, 36, 75] ok_M_fewest am_mP_186 (by rw [am_m_186]) (by rw [am_m_186]) (fun h => by cases h) (Nat.le_of_ble_eq_true rfl) (fun Go hG => ?_), (⟨I, _, rfl, RMx_pth (RMx_try hx hl1) hj hq4⟩ : RM (sR S _) _)⟩
          refine hG 200 _ _ _ _ _ _ ?_
          refine bn_t hI0 ?_
          refine Exists.intro 1 (Exists.intro _ (Exists.intro _ ⟨by decide, hsy, ?_⟩))
          refine br_f (by decide) ?_
          refine Exists.intro 1 (Exists.intro _ (Exists.intro _ ⟨by decide, hrw, ?_⟩))
          refine bn_t (by decide) ?_
          exact h8 Go hG

