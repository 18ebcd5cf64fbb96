/-! ===== the class holds it so; its rows and texts ===== -/
def evC (d b m : Int32) (tt da th bk : Nat → Int32) (n : Nat) (E : Evn) : Prop := E.1 ≤ 40 ∧ m = nI E.1 ∧ d = nI (pkN (E.2.1 E.1) n) ∧ b = nI (E.2.2.2 E.1) ∧ (∀ i, i < 6 → tt i = nI (E.2.2.1 E.1 i)) ∧ (∀ q, q ≤ E.1 → ∀ i, n ≤ i → i < 6 → E.2.2.1 q i = 0) ∧ ∀ q, q < E.1 → da q = nI (pkN (E.2.1 q) n) ∧ (∃ bb, bk q = nI bb ∧ E.2.2.2 (q + 1) = E.2.2.2 q + bb) ∧ ((th q = -nI 9 ∧ ∀ i, i < 6 → E.2.2.1 (q + 1) i = E.2.2.1 q i) ∨ ∃ t, t < n ∧ th q = nI t ∧ ∀ i, i < 6 → E.2.2.1 (q + 1) i = E.2.2.1 q i + (if i = t then 1 else 0))
def skyC (I : Nat → Int32) (F : Nat → Nat → Int32) (k : Sky) : Prop := I 22 = nI k.1 ∧ k.1 ≤ 6 ∧ (∀ i, i < k.1 → F 7 i = nI (k.2.1 i) ∧ k.2.1 i < 6) ∧ evC (I 30) (I 31) (I 32) (F 9) (F 10) (F 11) (F 12) k.1 k.2.2.1 ∧ gdE k.1 k.2.2.1 ∧ ∀ q, q < 3 → match k.2.2.2 q with
  | none => I (42 + 3 * q) = -nI 1
  | some E => evC (I (40 + 3 * q)) (I (41 + 3 * q)) (I (42 + 3 * q)) (F (39 + 5 * q)) (F (40 + 5 * q)) (F (41 + 5 * q)) (F (42 + 5 * q)) k.1 E ∧ gdE k.1 E
def rowC (I : Nat → Int32) (F : Nat → Nat → Int32) (R : Txt) : Prop := ∀ r, r < 6 → I (60 + r) = R.1 r ∧ szOk 40 (R.1 r) ∧ ∀ i, i < nat (R.1 r) → F (19 + 2 * r) i = R.2 r i
def txtC (I : Nat → Int32) (F : Nat → Nat → Int32) (T : Txt) : Prop := ∀ t, t < 4 → I (70 + t) = T.1 t ∧ szOk 60 (T.1 t) ∧ ∀ i, i < nat (T.1 t) → F (31 + 2 * t) i = T.2 t i
def tldC (I : Nat → Int32) (F : Nat → Nat → Int32) (t : Tld) : Prop := I 10 = t.1 ∧ I 9 = t.2.1 ∧ ∀ f, f < 6 → F 17 f = t.2.2.1 f
def RCx (I : Nat → Int32) (F : Nat → Nat → Int32) (S : Sta) : Prop := skyC I F S.1 ∧ rowC I F S.2.1 ∧ txtC I F S.2.2.1 ∧ tldC I F S.2.2.2
def RC (S : Sta) (hp : List Am_C) : Prop := ∃ I F, hp = cH I F S.2.2.2.2.2.2.1 S.2.2.2.2.2.2.2 ∧ RCx I F S
theorem RC_of {I : Nat → Int32} {F : Nat → Nat → Int32} {S : Sta} (h : RCx I F S) : RC S (cH I F S.2.2.2.2.2.2.1 S.2.2.2.2.2.2.2) := ⟨I, F, rfl, h⟩
/-- the parts stay where what they look at stays -/
theorem skyC_congr {I I' : Nat → Int32} {F F' : Nat → Nat → Int32} {k : Sky} (h : skyC I F k) (hI : ∀ j, (22 ≤ j ∧ j < 52) → I' j = I j) (hF : ∀ j, j = 7 ∨ (9 ≤ j ∧ j ≤ 12) ∨ 39 ≤ j → F' j = F j) : skyC I' F' k := by
  obtain ⟨h1, h2, h3, h4, h5, h6⟩ := h
  refine ⟨by rw [hI 22 (by omega)]; exact h1, h2, fun i hi => by rw [hF 7 (by omega)]; exact h3 i hi, ?_, h5, fun q hq => ?_⟩
  · rw [hI 30 (by omega), hI 31 (by omega), hI 32 (by omega), hF 9 (by omega), hF 10 (by omega), hF 11 (by omega), hF 12 (by omega)]
    exact h4
  · have h7 := h6 q hq
    rw [hI (40 + 3 * q) (by omega), hI (41 + 3 * q) (by omega), hI (42 + 3 * q) (by omega), hF (39 + 5 * q) (by omega), hF (40 + 5 * q) (by omega), hF (41 + 5 * q) (by omega), hF (42 + 5 * q) (by omega)]
    exact h7
theorem rowC_congr {I I' : Nat → Int32} {F F' : Nat → Nat → Int32} {R : Txt} (h : rowC I F R) (hI : ∀ j, j < 6 → I' (60 + j) = I (60 + j)) (hF : ∀ j, j < 6 → F' (19 + 2 * j) = F (19 + 2 * j)) : rowC I' F' R := by
  intro r hr
  rw [hI r hr, hF r hr]
  exact h r hr
theorem txtC_congr {I I' : Nat → Int32} {F F' : Nat → Nat → Int32} {R : Txt} (h : txtC I F R) (hI : ∀ j, j < 4 → I' (70 + j) = I (70 + j)) (hF : ∀ j, j < 4 → F' (31 + 2 * j) = F (31 + 2 * j)) : txtC I' F' R := by
  intro r hr
  rw [hI r hr, hF r hr]
  exact h r hr
theorem RC_fnd {I : Nat → Int32} {F : Nat → Nat → Int32} {S : Sta} (h : RCx I F S) {f : Nat} (hf : f < 6) : RC (fndS S f) (cH (upd I 9 (nI f)) (va_up F 17 (upd (F 17) f (F 17 f + nI 1))) S.2.2.2.2.2.2.1 S.2.2.2.2.2.2.2) := by
  obtain ⟨hs, hr, ht, h8, h11, h12⟩ := h
  refine ⟨_, _, rfl, skyC_congr hs (fun j hj => pk_un (by omega)) (fun j hj => va_up_ne _ _ (by omega)), rowC_congr hr (fun j hj => pk_un (by omega)) (fun j hj => va_up_ne _ _ (by omega)), txtC_congr ht (fun j hj => pk_un (by omega)) (fun j hj => va_up_ne _ _ (by omega)), h8, rfl, fun q hq => ?_⟩
  show upd (F 17) f (F 17 f + nI 1) q = upd S.2.2.2.2.2.1 f (S.2.2.2.2.2.1 f + nI 1) q
  unfold upd
  rw [h12 f hf, h12 q hq]
theorem RC_tell {I : Nat → Int32} {F : Nat → Nat → Int32} {S : Sta} (h : RCx I F S) (x : Int32) : RC (tellS S x) (cH (upd I 10 x) F S.2.2.2.2.2.2.1 S.2.2.2.2.2.2.2) := by
  obtain ⟨hs, hr, ht, h8, h11, h12⟩ := h
  exact ⟨_, _, rfl, skyC_congr hs (fun j hj => pk_un (by omega)) (fun j hj => rfl), rowC_congr hr (fun j hj => pk_un (by omega)) (fun j hj => rfl), txtC_congr ht (fun j hj => pk_un (by omega)) (fun j hj => rfl), rfl, h11, h12⟩
theorem hasI_in3 {k : Nat} {i : Int32} (hk : k ≤ 1000) : hasI (nI k) i = in3 i (nI 0) (nI k - nI 1) := by
  unfold hasI in3
  have e : (nI k - nI 1).toInt = (k : Int) - 1 := pk_sub_toInt (by omega) (by omega)
  have e2 : decide (¬ i < 0) = decide (nI 0 ≤ i) := by
    apply decide_eq_decide.mpr
    exact Int32.not_lt
  have e3 : decide (i < nI k) = decide (i ≤ nI k - nI 1) := by
    apply decide_eq_decide.mpr
    rw [Int32.lt_iff_toInt_lt, Int32.le_iff_toInt_le, e, nI_toInt (by omega)]
    omega
  rw [e2, e3]

theorem c_T_tell (I : Nat → Int32) (F : Nat → Nat → Int32) (u v : Int64) (x : Int32) : Am_Ev false 0 0 0 17 [.ref 0, .int x] (cH I F u v) (some (.int (nI 1))) (cH (upd I 10 x) F u v) := by
  refine am_ev 2 (some .int) false [] ok_T_tell am_mP_17 (by rw [am_m_17]) (by rw [am_m_17]) (fun h => by cases h) (Nat.le_of_ble_eq_true rfl) ?_
  intro Go hG
  refine hG 200 _ _ _ _ _ _ ?_
  exact ⟨rfl, rfl, rfl, rfl⟩

theorem c_T_found (I : Nat → Int32) (F : Nat → Nat → Int32) (u v : Int64) (x : Nat) (hx : x < 6) : Am_Ev false 0 0 0 10 [.ref 0, .int (nI x)] (cH I F u v) (some (.int (-nI 3))) (cH (upd I 9 (nI x)) (va_up F 17 (upd (F 17) x (F 17 x + nI 1))) u v) := by
  refine am_ev 2 (some .int) false [] ok_T_found am_mP_10 (by rw [am_m_10]) (by rw [am_m_10]) (fun h => by cases h) (Nat.le_of_ble_eq_true rfl) ?_
  intro Go hG
  refine hG 200 _ _ _ _ _ _ ?_
  refine Exists.intro x ⟨hx, rfl, ?_⟩
  refine Exists.intro x ⟨hx, rfl, ?_⟩
  exact ⟨rfl, rfl, rfl, rfl⟩

theorem c_T_refusalOfRow_a (I : Nat → Int32) (F : Nat → Nat → Int32) (u v : Int64) (r : Int32) (h1 : in3 r (nI 0) (nI 5) = false) : Am_Ev false 1 0 0 14 [.ref 0, .int r] (cH I F u v) (some (.int (-nI 1))) (cH I F u v) := by
  refine am_ev 2 (some .int) false [] ok_T_refusalOfRow am_mP_14 (by rw [am_m_14]) (by rw [am_m_14]) (fun h => by cases h) (Nat.le_of_ble_eq_true rfl) ?_
  intro Go hG
  have hc := c_T_isRow (cH I F u v) r
  rw [h1] at hc
  refine hG 200 _ _ _ _ _ _ ?_
  refine Exists.intro 0 (Exists.intro _ (Exists.intro _ ⟨by decide, hc, ?_⟩))
  refine bn_f rfl ?_
  exact ⟨rfl, rfl, rfl, rfl⟩

theorem c_T_refusalOfRow_b (I : Nat → Int32) (F : Nat → Nat → Int32) (u v : Int64) (r : Nat) (h1 : r ≤ 5) (h2 : I (60 + r) < 0) : Am_Ev false 1 0 0 14 [.ref 0, .int (nI r)] (cH I F u v) (some (.int (-nI 3))) (cH (upd I 9 (nI 1)) (va_up F 17 (upd (F 17) 1 (F 17 1 + nI 1))) u v) := by
  refine am_ev 2 (some .int) false [] ok_T_refusalOfRow am_mP_14 (by rw [am_m_14]) (by rw [am_m_14]) (fun h => by cases h) (Nat.le_of_ble_eq_true rfl) ?_
  intro Go hG
  have hc := c_T_isRow (cH I F u v) (nI r)
  rw [in3_nI (by omega) (by omega) h1] at hc
  refine hG 200 _ _ _ _ _ _ ?_
  refine Exists.intro 0 (Exists.intro _ (Exists.intro _ ⟨by decide, hc, ?_⟩))
  refine bn_t (by decide) ?_
  refine Exists.intro r (Exists.intro (18 + 2 * r) ⟨by omega, rfl, rfR_at (by omega), ?_⟩)
  refine am_vt (cH_row (by omega)) rfl ?_
  have hm := c_S_isMissing (cH I F u v) (18 + 2 * r) _ _ (cH_row (by omega))
  
  rw [decide_eq_true h2] at hm
  refine Exists.intro 0 (Exists.intro _ (Exists.intro _ ⟨by decide, hm, ?_⟩))
  refine br_f (by decide) ?_
  refine Exists.intro 0 (Exists.intro _ (Exists.intro _ ⟨by decide, c_T_found I F u v 1 (by decide), ?_⟩))
  exact ⟨rfl, rfl, rfl, rfl⟩

theorem c_T_refusalOfRow_d (I : Nat → Int32) (F : Nat → Nat → Int32) (u v : Int64) (r : Nat) (h1 : r ≤ 5) (h2 : ¬ I (60 + r) < 0) : Am_Ev false 1 0 0 14 [.ref 0, .int (nI r)] (cH I F u v) (some (.int (nI 0))) (cH I F u v) := by
  refine am_ev 2 (some .int) false [] ok_T_refusalOfRow am_mP_14 (by rw [am_m_14]) (by rw [am_m_14]) (fun h => by cases h) (Nat.le_of_ble_eq_true rfl) ?_
  intro Go hG
  have hc := c_T_isRow (cH I F u v) (nI r)
  rw [in3_nI (by omega) (by omega) h1] at hc
  refine hG 200 _ _ _ _ _ _ ?_
  refine Exists.intro 0 (Exists.intro _ (Exists.intro _ ⟨by decide, hc, ?_⟩))
  refine bn_t (by decide) ?_
  refine Exists.intro r (Exists.intro (18 + 2 * r) ⟨by omega, rfl, rfR_at (by omega), ?_⟩)
  refine am_vt (cH_row (by omega)) rfl ?_
  have hm := c_S_isMissing (cH I F u v) (18 + 2 * r) _ _ (cH_row (by omega))
  
  rw [decide_eq_false h2] at hm
  refine Exists.intro 0 (Exists.intro _ (Exists.intro _ ⟨by decide, hm, ?_⟩))
  refine br_t rfl ?_
  exact ⟨rfl, rfl, rfl, rfl⟩

theorem c_T_refusalOfText_a (I : Nat → Int32) (F : Nat → Nat → Int32) (u v : Int64) (r : Int32) (h1 : in3 r (nI 0) (nI 3) = false) : Am_Ev false 1 0 0 26 [.ref 0, .int r] (cH I F u v) (some (.int (-nI 1))) (cH I F u v) := by
  refine am_ev 2 (some .int) false [] ok_T_refusalOfText am_mP_26 (by rw [am_m_26]) (by rw [am_m_26]) (fun h => by cases h) (Nat.le_of_ble_eq_true rfl) ?_
  intro Go hG
  have hc := c_T_isText (cH I F u v) r
  rw [h1] at hc
  refine hG 200 _ _ _ _ _ _ ?_
  refine Exists.intro 0 (Exists.intro _ (Exists.intro _ ⟨by decide, hc, ?_⟩))
  refine bn_f rfl ?_
  exact ⟨rfl, rfl, rfl, rfl⟩

theorem c_T_refusalOfText_b (I : Nat → Int32) (F : Nat → Nat → Int32) (u v : Int64) (r : Nat) (h1 : r ≤ 3) (h2 : I (70 + r) < 0) : Am_Ev false 1 0 0 26 [.ref 0, .int (nI r)] (cH I F u v) (some (.int (-nI 3))) (cH (upd I 9 (nI 1)) (va_up F 17 (upd (F 17) 1 (F 17 1 + nI 1))) u v) := by
  refine am_ev 2 (some .int) false [] ok_T_refusalOfText am_mP_26 (by rw [am_m_26]) (by rw [am_m_26]) (fun h => by cases h) (Nat.le_of_ble_eq_true rfl) ?_
  intro Go hG
  have hc := c_T_isText (cH I F u v) (nI r)
  rw [in3_nI (by omega) (by omega) h1] at hc
  refine hG 200 _ _ _ _ _ _ ?_
  refine Exists.intro 0 (Exists.intro _ (Exists.intro _ ⟨by decide, hc, ?_⟩))
  refine bn_t (by decide) ?_
  refine Exists.intro r (Exists.intro (30 + 2 * r) ⟨by omega, rfl, rfT_at (by omega), ?_⟩)
  refine am_vt (cH_txt (by omega)) rfl ?_
  have hm := c_S_isMissing (cH I F u v) (30 + 2 * r) _ _ (cH_txt (by omega))
  
  rw [decide_eq_true h2] at hm
  refine Exists.intro 0 (Exists.intro _ (Exists.intro _ ⟨by decide, hm, ?_⟩))
  refine br_f (by decide) ?_
  refine Exists.intro 0 (Exists.intro _ (Exists.intro _ ⟨by decide, c_T_found I F u v 1 (by decide), ?_⟩))
  exact ⟨rfl, rfl, rfl, rfl⟩

theorem c_T_refusalOfText_d (I : Nat → Int32) (F : Nat → Nat → Int32) (u v : Int64) (r : Nat) (h1 : r ≤ 3) (h2 : ¬ I (70 + r) < 0) : Am_Ev false 1 0 0 26 [.ref 0, .int (nI r)] (cH I F u v) (some (.int (nI 0))) (cH I F u v) := by
  refine am_ev 2 (some .int) false [] ok_T_refusalOfText am_mP_26 (by rw [am_m_26]) (by rw [am_m_26]) (fun h => by cases h) (Nat.le_of_ble_eq_true rfl) ?_
  intro Go hG
  have hc := c_T_isText (cH I F u v) (nI r)
  rw [in3_nI (by omega) (by omega) h1] at hc
  refine hG 200 _ _ _ _ _ _ ?_
  refine Exists.intro 0 (Exists.intro _ (Exists.intro _ ⟨by decide, hc, ?_⟩))
  refine bn_t (by decide) ?_
  refine Exists.intro r (Exists.intro (30 + 2 * r) ⟨by omega, rfl, rfT_at (by omega), ?_⟩)
  refine am_vt (cH_txt (by omega)) rfl ?_
  have hm := c_S_isMissing (cH I F u v) (30 + 2 * r) _ _ (cH_txt (by omega))
  
  rw [decide_eq_false h2] at hm
  refine Exists.intro 0 (Exists.intro _ (Exists.intro _ ⟨by decide, hm, ?_⟩))
  refine br_t rfl ?_
  exact ⟨rfl, rfl, rfl, rfl⟩

theorem c_T_refusalOfPlace_a (I : Nat → Int32) (F : Nat → Nat → Int32) (u v : Int64) (r i : Int32) (h1 : in3 r (nI 0) (nI 5) = false) : Am_Ev false 2 0 0 13 [.ref 0, .int r, .int i] (cH I F u v) (some (.int (-nI 1))) (cH I F u v) := by
  refine am_ev 4 (some .int) false [] ok_T_refusalOfPlace am_mP_13 (by rw [am_m_13]) (by rw [am_m_13]) (fun h => by cases h) (Nat.le_of_ble_eq_true rfl) ?_
  intro Go hG
  refine hG 200 _ _ _ _ _ _ ?_
  refine Exists.intro 1 (Exists.intro _ (Exists.intro _ ⟨by decide, c_T_refusalOfRow_a I F u v r h1, ?_⟩))
  refine br_f (by decide) ?_
  exact ⟨rfl, rfl, rfl, rfl⟩

theorem c_T_refusalOfPlace_b (I : Nat → Int32) (F : Nat → Nat → Int32) (u v : Int64) (r : Nat) (i : Int32) (h1 : r ≤ 5) (h2 : I (60 + r) < 0) : Am_Ev false 2 0 0 13 [.ref 0, .int (nI r), .int i] (cH I F u v) (some (.int (-nI 3))) (cH (upd I 9 (nI 1)) (va_up F 17 (upd (F 17) 1 (F 17 1 + nI 1))) u v) := by
  refine am_ev 4 (some .int) false [] ok_T_refusalOfPlace am_mP_13 (by rw [am_m_13]) (by rw [am_m_13]) (fun h => by cases h) (Nat.le_of_ble_eq_true rfl) ?_
  intro Go hG
  refine hG 200 _ _ _ _ _ _ ?_
  refine Exists.intro 1 (Exists.intro _ (Exists.intro _ ⟨by decide, c_T_refusalOfRow_b I F u v r h1 h2, ?_⟩))
  refine br_f (by decide) ?_
  exact ⟨rfl, rfl, rfl, rfl⟩

theorem c_T_refusalOfPlace_c (I : Nat → Int32) (F : Nat → Nat → Int32) (u v : Int64) (r : Nat) (i : Int32) (h1 : r ≤ 5) (h2 : ¬ I (60 + r) < 0) (h3 : hasI (I (60 + r)) i = false) : Am_Ev false 2 0 0 13 [.ref 0, .int (nI r), .int i] (cH I F u v) (some (.int (-nI 3))) (cH (upd I 9 (nI 2)) (va_up F 17 (upd (F 17) 2 (F 17 2 + nI 1))) u v) := by
  refine am_ev 4 (some .int) false [] ok_T_refusalOfPlace am_mP_13 (by rw [am_m_13]) (by rw [am_m_13]) (fun h => by cases h) (Nat.le_of_ble_eq_true rfl) ?_
  intro Go hG
  refine hG 200 _ _ _ _ _ _ ?_
  refine Exists.intro 1 (Exists.intro _ (Exists.intro _ ⟨by decide, c_T_refusalOfRow_d I F u v r h1 h2, ?_⟩))
  refine br_t rfl ?_
  refine Exists.intro r (Exists.intro (18 + 2 * r) ⟨by omega, rfl, rfR_at (by omega), ?_⟩)
  refine am_vt (cH_row (by omega)) rfl ?_
  have hm := c_S_has (cH I F u v) (18 + 2 * r) _ _ (cH_row (by omega)) i
  rw [h3] at hm
  refine Exists.intro 0 (Exists.intro _ (Exists.intro _ ⟨by decide, hm, ?_⟩))
  refine br_t rfl ?_
  refine Exists.intro 0 (Exists.intro _ (Exists.intro _ ⟨by decide, c_T_found I F u v 2 (by decide), ?_⟩))
  exact ⟨rfl, rfl, rfl, rfl⟩

theorem c_T_refusalOfPlace_d (I : Nat → Int32) (F : Nat → Nat → Int32) (u v : Int64) (r : Nat) (i : Int32) (h1 : r ≤ 5) (h2 : ¬ I (60 + r) < 0) (h3 : hasI (I (60 + r)) i = true) : Am_Ev false 2 0 0 13 [.ref 0, .int (nI r), .int i] (cH I F u v) (some (.int (nI 0))) (cH I F u v) := by
  refine am_ev 4 (some .int) false [] ok_T_refusalOfPlace am_mP_13 (by rw [am_m_13]) (by rw [am_m_13]) (fun h => by cases h) (Nat.le_of_ble_eq_true rfl) ?_
  intro Go hG
  refine hG 200 _ _ _ _ _ _ ?_
  refine Exists.intro 1 (Exists.intro _ (Exists.intro _ ⟨by decide, c_T_refusalOfRow_d I F u v r h1 h2, ?_⟩))
  refine br_t rfl ?_
  refine Exists.intro r (Exists.intro (18 + 2 * r) ⟨by omega, rfl, rfR_at (by omega), ?_⟩)
  refine am_vt (cH_row (by omega)) rfl ?_
  have hm := c_S_has (cH I F u v) (18 + 2 * r) _ _ (cH_row (by omega)) i
  rw [h3] at hm
  refine Exists.intro 0 (Exists.intro _ (Exists.intro _ ⟨by decide, hm, ?_⟩))
  refine br_f (by decide) ?_
  exact ⟨rfl, rfl, rfl, rfl⟩

theorem pc_T_at (S : Sta) (hp : List Am_C) (h : RC S hp) (r i : Int32) : ∃ hp', Am_Ev false 6 0 0 18 [.ref 0, .int r, .int i] hp (some (.int (spAt S r i).1)) hp' ∧ RC (spAt S r i).2 hp' := by
  obtain ⟨I, F, rfl, hx⟩ := h
  obtain ⟨hs, hr, ht, hl⟩ := id hx
  unfold spAt wrP wrR
  cases ho : okR r with
  | false =>
    rw [if_pos rfl]
    refine ⟨_, am_ev 4 (some .int) false [] ok_T_at am_mP_18 (by rw [am_m_18]) (by rw [am_m_18]) (fun h => by cases h) (Nat.le_of_ble_eq_true rfl) (fun Go hG => ?_), RC_of hx⟩
    refine hG 200 _ _ _ _ _ _ ?_
    refine Exists.intro 2 (Exists.intro _ (Exists.intro _ ⟨by decide, c_T_refusalOfPlace_a I F _ _ r i ho, ?_⟩))
    refine br_f (by decide) ?_
    exact ⟨rfl, rfl, rfl, rfl⟩
  | true =>
    rw [if_neg (by decide)]
    obtain ⟨j, -, hj, rfl⟩ := in3_nat (by decide) (by decide) ho
    rw [nat_nI (by omega)]
    obtain ⟨hr1, hr2, hr3⟩ := hr j (by omega)
    have hr1' : I (60 + j) = rz S j := hr1
    rcases szOk_neg (by decide) hr2 with ⟨e0, e1, e2⟩ | ⟨k, hk, e0, e1, e2⟩
    · have e1' : rz S j < 0 := e1
      rw [if_pos e1']
      refine ⟨_, am_ev 4 (some .int) false [] ok_T_at am_mP_18 (by rw [am_m_18]) (by rw [am_m_18]) (fun h => by cases h) (Nat.le_of_ble_eq_true rfl) (fun Go hG => ?_), RC_fnd hx (by decide)⟩
      refine hG 200 _ _ _ _ _ _ ?_
      refine Exists.intro 2 (Exists.intro _ (Exists.intro _ ⟨by decide, c_T_refusalOfPlace_b I F _ _ j i hj (by rw [hr1]; exact e1), ?_⟩))
      refine br_f (by decide) ?_
      exact ⟨rfl, rfl, rfl, rfl⟩
    · have e1' : ¬ rz S j < 0 := e1
      rw [if_neg e1']
      have e0' : rz S j = nI k := e0
      have hhas : hasI (I (60 + j)) i = in3 i (nI 0) (rz S j - nI 1) := by rw [hr1', e0']; exact hasI_in3 (by omega)
      cases hi : in3 i (nI 0) (rz S j - nI 1) with
      | false =>
        rw [if_pos rfl]
        refine ⟨_, am_ev 4 (some .int) false [] ok_T_at am_mP_18 (by rw [am_m_18]) (by rw [am_m_18]) (fun h => by cases h) (Nat.le_of_ble_eq_true rfl) (fun Go hG => ?_), RC_fnd hx (by decide)⟩
        refine hG 200 _ _ _ _ _ _ ?_
        refine Exists.intro 2 (Exists.intro _ (Exists.intro _ ⟨by decide, c_T_refusalOfPlace_c I F _ _ j i hj (by rw [hr1]; exact e1) (by rw [hhas]; exact hi), ?_⟩))
        refine br_f (by decide) ?_
        exact ⟨rfl, rfl, rfl, rfl⟩
      | true =>
        rw [if_neg (by decide)]
        have hok := c_T_refusalOfPlace_d I F S.2.2.2.2.2.2.1 S.2.2.2.2.2.2.2 j i hj (by rw [hr1]; exact e1) (by rw [hhas]; exact hi)
        obtain ⟨q, hq, rfl⟩ := in3_nat2 (k := k) (by omega) e0 hi
        rw [nat_nI (by omega)]
        have hnk : nat (S.2.1.1 j) = k := by
          have e0' : S.2.1.1 j = nI k := e0
          rw [e0', nat_nI (by omega)]
        have hq3 : F (19 + 2 * j) q = rc S j q := hr3 q (by rw [hnk]; exact hq)
        refine ⟨_, am_ev 4 (some .int) false [] ok_T_at am_mP_18 (by rw [am_m_18]) (by rw [am_m_18]) (fun h => by cases h) (Nat.le_of_ble_eq_true rfl) (fun Go hG => ?_), RC_tell hx (rc S j q)⟩
        refine hG 200 _ _ _ _ _ _ ?_
        refine Exists.intro 2 (Exists.intro _ (Exists.intro _ ⟨by decide, hok, ?_⟩))
        refine br_t rfl ?_
        refine Exists.intro j (Exists.intro (18 + 2 * j) ⟨by omega, rfl, rfR_at (by omega), ?_⟩)
        refine am_ob_of (cH_row (by omega)) ?_
        refine am_ai_of (cH_rowc (by omega)) rfl ?_
        refine Exists.intro q ⟨by omega, rfl, ?_⟩
        rw [hq3]
        refine Exists.intro 0 (Exists.intro _ (Exists.intro _ ⟨by decide, c_T_tell I F S.2.2.2.2.2.2.1 S.2.2.2.2.2.2.2 (rc S j q), ?_⟩))
        exact ⟨rfl, rfl, rfl, rfl⟩

theorem pc_T_lay (S : Sta) (hp : List Am_C) (h : RC S hp) (r i x : Int32) : ∃ hp', Am_Ev false 6 0 0 12 [.ref 0, .int r, .int i, .int x] hp (some (.int (spLay S r i x).1)) hp' ∧ RC (spLay S r i x).2 hp' := by
  obtain ⟨I, F, rfl, hx⟩ := h
  obtain ⟨hs, hr, ht, hl⟩ := id hx
  unfold spLay wrP wrR
  cases ho : okR r with
  | false =>
    rw [if_pos rfl]
    refine ⟨_, am_ev 6 (some .int) false [] ok_T_lay am_mP_12 (by rw [am_m_12]) (by rw [am_m_12]) (fun h => by cases h) (Nat.le_of_ble_eq_true rfl) (fun Go hG => ?_), RC_of hx⟩
    refine hG 200 _ _ _ _ _ _ ?_
    refine Exists.intro 2 (Exists.intro _ (Exists.intro _ ⟨by decide, c_T_refusalOfPlace_a I F _ _ r i ho, ?_⟩))
    refine br_f (by decide) ?_
    exact ⟨rfl, rfl, rfl, rfl⟩
  | true =>
    rw [if_neg (by decide)]
    obtain ⟨j, -, hj, rfl⟩ := in3_nat (by decide) (by decide) ho
    rw [nat_nI (by omega)]
    obtain ⟨hr1, hr2, hr3⟩ := hr j (by omega)
    have hr1' : I (60 + j) = rz S j := hr1
    rcases szOk_neg (by decide) hr2 with ⟨e0, e1, e2⟩ | ⟨k, hk, e0, e1, e2⟩
    · have e1' : rz S j < 0 := e1
      rw [if_pos e1']
      refine ⟨_, am_ev 6 (some .int) false [] ok_T_lay am_mP_12 (by rw [am_m_12]) (by rw [am_m_12]) (fun h => by cases h) (Nat.le_of_ble_eq_true rfl) (fun Go hG => ?_), RC_fnd hx (by decide)⟩
      refine hG 200 _ _ _ _ _ _ ?_
      refine Exists.intro 2 (Exists.intro _ (Exists.intro _ ⟨by decide, c_T_refusalOfPlace_b I F _ _ j i hj (by rw [hr1]; exact e1), ?_⟩))
      refine br_f (by decide) ?_
      exact ⟨rfl, rfl, rfl, rfl⟩
    · have e1' : ¬ rz S j < 0 := e1
      rw [if_neg e1']
      have e0' : rz S j = nI k := e0
      have hhas : hasI (I (60 + j)) i = in3 i (nI 0) (rz S j - nI 1) := by rw [hr1', e0']; exact hasI_in3 (by omega)
      cases hi : in3 i (nI 0) (rz S j - nI 1) with
      | false =>
        rw [if_pos rfl]
        refine ⟨_, am_ev 6 (some .int) false [] ok_T_lay am_mP_12 (by rw [am_m_12]) (by rw [am_m_12]) (fun h => by cases h) (Nat.le_of_ble_eq_true rfl) (fun Go hG => ?_), RC_fnd hx (by decide)⟩
        refine hG 200 _ _ _ _ _ _ ?_
        refine Exists.intro 2 (Exists.intro _ (Exists.intro _ ⟨by decide, c_T_refusalOfPlace_c I F _ _ j i hj (by rw [hr1]; exact e1) (by rw [hhas]; exact hi), ?_⟩))
        refine br_f (by decide) ?_
        exact ⟨rfl, rfl, rfl, rfl⟩
      | true =>
        rw [if_neg (by decide)]
        have hok := c_T_refusalOfPlace_d I F S.2.2.2.2.2.2.1 S.2.2.2.2.2.2.2 j i hj (by rw [hr1]; exact e1) (by rw [hhas]; exact hi)
        obtain ⟨q, hq, rfl⟩ := in3_nat2 (k := k) (by omega) e0 hi
        rw [nat_nI (by omega)]
        have hnk : nat (S.2.1.1 j) = k := by
          have e0' : S.2.1.1 j = nI k := e0
          rw [e0', nat_nI (by omega)]
        have hq3 : F (19 + 2 * j) q = rc S j q := hr3 q (by rw [hnk]; exact hq)
        have hx2 : RCx I (va_up F (19 + 2 * j) (upd (F (19 + 2 * j)) q x)) (sR S (S.2.1.1, set2 S.2.1.2 j q x)) := by
          refine ⟨skyC_congr hs (fun _ _ => rfl) (fun z hz => va_up_ne _ _ (by omega)), fun a ha => ?_, txtC_congr ht (fun _ _ => rfl) (fun z hz => va_up_ne _ _ (by omega)), hl.1, hl.2.1, ?_⟩
          · obtain ⟨g1, g2, g3⟩ := hr a ha
            refine ⟨g1, g2, fun b hb => ?_⟩
            show va_up F (19 + 2 * j) (upd (F (19 + 2 * j)) q x) (19 + 2 * a) b = set2 S.2.1.2 j q x a b
            by_cases haj : a = j
            · subst haj
              rw [va_up_self]
              unfold upd set2
              by_cases hab : b = q
              · rw [if_pos hab, if_pos ⟨rfl, hab⟩]
              · rw [if_neg hab, if_neg (fun z => hab z.2)]
                exact g3 b hb
            · rw [va_up_ne _ _ (by omega)]
              unfold set2
              rw [if_neg (fun z => haj z.1)]
              exact g3 b hb
          · intro f hf
            rw [va_up_ne _ _ (by omega)]
            exact hl.2.2 f hf
        refine ⟨_, am_ev 6 (some .int) false [41] ok_T_lay am_mP_12 (by rw [am_m_12]) (by rw [am_m_12]) (fun h => by cases h) (Nat.le_of_ble_eq_true rfl) (fun Go hG => ?_), RC_tell hx2 (rc S j q)⟩
        refine hG 200 _ _ _ _ _ _ ?_
        refine Exists.intro 2 (Exists.intro _ (Exists.intro _ ⟨by decide, hok, ?_⟩))
        refine br_t rfl ?_
        refine Exists.intro j (Exists.intro (18 + 2 * j) ⟨by omega, rfl, rfR_at (by omega), ?_⟩)
        refine am_ob_of (cH_row (by omega)) ?_
        refine am_ai_of (cH_rowc (by omega)) rfl ?_
        refine Exists.intro q ⟨by omega, rfl, ?_⟩
        refine Exists.intro j (Exists.intro (18 + 2 * j) ⟨by omega, rfl, rfR_at (by omega), ?_⟩)
        refine am_ob_of (cH_row (by omega)) ?_
        refine am_ai_of (cH_rowc (by omega)) rfl ?_
        refine Exists.intro q ⟨by omega, rfl, ?_⟩
        rw [hq3]
        show Go 41 [some (.ref 0), some (.int (nI j)), some (.int (nI q)), some (.int x), some (.int (nI 0)), some (.int (rc S j q))] [] ((cH I F S.2.2.2.2.2.2.1 S.2.2.2.2.2.2.2).set (19 + 2 * j) (.inl (0, 40, .inl (upd (F (19 + 2 * j)) q x)))) 0 0
        rw [cH_rowcs (by omega)]
        refine hG 200 _ _ _ _ _ _ ?_
        refine Exists.intro 0 (Exists.intro _ (Exists.intro _ ⟨by decide, c_T_tell I (va_up F (19 + 2 * j) (upd (F (19 + 2 * j)) q x)) S.2.2.2.2.2.2.1 S.2.2.2.2.2.2.2 (rc S j q), ?_⟩))
        exact ⟨rfl, rfl, rfl, rfl⟩

