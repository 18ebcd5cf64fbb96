/-! ===== the reference: rounds ===== -/
def eqD (du dv : Nat → Nat) : Nat → Bool
  | 0 => true
  | n + 1 => eqD du dv n && decide (du n = dv n)
theorem eqD_iff {du dv : Nat → Nat} : ∀ {n : Nat}, eqD du dv n = true ↔ ∀ k, k < n → du k = dv k
  | 0 => ⟨fun _ k hk => absurd hk (Nat.not_lt_zero _), fun _ => rfl⟩
  | n + 1 => by
    have ih := eqD_iff (du := du) (dv := dv) (n := n)
    show (eqD du dv n && decide (du n = dv n)) = true ↔ _
    rw [Bool.and_eq_true, ih, decide_eq_true_eq]
    constructor
    · intro h k hk
      by_cases e : k = n
      · rw [e]; exact h.2
      · exact h.1 k (by omega)
    · intro h
      exact ⟨fun k hk => h k (by omega), h n (by omega)⟩
def anyN (p : Nat → Bool) : Nat → Bool
  | 0 => false
  | n + 1 => anyN p n || p n
theorem anyN_iff {p : Nat → Bool} : ∀ {n : Nat}, anyN p n = true ↔ ∃ k, k < n ∧ p k = true
  | 0 => ⟨fun h => (by cases h), fun ⟨k, hk, _⟩ => absurd hk (Nat.not_lt_zero _)⟩
  | n + 1 => by
    have ih := anyN_iff (p := p) (n := n)
    show (anyN p n || p n) = true ↔ _
    rw [Bool.or_eq_true, ih]
    constructor
    · rintro (⟨k, hk, e⟩ | e)
      · exact ⟨k, by omega, e⟩
      · exact ⟨n, by omega, e⟩
    · rintro ⟨k, hk, e⟩
      by_cases q : k = n
      · rw [q] at e; exact Or.inr e
      · exact Or.inl ⟨k, by omega, e⟩
theorem anyN_no {p : Nat → Bool} {n : Nat} (h : ∀ k, k < n → p k = false) : anyN p n = false := by
  cases q : anyN p n with
  | false => rfl
  | true =>
    obtain ⟨k, hk, e⟩ := anyN_iff.mp q
    rw [h k hk] at e
    cases e
def cmS (n : Nat) (d du : Nat → Nat) : Bool := anyN (fun b => eqD (latS b d) du n) (mnS d n + 1)
def rdS (n : Nat) (kd hs : Nat → Nat) (z : Nat) (du : Nat → Nat) : Nat → Nat → (Nat → Nat) → Int32
  | 0, _, _ => -nI 9
  | j + 1, q, d => if (thS n kd hs z 0 d).1 = z then (if cmS n (thS n kd hs z 0 d).2 du = true then nI q else rdS n kd hs z du j (q + 1) (thS n kd hs z 0 d).2) else -nI 9
theorem mn_lat {n b : Nat} {d : Nat → Nat} (hn : 0 < n) (hd : ∀ k, k < n → d k ≤ 14) (hb : b ≤ mnS d n) : mnS (latS b d) n = mnS d n - b := by
  obtain ⟨k0, h0, e0⟩ := mnS_at hd hn
  obtain ⟨k1, h1, e1⟩ := mnS_at (du := latS b d) (n := n) (fun k hk => by have := hd k hk; show d k - b ≤ 14; omega) hn
  have a1 := mnS_le (du := latS b d) h0
  have a2 := mnS_le (du := d) h1
  have e2 : latS b d k1 = d k1 - b := rfl
  have e3 : latS b d k0 = d k0 - b := rfl
  omega
theorem rst_lat {n b : Nat} {d : Nat → Nat} (hn : 0 < n) (hd : ∀ k, k < n → d k ≤ 14) (hb : b ≤ mnS d n) : rstS n (latS b d) = rstS n d := by
  unfold rstS
  rw [mn_lat hn hd hb]
  funext k
  show d k - b - (mnS d n - b) = d k - mnS d n
  omega
theorem thS_lat {n b z : Nat} {kd hs d : Nat → Nat} (hn : 0 < n) (hd : ∀ k, k < n → d k ≤ 14) (hb : b ≤ mnS d n) (hz : 1 ≤ z) (k : Nat) : thS n kd hs z k (latS b d) = thS n kd hs z k d := by
  obtain ⟨j, rfl⟩ : ∃ j, z = j + 1 := ⟨z - 1, by omega⟩
  unfold thS
  rw [rst_lat hn hd hb]
theorem rdS_lat {n b z : Nat} {kd hs d du : Nat → Nat} (hn : 0 < n) (hd : ∀ k, k < n → d k ≤ 14) (hb : b ≤ mnS d n) (hz : 1 ≤ z) (j q : Nat) : rdS n kd hs z du j q (latS b d) = rdS n kd hs z du j q d := by
  cases j with
  | zero => rfl
  | succ j =>
    unfold rdS
    rw [thS_lat hn hd hb hz]
def spRounds (S : Sta) (r : Int32) : Int32 × Sta := if eN S = 0 then (-nI 4, S) else refS S (wrHc S r 1 20) (rdS (eN S) (eK S) (hsN (rc S (nat r))) (nat (rz S (nat r))) (duE (eE S)) 100 1 (duE (eE S)), S)
theorem nI_eqd {a b : Nat} (ha : a ≤ 100) (hb : b ≤ 100) : nI a = nI b ↔ a = b := by
  constructor
  · intro h
    have := congrArg Int32.toInt h
    rw [nI_toInt (by omega), nI_toInt (by omega)] at this
    omega
  · intro h; rw [h]

theorem x_asNow {I : Nat → Int32} {F : Nat → Nat → Int32} {n : Nat} {kd du : Nat → Nat} (hb : MBs I F n kd du) (u v : Int64) {w : Nat → Int32} {d : Nat → Nat} (hw : TW n d (F 1) w) (ha : apart n d) : Am_Ev false 0 0 0 185 [.ref 0] (mH I (va_up F 1 w) u v) (some (.int (b2 (eqD d du n)))) (mH I (va_up F 1 w) u v) := by
  obtain ⟨hI, hn, h0, hk, hd, ha0⟩ := hb
  refine am_ev 3 (some .boolean) false [4] ok_M_isAsNow am_mP_185 (by rw [am_m_185]) (by rw [am_m_185]) (fun h => by cases h) (Nat.le_of_ble_eq_true rfl) (fun Go hG => ?_)
  have L : ∀ (j k : Nat), k + j = n → Go 4 [some (.ref 0), some (.int (b2 (eqD d du k))), some (.int (nI k))] [] (mH I (va_up F 1 w) u v) 0 0 := by
    intro j
    induction j with
    | zero =>
      intro k hk2
      refine hG 200 _ _ _ _ _ _ ?_
      refine br_t (by rw [hI]; exact nI_le (by omega) (by omega)) ?_
      rw [show k = n by omega]
      exact ⟨b2_or _, rfl, rfl, rfl, rfl⟩
    | succ j ih =>
      intro k hk2
      have h9 := ih (k + 1) (by omega)
      rw [← nI_s1 k] at h9
      have e1 : w (2136 + k) = nI (d k) := hw.1 k (by omega)
      have e2 : w k = nI (du k) := by rw [hw.2 k (by omega)]; exact hd k (by omega)
      have l1 := ha.1 k (by omega)
      have l2 := ha0.1 k (by omega)
      refine hG 200 _ _ _ _ _ _ ?_
      refine br_f (by rw [hI]; exact nI_ge (by omega) (by omega)) ?_
      refine b2_z (fun h1 => ?_) (fun h1 => ?_)
      · rw [show eqD d du (k + 1) = false by show (eqD d du k && _) = false; rw [h1]; rfl] at h9
        exact h9
      · refine Exists.intro (2136 + k) ⟨by omega, nI_add 2136 k, ?_⟩
        refine Exists.intro k ⟨by omega, rfl, ?_⟩
        refine And.intro (fun h2 => ?_) (fun h2 => ?_)
        · rw [show eqD d du (k + 1) = false by
            show (eqD d du k && decide (d k = du k)) = false
            rw [h1, Bool.true_and]
            exact decide_eq_false (fun q => h2 (by show w (2136 + k) = w k; rw [e1, e2, q]))] at h9
          exact h9
        · have h2' : w (2136 + k) = w k := h2
          rw [e1, e2, nI_eqd (by omega) (by omega)] at h2'
          rw [show eqD d du (k + 1) = true by
            show (eqD d du k && decide (d k = du k)) = true
            rw [h1, Bool.true_and]
            exact decide_eq_true h2'] at h9
          exact h9
  refine hG 200 _ _ _ _ _ _ ?_
  exact L n 0 (by omega)

theorem l_M_back {I : Nat → Int32} {F : Nat → Nat → Int32} {n : Nat} {kd du : Nat → Nat} (hb : MBs I F n kd du) (u v : Int64) {d : Nat → Nat} (ha : apart n d) (loc2 : List (Option Value)) : ∀ (i b : Nat) (w : Nat → Int32), b + i = mnS d n → (∀ b', b' < b → eqD (latS b' d) du n = false) → TW n (latS b d) (F 1) w → ∃ w' bb, bb ≤ mnS d n ∧ TW n (latS bb d) (F 1) w' ∧ eqD (latS bb d) du n = cmS n d du ∧ ∀ r hp', Rch cd_M_rounds [31, 40, 102, 131] 4 (some .int) 131 (some (.ref 0) :: loc2) [] (mH I (va_up F 1 w') u v) r hp' → Rch cd_M_rounds [31, 40, 102, 131] 4 (some .int) 102 (some (.ref 0) :: loc2) [] (mH I (va_up F 1 w) u v) r hp' := by
  obtain ⟨hI, hn, h0, hk, hd, ha0⟩ := id hb
  intro i
  induction i with
  | zero =>
    intro b w hbi hno hw
    have hlt : apart n (latS b d) := apart_lat ha (fun k hk => by have := mnS_le (du := d) hk; omega)
    have hasn := x_asNow hb u v hw hlt
    have hdue : dueS n (latS b d) < n := by rw [show b = mnS d n by omega]; exact rstS_due ha.1 h0
    have hdc := x_due hb u v hw
    rw [dueR_yes hdue] at hdc
    refine ⟨w, b, by omega, hw, ?_, fun r hp' hR Go hG => ?_⟩
    · unfold cmS
      rw [show mnS d n = b by omega]
      show _ = (anyN _ b || _)
      rw [anyN_no (fun k hk => hno k hk), Bool.false_or]
    · have h9 := hR Go hG
      refine hG 200 _ _ _ _ _ _ ?_
      refine Exists.intro 0 (Exists.intro _ (Exists.intro _ ⟨by decide, hasn, ?_⟩))
      refine b2_nz (fun h1 => ?_) (fun h1 => ?_)
      · exact h9
      · refine Exists.intro 0 (Exists.intro _ (Exists.intro _ ⟨by decide, hdc, ?_⟩))
        refine bn_t (nI_m9 (by omega)) ?_
        exact h9
  | succ i ih =>
    intro b w hbi hno hw
    have hlt : apart n (latS b d) := apart_lat ha (fun k hk => by have := mnS_le (du := d) hk; omega)
    have hasn := x_asNow hb u v hw hlt
    cases he : eqD (latS b d) du n with
    | true =>
      rw [he] at hasn
      refine ⟨w, b, by omega, hw, ?_, fun r hp' hR Go hG => ?_⟩
      · rw [he]
        unfold cmS
        exact (anyN_iff.mpr ⟨b, by omega, he⟩).symm
      · have h9 := hR Go hG
        refine hG 200 _ _ _ _ _ _ ?_
        refine Exists.intro 0 (Exists.intro _ (Exists.intro _ ⟨by decide, hasn, ?_⟩))
        refine bn_t (by decide) ?_
        exact h9
    | false =>
      rw [he] at hasn
      have hdue : ¬ dueS n (latS b d) < n := mn_no ha.1 (by omega)
      have hdc := x_due hb u v hw
      rw [dueR_no hdue] at hdc
      obtain ⟨w1, hc1, hw1⟩ := x_later hb u v hw (dueS_pos hdue)
      have hw1' : TW n (latS (b + 1) d) (F 1) w1 := ⟨fun k hk => by rw [hw1.1 k hk]; rfl, hw1.2⟩
      obtain ⟨w2, bb, k1, k2, k3, k4⟩ := ih (b + 1) w1 (by omega) (fun b' hb' => by
        by_cases e : b' = b
        · rw [e]; exact he
        · exact hno b' (by omega)) hw1'
      refine ⟨w2, bb, k1, k2, k3, fun r hp' hR Go hG => ?_⟩
      have h9 := k4 r hp' hR Go hG
      refine hG 200 _ _ _ _ _ _ ?_
      refine Exists.intro 0 (Exists.intro _ (Exists.intro _ ⟨by decide, hasn, ?_⟩))
      refine bn_f rfl ?_
      refine Exists.intro 0 (Exists.intro _ (Exists.intro _ ⟨by decide, hdc, ?_⟩))
      refine bn_f rfl ?_
      refine Exists.intro 0 (Exists.intro _ (Exists.intro _ ⟨by decide, hc1, ?_⟩))
      exact h9

theorem l_M_rthrow {I : Nat → Int32} {F : Nat → Nat → Int32} {n : Nat} {kd du : Nat → Nat} (hb : MBs I F n kd du) (u v : Int64) {hs : Nat → Nat} (r z : Nat) (hr6 : r ≤ 5) (hz : F 5 r = nI z) (hz40 : z ≤ 40) (hc : ∀ i, i < z → F 4 (40 * r + i) = nI (hs i)) (hh : ∀ i, i < z → 1 ≤ hs i ∧ hs i ≤ 7) (y : Int32) (q : Nat) : ∀ (j k : Nat) (w : Nat → Int32) (d : Nat → Nat), k + j = z → TW n d (F 1) w → apart n d → ∀ x : Option Value, ∃ w' x', TW n (thS n kd hs j k d).2 (F 1) w' ∧ (((thS n kd hs j k d).1 = z → ∀ r1 hp', Rch cd_M_rounds [31, 40, 102, 131] 4 (some .int) 102 [some (.ref 0), some (.int (nI r)), some (.int y), some (.int (nI q)), some (.int (nI z)), x'] [] (mH I (va_up F 1 w') u v) r1 hp' → Rch cd_M_rounds [31, 40, 102, 131] 4 (some .int) 40 [some (.ref 0), some (.int (nI r)), some (.int y), some (.int (nI q)), some (.int (nI k)), x] [] (mH I (va_up F 1 w) u v) r1 hp') ∧ (¬ (thS n kd hs j k d).1 = z → Rch cd_M_rounds [31, 40, 102, 131] 4 (some .int) 40 [some (.ref 0), some (.int (nI r)), some (.int y), some (.int (nI q)), some (.int (nI k)), x] [] (mH I (va_up F 1 w) u v) (some (.int (-nI 9))) (mH I (va_up F 1 w') u v))) := by
  intro j
  induction j with
  | zero =>
    intro k w d hk hw ha x
    refine ⟨w, x, hw, fun _ r1 hp' hR Go hG => ?_, fun h => absurd hk (by have h' : ¬ k = z := h; omega)⟩
    have h9 := hR Go hG
    rw [show z = k by omega] at h9
    refine hG 200 _ _ _ _ _ _ ?_
    refine Exists.intro r ⟨by omega, rfl, ?_⟩
    refine br_t (by show F 5 r ≤ nI k; rw [hz]; exact nI_le (by omega) (by omega)) ?_
    exact h9
  | succ j ih =>
    intro k w d hk hw ha x
    obtain ⟨w1, hc1, hw1⟩ := x_rests hb u v hw ha
    have hcm := x_may hb u v hw1 (nI (hs k))
    have hck := hc k (by omega)
    unfold thS
    cases hm : mayS n kd (rstS n d) (nI (hs k)) with
    | false =>
      rw [if_neg (by decide)]
      rw [hm, ← hck] at hcm
      refine ⟨w1, x, hw1, fun h => absurd (show k = z from h) (by omega), fun _ Go hG => ?_⟩
      refine hG 200 _ _ _ _ _ _ ?_
      refine Exists.intro r ⟨by omega, rfl, ?_⟩
      refine br_f (by show ¬ F 5 r ≤ nI k; rw [hz]; exact nI_ge (by omega) (by omega)) ?_
      refine Exists.intro 1 (Exists.intro _ (Exists.intro _ ⟨by decide, hc1, ?_⟩))
      refine Exists.intro (40 * r + k) ⟨by omega, nI_idx _ _ _, ?_⟩
      refine Exists.intro 1 (Exists.intro _ (Exists.intro _ ⟨by decide, hcm, ?_⟩))
      refine bn_f rfl ?_
      exact ⟨rfl, rfl, rfl, rfl⟩
    | true =>
      rw [if_pos rfl]
      obtain ⟨w2, hc2, hw2⟩ := x_toss hb u v hw1 (apart_rst ha) (hs k) (hh k (by omega)) hm
      rw [hm, ← hck] at hcm
      rw [← hck] at hc2
      obtain ⟨w3, x3, hw3, hA, hB⟩ := ih (k + 1) w2 _ (by omega) hw2 (apart_tos (apart_rst ha) (fun i q => (hb.2.2.2.1 i q).2) (hh k (by omega)) hm) (some (.int (F 4 (40 * r + k))))
      have step : ∀ r1 hp', Rch cd_M_rounds [31, 40, 102, 131] 4 (some .int) 40 [some (.ref 0), some (.int (nI r)), some (.int y), some (.int (nI q)), some (.int (nI (k + 1))), some (.int (F 4 (40 * r + k)))] [] (mH I (va_up F 1 w2) u v) r1 hp' → Rch cd_M_rounds [31, 40, 102, 131] 4 (some .int) 40 [some (.ref 0), some (.int (nI r)), some (.int y), some (.int (nI q)), some (.int (nI k)), x] [] (mH I (va_up F 1 w) u v) r1 hp' := by
        intro r1 hp' hR Go hG
        have h9 := hR Go hG
        rw [← nI_s1 k] at h9
        refine hG 200 _ _ _ _ _ _ ?_
        refine Exists.intro r ⟨by omega, rfl, ?_⟩
        refine br_f (by show ¬ F 5 r ≤ nI k; rw [hz]; exact nI_ge (by omega) (by omega)) ?_
        refine Exists.intro 1 (Exists.intro _ (Exists.intro _ ⟨by decide, hc1, ?_⟩))
        refine Exists.intro (40 * r + k) ⟨by omega, nI_idx _ _ _, ?_⟩
        refine Exists.intro 1 (Exists.intro _ (Exists.intro _ ⟨by decide, hcm, ?_⟩))
        refine bn_t (by decide) ?_
        refine Exists.intro 1 (Exists.intro _ (Exists.intro _ ⟨by decide, hc2, ?_⟩))
        exact h9
      exact ⟨w3, x3, hw3, fun h r1 hp' hR => step _ _ (hA h r1 hp' hR), fun h => step _ _ (hB h)⟩
theorem l_M_rounds {I : Nat → Int32} {F : Nat → Nat → Int32} {n : Nat} {kd du : Nat → Nat} (hb : MBs I F n kd du) (u v : Int64) {hs : Nat → Nat} (r z : Nat) (hr6 : r ≤ 5) (hz : F 5 r = nI z) (hz40 : z ≤ 40) (hc : ∀ i, i < z → F 4 (40 * r + i) = nI (hs i)) (hh : ∀ i, i < z → 1 ≤ hs i ∧ hs i ≤ 7) (y : Int32) (hz1 : 1 ≤ z) : ∀ (j q : Nat) (w : Nat → Int32) (d : Nat → Nat), q + j = 101 → TW n d (F 1) w → apart n d → ∀ x1 x2 : Option Value, ∃ w', (∀ i, i < 2136 → w' i = F 1 i) ∧ Rch cd_M_rounds [31, 40, 102, 131] 4 (some .int) 31 [some (.ref 0), some (.int (nI r)), some (.int y), some (.int (nI q)), x1, x2] [] (mH I (va_up F 1 w) u v) (some (.int (rdS n kd hs z du j q d))) (mH I (va_up F 1 w') u v) := by
  have hkd : kdok n kd := fun i q => (hb.2.2.2.1 i q).2
  intro j
  induction j with
  | zero =>
    intro q w d hq hw ha x1 x2
    refine ⟨w, hw.2, fun Go hG => ?_⟩
    refine hG 200 _ _ _ _ _ _ ?_
    refine br_t (nI_lt (by omega) (by omega)) ?_
    exact ⟨rfl, rfl, rfl, rfl⟩
  | succ j ih =>
    intro q w d hq hw ha x1 x2
    obtain ⟨w1, x3, hw1, hA, hB⟩ := l_M_rthrow hb u v r z hr6 hz hz40 hc hh y q z 0 w d (by omega) hw ha x2
    have ha1 := (thS_ok hkd z 0 d (fun i h1 h2 => hh i (by omega)) ha).1
    unfold rdS
    by_cases hall : (thS n kd hs z 0 d).1 = z
    · rw [if_pos hall]
      obtain ⟨w2, bb, k1, k2, k3, k4⟩ := l_M_back hb u v ha1 [some (.int (nI r)), some (.int y), some (.int (nI q)), some (.int (nI z)), x3] (mnS (thS n kd hs z 0 d).2 n) 0 w1 (by omega) (fun b' hb' => absurd hb' (Nat.not_lt_zero _)) ⟨fun k hk => by rw [hw1.1 k hk]; rfl, hw1.2⟩
      have hlt : apart n (latS bb (thS n kd hs z 0 d).2) := apart_lat ha1 (fun k hk => by have := mnS_le (du := (thS n kd hs z 0 d).2) hk; omega)
      have hasn := x_asNow hb u v k2 hlt
      rw [k3] at hasn
      cases hcm : cmS n (thS n kd hs z 0 d).2 du with
      | true =>
        rw [if_pos rfl]
        rw [hcm] at hasn
        refine ⟨w2, k2.2, fun Go hG => ?_⟩
        have h9 := hA hall _ _ (k4 (some (.int (nI q))) (mH I (va_up F 1 w2) u v) (fun Go hG => by
          refine hG 200 _ _ _ _ _ _ ?_
          refine Exists.intro 0 (Exists.intro _ (Exists.intro _ ⟨by decide, hasn, ?_⟩))
          refine br_f (by decide) ?_
          exact ⟨rfl, rfl, rfl, rfl⟩)) Go hG
        refine hG 200 _ _ _ _ _ _ ?_
        refine br_f (nI_nlt (by omega) (by omega)) ?_
        exact h9
      | false =>
        rw [if_neg (by decide)]
        rw [hcm] at hasn
        obtain ⟨w3, hl3, hR3⟩ := ih (q + 1) w2 _ (by omega) k2 hlt (some (.int (nI z))) x3
        rw [rdS_lat hb.2.2.1 ha1.1 k1 hz1] at hR3
        refine ⟨w3, hl3, fun Go hG => ?_⟩
        have h9 := hA hall _ _ (k4 _ (mH I (va_up F 1 w3) u v) (fun Go hG => by
          have h8 := hR3 Go hG
          rw [← nI_s1 q] at h8
          refine hG 200 _ _ _ _ _ _ ?_
          refine Exists.intro 0 (Exists.intro _ (Exists.intro _ ⟨by decide, hasn, ?_⟩))
          refine br_t rfl ?_
          exact h8)) Go hG
        refine hG 200 _ _ _ _ _ _ ?_
        refine br_f (nI_nlt (by omega) (by omega)) ?_
        exact h9
    · rw [if_neg hall]
      refine ⟨w1, hw1.2, fun Go hG => ?_⟩
      have h9 := hB hall Go hG
      refine hG 200 _ _ _ _ _ _ ?_
      refine br_f (nI_nlt (by omega) (by omega)) ?_
      exact h9

theorem pm_M_rounds (S : Sta) (hp : List Am_C) (hRM : RM S hp) (r : Int32) : ∃ hp', Am_Ev false 4 0 0 184 [.ref 0, .int r] hp (some (.int (spRounds S r).1)) hp' ∧ RM (spRounds S r).2 hp' := by
  obtain ⟨I, F, rfl, hx⟩ := hRM
  obtain ⟨hs, hr, ht, hl⟩ := id hx
  obtain ⟨g1, g2, g3, g4, g5, g6⟩ := hs
  have hI : I 2 = nI (eN S) := g1
  have hn : eN S ≤ 6 := g2
  unfold spRounds
  by_cases hn0 : eN S = 0
  · rw [if_pos hn0]
    refine ⟨_, am_ev 6 (some .int) false [31, 40, 102, 131] ok_M_rounds am_mP_184 (by rw [am_m_184]) (by rw [am_m_184]) (fun h => by cases h) (Nat.le_of_ble_eq_true rfl) (fun Go hG => ?_), RM_of hx⟩
    refine hG 200 _ _ _ _ _ _ ?_
    refine bn_f (by rw [hI, hn0]; rfl) ?_
    exact ⟨rfl, rfl, rfl, rfl⟩
  · rw [if_neg hn0]
    have hI0 : ¬ I 2 = 0 := by rw [hI]; exact fun q => hn0 ((nI_z (by omega)).mp q)
    have hwr := c_M_wrongHeights hx r 1 20 (by decide) (by decide)
    have hor := wrHc_or S r 1 20
    unfold refS
    by_cases hc0 : wrHc S r 1 20 = 0
    · rw [if_pos hc0]
      obtain ⟨c1, c2, c3, c4⟩ := wrHc_0 hc0 (by decide) (by decide)
      obtain ⟨z1, z2, z3⟩ := wrHc_sz c3 (by decide) (by decide)
      rw [hc0] at hwr
      obtain ⟨j, -, hj, rfl⟩ := in3_nat (by decide) (by decide) c1
      rw [nat_nI (by omega)] at c2 c3 c4 z1 z2 z3
      obtain ⟨q1, q2, q3⟩ := hr j (by omega)
      have q1' : F 5 j = rz S j := q1
      have hb := MBs_of hx hn0
      have hcc : ∀ i, i < nat (rz S j) → F 4 (40 * j + i) = nI (hsN (rc S j) i) := fun i hi => by
        rw [q3 i hi]
        exact (okH_nat (allH_at c4 hi)).1
      have hhh : ∀ i, i < nat (rz S j) → 1 ≤ hsN (rc S j) i ∧ hsN (rc S j) i ≤ 7 := fun i hi => (okH_nat (allH_at c4 hi)).2
      have hz : F 5 j = nI (nat (rz S j)) := by rw [q1']; exact z3
      obtain ⟨w1, hb1, hw1⟩ := x_begin hb S.2.2.2.2.2.2.1 S.2.2.2.2.2.2.2 (w := F 1) (fun _ _ => rfl)
      rw [va_up_same] at hb1
      rw [nat_nI (by omega)]
      obtain ⟨w2, hw2, hR⟩ := l_M_rounds hb S.2.2.2.2.2.2.1 S.2.2.2.2.2.2.2 j (nat (rz S j)) hj hz (by omega) hcc hhh (nI 0) z1 100 1 w1 _ (by omega) hw1 hb.2.2.2.2.2 none none
      refine ⟨_, am_ev 6 (some .int) false [31, 40, 102, 131] ok_M_rounds am_mP_184 (by rw [am_m_184]) (by rw [am_m_184]) (fun h => by cases h) (Nat.le_of_ble_eq_true rfl) (fun Go hG => ?_), RM_of (RMx_try hx hw2)⟩
      refine hG 200 _ _ _ _ _ _ ?_
      refine bn_t hI0 ?_
      refine Exists.intro 2 (Exists.intro _ (Exists.intro _ ⟨by decide, hwr, ?_⟩))
      refine br_t (by decide) ?_
      refine Exists.intro 1 (Exists.intro _ (Exists.intro _ ⟨by decide, hb1, ?_⟩))
      exact hR Go hG
    · rw [if_neg hc0]
      refine ⟨_, am_ev 6 (some .int) false [31, 40, 102, 131] ok_M_rounds am_mP_184 (by rw [am_m_184]) (by rw [am_m_184]) (fun h => by cases h) (Nat.le_of_ble_eq_true rfl) (fun Go hG => ?_), RM_fd hx hc0 hor⟩
      refine hG 200 _ _ _ _ _ _ ?_
      refine bn_t hI0 ?_
      refine Exists.intro 2 (Exists.intro _ (Exists.intro _ ⟨by decide, hwr, ?_⟩))
      refine br_f (wrV_neg hc0).1 ?_
      exact ⟨rfl, rfl, rfl, rfl⟩

