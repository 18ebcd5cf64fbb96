/-! ===== the class: odds, mid ===== -/
theorem c_T_refusalOfChances {I : Nat → Int32} {F : Nat → Nat → Int32} {S : Sta} (hx : RCx I F S) (hn0 : ¬ eN S = 0) (r p : Int32) : Am_Ev false 3 0 0 110 [.ref 0, .int r, .int p] (cH I F S.2.2.2.2.2.2.1 S.2.2.2.2.2.2.2) (some (.int (wrV (wrCc S r p)))) (cFd I F S.2.2.2.2.2.2.1 S.2.2.2.2.2.2.2 (wrCc S r p)) := by
  obtain ⟨hI, hn, -, -⟩ := CBs_of hx hn0
  have hI0 : ¬ I 22 = 0 := by rw [hI]; exact fun q => hn0 ((nI_z (by omega)).mp q)
  unfold wrCc
  cases ho : in3 p (nI 0) (nI 12) with
  | false =>
    rw [if_pos rfl]
    refine am_ev 3 (some .int) false [] ok_T_refusalOfChances am_mP_110 (by rw [am_m_110]) (by rw [am_m_110]) (fun h => by cases h) (Nat.le_of_ble_eq_true rfl) (fun Go hG => ?_)
    refine hG 200 _ _ _ _ _ _ ?_
    refine br_f hI0 ?_
    refine And.intro (fun h1 => ?_) (fun h1 => And.intro (fun h2 => ?_) (fun h2 => ?_))
    · exact ⟨rfl, rfl, rfl, rfl⟩
    · unfold in3 at ho
      rw [decide_eq_true (show nI 0 ≤ p from Int32.not_lt.mp h1), decide_eq_true h2] at ho
      cases ho
    · exact ⟨rfl, rfl, rfl, rfl⟩
  | true =>
    rw [if_neg (by decide)]
    unfold in3 at ho
    rw [Bool.and_eq_true, decide_eq_true_eq, decide_eq_true_eq] at ho
    refine am_ev 3 (some .int) false [] ok_T_refusalOfChances am_mP_110 (by rw [am_m_110]) (by rw [am_m_110]) (fun h => by cases h) (Nat.le_of_ble_eq_true rfl) (fun Go hG => ?_)
    refine hG 200 _ _ _ _ _ _ ?_
    refine br_f hI0 ?_
    refine br_f (Int32.not_lt.mpr ho.1) ?_
    refine br_t ho.2 ?_
    refine Exists.intro 2 (Exists.intro _ (Exists.intro _ ⟨by decide, c_T_refusalOfThrows hx hn0 r 1 6 (by decide) (by decide), ?_⟩))
    exact ⟨rfl, rfl, rfl, rfl⟩

theorem c_C_weight (hp : List Am_C) (z : Nat) (hz : z ≤ 6) : Am_Ev false 0 0 0 113 [.int (nI z)] (hp) (some (.long (lN (12 ^ z)))) (hp) := by
  refine am_ev 4 (some .long) false [4] ok_C_weight am_mP_113 (by rw [am_m_113]) (by rw [am_m_113]) (fun h => by cases h) (Nat.le_of_ble_eq_true rfl) ?_
  intro Go hG
  have L : ∀ (j k : Nat), k + j = z → Go 4 [some (.int (nI z)), some (.long (lN (12 ^ k))), none, some (.int (nI k))] [] hp 0 0 := by
    intro j
    induction j with
    | zero =>
      intro k hk
      refine hG 200 _ _ _ _ _ _ ?_
      refine br_t (nI_le (by omega) (by omega)) ?_
      exact ⟨by rw [show k = z by omega], rfl, rfl, rfl⟩
    | succ j ih =>
      intro k hk
      have h9 := ih (k + 1) (by omega)
      rw [← nI_s1 k, Nat.pow_succ, ← lN_mul] at h9
      refine hG 200 _ _ _ _ _ _ ?_
      refine br_f (nI_ge (by omega) (by omega)) ?_
      exact h9
  refine hG 200 _ _ _ _ _ _ ?_
  exact L z 0 (by omega)

theorem y_weightFrom {I : Nat → Int32} {F : Nat → Nat → Int32} {n : Nat} {kd : Nat → Nat} (hb : CBs I F n kd) (u v : Int64) {hs : Nat → Nat} (r z : Nat) (hr6 : r ≤ 5) (hz : I (60 + r) = nI z) (hz6 : z ≤ 6) (hc : ∀ i, i < z → F (19 + 2 * r) i = nI (hs i)) (hh : ∀ i, i < z → 1 ≤ hs i ∧ hs i ≤ 7) (p : Nat) (hp : p ≤ 12) (each : Bool) : ∀ (j k : Nat) (d : Nat → Nat), k + j = z → apart n d → Am_Ev false (3 + j) 0 0 112 [.ref 16, .int (nI (pkN d n)), .ref (18 + 2 * r), .int (nI k), .int (nI p), .int (b2 each)] (cH I F u v) (some (.long (lN (wtS n kd hs p each j k d)))) (cH I F u v) := by
  have E1 : (cH I F u v)[18 + 2 * r]? = some (.inr (4, [.ref (19 + 2 * r), .int (nI z)])) := by rw [cH_row (by omega), hz]
  have E2 : (cH I F u v)[19 + 2 * r]? = some (.inl (0, 40, .inl (F (19 + 2 * r)))) := cH_rowc (by omega)
  have hkd : kdok n kd := fun i q => (hb.2.2.2 i q).2
  intro j
  induction j with
  | zero =>
    intro k d hk ha
    refine am_ev 13 (some .long) false [54, 79, 131] ok_C_weightFrom am_mP_112 (by rw [am_m_112]) (by rw [am_m_112]) (fun h => by cases h) (Nat.le_of_ble_eq_true rfl) (fun Go hG => ?_)
    refine hG 200 _ _ _ _ _ _ ?_
    refine am_ob_of E1 ?_
    refine br_t (nI_le (by omega) (by omega)) ?_
    cases each with
    | true =>
      refine br_f (by decide) ?_
      exact ⟨rfl, rfl, rfl, rfl⟩
    | false =>
      refine br_t rfl ?_
      exact ⟨rfl, rfl, rfl, rfl⟩
  | succ j ih =>
    intro k d hk ha
    have hck := hc k (by omega)
    have hhk := hh k (by omega)
    have hcap := cap7_ok (h := hs k + 1) (by omega)
    have har := apart_rst ha
    have emin : (if nI 7 < nI (hs k) + nI 1 then nI 7 else nI (hs k) + nI 1) = nI (cap7 (hs k + 1)) := by
      rw [nI_s1]
      unfold cap7
      by_cases h8 : hs k + 1 ≤ 7
      · rw [if_pos h8, if_neg (nI_nlt (by omega) (by omega))]
      · rw [if_neg h8, if_pos (nI_lt (by omega) (by omega))]
    have ej : nI z - nI k - nI 1 = nI j := by rw [pk_sub (by omega), pk_sub (by omega), show z - k - 1 = j by omega]
    have ewt : (wtS n kd hs p each (j + 1) k d) = (if mayS n kd (rstS n d) (nI (hs k)) = true then (12 - p) * ((eaN each * 12 ^ j) + (wtS n kd hs p each j (k + 1) (tosS n kd (rstS n d) (hs k)))) else 0) + (if mayS n kd (rstS n d) (nI (cap7 (hs k + 1))) = true then p * ((eaN each * 12 ^ j) + (wtS n kd hs p each j (k + 1) (tosS n kd (rstS n d) (cap7 (hs k + 1))))) else 0) := rfl
    have eA0 : mayS n kd (rstS n d) (nI (hs k)) = true → lN (if mayS n kd (rstS n d) (nI (hs k)) = true then (12 - p) * ((eaN each * 12 ^ j) + (wtS n kd hs p each j (k + 1) (tosS n kd (rstS n d) (hs k)))) else 0) = lN 0 + (nI 12 - nI p).toInt64 * (lN (eaN each * 12 ^ j) + lN (wtS n kd hs p each j (k + 1) (tosS n kd (rstS n d) (hs k)))) := by
      intro h
      rw [if_pos h, pk_sub hp, nI_l (by omega), lN_add, lN_mul, lN_add, Nat.zero_add]
    refine am_ev 13 (some .long) false [54, 79, 131] ok_C_weightFrom am_mP_112 (by rw [am_m_112]) (by rw [am_m_112]) (fun h => by cases h) (Nat.le_of_ble_eq_true rfl) (fun Go hG => ?_)
    have S131 : Go 131 [some (.ref 16), some (.int (nI (pkN d n))), some (.ref (18 + 2 * r)), some (.int (nI k)), some (.int (nI p)), some (.int (b2 each)), some (.int (nI (pkN (rstS n d) n))), some (.int (nI (hs k))), some (.int (nI (cap7 (hs k + 1)))), some (.long (lN (eaN each * 12 ^ j))), none, some (.long (lN (if mayS n kd (rstS n d) (nI (hs k)) = true then (12 - p) * ((eaN each * 12 ^ j) + (wtS n kd hs p each j (k + 1) (tosS n kd (rstS n d) (hs k)))) else 0))), none] [] (cH I F u v) 0 0 := by
      have hm1 := y_may hb u v har (cap7 (hs k + 1)) hcap
      cases hmm : mayS n kd (rstS n d) (nI (cap7 (hs k + 1))) with
      | false =>
        rw [hmm] at hm1
        refine hG 200 _ _ _ _ _ _ ?_
        refine Exists.intro (2) (Exists.intro _ (Exists.intro _ ⟨by omega, hm1, ?_⟩))
        refine br_t rfl ?_
        exact ⟨by rw [ewt, hmm, if_neg (c := false = true) (by decide)]; rfl, rfl, rfl, rfl⟩
      | true =>
        rw [hmm] at hm1
        have ht1 := y_thrown hb u v har (cap7 (hs k + 1)) hcap hmm
        have hrec := ih (k + 1) (tosS n kd (rstS n d) (cap7 (hs k + 1))) (by omega) (apart_tos har hkd hcap hmm)
        rw [← nI_s1 k] at hrec
        refine hG 200 _ _ _ _ _ _ ?_
        refine Exists.intro (2) (Exists.intro _ (Exists.intro _ ⟨by omega, hm1, ?_⟩))
        refine br_f (by decide) ?_
        refine Exists.intro (2) (Exists.intro _ (Exists.intro _ ⟨by omega, ht1, ?_⟩))
        refine Exists.intro (3 + j) (Exists.intro _ (Exists.intro _ ⟨by omega, hrec, ?_⟩))
        exact ⟨by rw [nI_l (n := p) (by omega), lN_add, lN_mul, lN_add, ewt, hmm, if_pos (c := true = true) rfl], rfl, rfl, rfl⟩
    have S79 : Go 79 [some (.ref 16), some (.int (nI (pkN d n))), some (.ref (18 + 2 * r)), some (.int (nI k)), some (.int (nI p)), some (.int (b2 each)), some (.int (nI (pkN (rstS n d) n))), some (.int (nI (hs k))), some (.int (nI (cap7 (hs k + 1)))), some (.long (lN (eaN each * 12 ^ j))), none, some (.long (lN 0)), none] [] (cH I F u v) 0 0 := by
      have hm0 := y_may hb u v har (hs k) hhk
      cases hmm : mayS n kd (rstS n d) (nI (hs k)) with
      | false =>
        rw [hmm] at hm0
        rw [hmm, if_neg (by decide)] at S131
        refine hG 200 _ _ _ _ _ _ ?_
        refine Exists.intro (2) (Exists.intro _ (Exists.intro _ ⟨by omega, hm0, ?_⟩))
        refine br_t rfl ?_
        exact S131
      | true =>
        rw [hmm] at hm0
        rw [eA0 hmm] at S131
        have ht0 := y_thrown hb u v har (hs k) hhk hmm
        have hrec := ih (k + 1) (tosS n kd (rstS n d) (hs k)) (by omega) (apart_tos har hkd hhk hmm)
        rw [← nI_s1 k] at hrec
        refine hG 200 _ _ _ _ _ _ ?_
        refine Exists.intro (2) (Exists.intro _ (Exists.intro _ ⟨by omega, hm0, ?_⟩))
        refine br_f (by decide) ?_
        refine Exists.intro (2) (Exists.intro _ (Exists.intro _ ⟨by omega, ht0, ?_⟩))
        refine Exists.intro (3 + j) (Exists.intro _ (Exists.intro _ ⟨by omega, hrec, ?_⟩))
        exact S131
    refine hG 200 _ _ _ _ _ _ ?_
    refine am_ob_of E1 ?_
    refine br_f (nI_ge (by omega) (by omega)) ?_
    refine br_t (nI_lt (by omega) (by omega)) ?_
    refine Exists.intro (2) (Exists.intro _ (Exists.intro _ ⟨by omega, y_rested hb u v ha, ?_⟩))
    refine am_ob_of E1 ?_
    refine am_ai_of E2 rfl ?_
    refine Exists.intro k ⟨by omega, rfl, ?_⟩
    rw [hck]
    show Go 54 [some (.ref 16), some (.int (nI (pkN d n))), some (.ref (18 + 2 * r)), some (.int (nI k)), some (.int (nI p)), some (.int (b2 each)), some (.int (nI (pkN (rstS n d) n))), some (.int (nI (hs k))), some (.int (if nI 7 < nI (hs k) + nI 1 then nI 7 else nI (hs k) + nI 1)), none, none, none, none] [] (cH I F u v) 0 0
    rw [emin]
    refine hG 200 _ _ _ _ _ _ ?_
    cases each with
    | true =>
      refine br_f (by decide) ?_
      refine am_ob_of E1 ?_
      have hcw := c_C_weight (cH I F u v) j (by omega)
      rw [← ej] at hcw
      refine Exists.intro (0) (Exists.intro _ (Exists.intro _ ⟨by omega, hcw, ?_⟩))
      rw [show eaN true * 12 ^ j = 12 ^ j by show 1 * 12 ^ j = _; omega] at S79
      exact S79
    | false =>
      refine br_t rfl ?_
      rw [show eaN false * 12 ^ j = 0 by show 0 * 12 ^ j = _; rw [Nat.zero_mul]] at S79
      exact S79

theorem y_weightOfAll {I : Nat → Int32} {F : Nat → Nat → Int32} {n : Nat} {kd : Nat → Nat} (hb : CBs I F n kd) (u v : Int64) {hs : Nat → Nat} (r z : Nat) (hr6 : r ≤ 5) (hz : I (60 + r) = nI z) (hz6 : z ≤ 6) (hc : ∀ i, i < z → F (19 + 2 * r) i = nI (hs i)) (hh : ∀ i, i < z → 1 ≤ hs i ∧ hs i ≤ 7) (p : Nat) (hp : p ≤ 12) {d : Nat → Nat} (ha : apart n d) : Am_Ev false 10 0 0 111 [.ref 16, .int (nI (pkN d n)), .ref (18 + 2 * r), .int (nI p)] (cH I F u v) (some (.long (lN (wtS n kd hs p false z 0 d)))) (cH I F u v) := by
  refine am_ev 4 (some .long) false [] ok_C_weightOfAll am_mP_111 (by rw [am_m_111]) (by rw [am_m_111]) (fun h => by cases h) (Nat.le_of_ble_eq_true rfl) (fun Go hG => ?_)
  refine hG 200 _ _ _ _ _ _ ?_
  refine Exists.intro (3 + z) (Exists.intro _ (Exists.intro _ ⟨by omega, y_weightFrom hb u v r z hr6 hz hz6 hc hh p hp false z 0 d (by omega) ha, ?_⟩))
  exact ⟨rfl, rfl, rfl, rfl⟩

theorem y_weightOfMade {I : Nat → Int32} {F : Nat → Nat → Int32} {n : Nat} {kd : Nat → Nat} (hb : CBs I F n kd) (u v : Int64) {hs : Nat → Nat} (r z : Nat) (hr6 : r ≤ 5) (hz : I (60 + r) = nI z) (hz6 : z ≤ 6) (hc : ∀ i, i < z → F (19 + 2 * r) i = nI (hs i)) (hh : ∀ i, i < z → 1 ≤ hs i ∧ hs i ≤ 7) (p : Nat) (hp : p ≤ 12) {d : Nat → Nat} (ha : apart n d) : Am_Ev false 10 0 0 115 [.ref 16, .int (nI (pkN d n)), .ref (18 + 2 * r), .int (nI p)] (cH I F u v) (some (.long (lN (wtS n kd hs p true z 0 d)))) (cH I F u v) := by
  refine am_ev 4 (some .long) false [] ok_C_weightOfMade am_mP_115 (by rw [am_m_115]) (by rw [am_m_115]) (fun h => by cases h) (Nat.le_of_ble_eq_true rfl) (fun Go hG => ?_)
  refine hG 200 _ _ _ _ _ _ ?_
  refine Exists.intro (3 + z) (Exists.intro _ (Exists.intro _ ⟨by omega, y_weightFrom hb u v r z hr6 hz hz6 hc hh p hp true z 0 d (by omega) ha, ?_⟩))
  exact ⟨rfl, rfl, rfl, rfl⟩

theorem c_T_sharedDivisor (hp : List Am_C) (a b : Nat) (ha : a < 2 ^ 31) (hb : b < 2 ^ 31) : Am_Ev false 0 0 0 94 [.long (lN a), .long (lN b)] (hp) (some (.long (lN (Nat.gcd a b)))) (hp) := by
  refine am_ev 11 (some .long) false [9] ok_T_sharedDivisor am_mP_94 (by rw [am_m_94]) (by rw [am_m_94]) (fun h => by cases h) (Nat.le_of_ble_eq_true rfl) ?_
  intro Go hG
  have L : ∀ (i s x y : Nat), y < x → x < 2 ^ i → i ≤ 32 → s + 2 * i ≤ 127 → Nat.gcd x y = Nat.gcd a b → ∀ q1 q2 : Option Value, Go 9 [some (.long (lN a)), none, some (.long (lN b)), none, some (.long (lN x)), none, some (.long (lN y)), none, some (.int (nI s)), q1, q2] [] hp 0 0 := by
    intro i
    induction i with
    | zero => intro s x y h1 h2; simp at h2; omega
    | succ i ih =>
      intro s x y h1 h2 hi hs hg q1 q2
      have hp32 : (2 : Nat) ^ (i + 1) ≤ 2 ^ 32 := Nat.pow_le_pow_right (by decide) hi
      have h32 : (2 : Nat) ^ 32 = 4294967296 := by decide
      by_cases hy0 : y = 0
      · refine hG 200 _ _ _ _ _ _ ?_
        refine br_f (nI_ge (by omega) (by omega)) ?_
        refine br_t ((cmp0 (by omega)).mpr hy0) ?_
        exact ⟨by rw [← hg, hy0, Nat.gcd_zero_right], rfl, rfl, rfl⟩
      · have hm : x % y < y := Nat.mod_lt _ (by omega)
        have hh : 2 * (x % y) < x := by
          have h3 := Nat.div_add_mod x y
          have h4 : 1 ≤ x / y := (Nat.le_div_iff_mul_le (by omega)).mpr (by omega)
          have h5 : y * 1 ≤ y * (x / y) := Nat.mul_le_mul_left y h4
          omega
        have hg1 : Nat.gcd y (x % y) = Nat.gcd a b := by rw [← hg, Nat.gcd_comm y, ← Nat.gcd_rec, Nat.gcd_comm]
        have step : Go 9 [some (.long (lN a)), none, some (.long (lN b)), none, some (.long (lN y)), none, some (.long (lN (x % y))), none, some (.int (nI (s + 1))), some (.long (lN (x % y))), none] [] hp 0 0 := by
          by_cases hr0 : x % y = 0
          · refine hG 200 _ _ _ _ _ _ ?_
            refine br_f (nI_ge (by omega) (by omega)) ?_
            refine br_t ((cmp0 (by omega)).mpr hr0) ?_
            exact ⟨by rw [← hg1, hr0, Nat.gcd_zero_right], rfl, rfl, rfl⟩
          · have hm2 : y % (x % y) < x % y := Nat.mod_lt _ (by omega)
            have hg2 : Nat.gcd (x % y) (y % (x % y)) = Nat.gcd a b := by rw [← hg1, Nat.gcd_comm (x % y), ← Nat.gcd_rec, Nat.gcd_comm]
            have h9 := ih (s + 2) (x % y) (y % (x % y)) hm2 (by rw [Nat.pow_succ] at h2; omega) (by omega) (by omega) hg2 (some (.long (lN (y % (x % y))))) none
            rw [show s + 2 = s + 1 + 1 from rfl, ← nI_s1 (s + 1), ← pk_lRem (a := y) (b := x % y) (by omega) (by omega) (by omega)] at h9
            refine hG 200 _ _ _ _ _ _ ?_
            refine br_f (nI_ge (by omega) (by omega)) ?_
            refine br_f (fun q => hr0 ((cmp0 (by omega)).mp q)) ?_
            refine And.intro (fun q => hr0 ((pk_lEQ (b := 0) (by omega) (by omega)).mp q)) ?_
            exact h9
        rw [← nI_s1 s, ← pk_lRem (a := x) (b := y) (by omega) (by omega) (by omega)] at step
        refine hG 200 _ _ _ _ _ _ ?_
        refine br_f (nI_ge (by omega) (by omega)) ?_
        refine br_f (fun q => hy0 ((cmp0 (by omega)).mp q)) ?_
        refine And.intro (fun q => hy0 ((pk_lEQ (b := 0) (by omega) (by omega)).mp q)) ?_
        exact step
  refine hG 200 _ _ _ _ _ _ ?_
  show Go 9 [some (.long (lN a)), none, some (.long (lN b)), none, some (.long (lN b)), none, some (.long (lN a)), none, some (.int (nI 0)), none, none] [] hp 0 0
  by_cases ha0 : a = 0
  · refine hG 200 _ _ _ _ _ _ ?_
    refine br_f (by decide) ?_
    refine br_t ((cmp0 (by omega)).mpr ha0) ?_
    exact ⟨by rw [ha0, Nat.gcd_zero_left], rfl, rfl, rfl⟩
  · have hm : b % a < a := Nat.mod_lt _ (by omega)
    have h9 := L 32 1 a (b % a) hm (by omega) (by omega) (by omega) (by rw [Nat.gcd_comm a, ← Nat.gcd_rec]) (some (.long (lN (b % a)))) none
    rw [← pk_lRem (a := b) (b := a) (by omega) (by omega) (by omega)] at h9
    refine hG 200 _ _ _ _ _ _ ?_
    refine br_f (by decide) ?_
    refine br_f (fun q => ha0 ((cmp0 (by omega)).mp q)) ?_
    refine And.intro (fun q => ha0 ((pk_lEQ (b := 0) (by omega) (by omega)).mp q)) ?_
    exact h9

theorem c_T_tellRatio (I : Nat → Int32) (F : Nat → Nat → Int32) (u v : Int64) (a b : Nat) (ha : a < 2 ^ 31) (hb : b < 2 ^ 31) (hb0 : 0 < b) : Am_Ev false 1 0 0 93 [.ref 0, .long (lN a), .long (lN b)] (cH I F u v) (some (.int (nI 1))) (cH I F (lN (a / Nat.gcd a b)) (lN (b / Nat.gcd a b))) := by
  refine am_ev 7 (some .int) false [] ok_T_tellRatio am_mP_93 (by rw [am_m_93]) (by rw [am_m_93]) (fun h => by cases h) (Nat.le_of_ble_eq_true rfl) ?_
  intro Go hG
  have hg : 0 < Nat.gcd a b := Nat.gcd_pos_of_pos_right a hb0
  have hgb : Nat.gcd a b ≤ b := Nat.le_of_dvd hb0 (Nat.gcd_dvd_right a b)
  refine hG 200 _ _ _ _ _ _ ?_
  refine Exists.intro 0 (Exists.intro _ (Exists.intro _ ⟨by decide, c_T_sharedDivisor _ a b ha hb, ?_⟩))
  refine br_t ((lg_cmp_gt _ _).mpr ((pk_lLT (a := 0) (by omega) (by omega)).mpr hg)) ?_
  refine And.intro (fun q => by have := (pk_lEQ (a := Nat.gcd a b) (b := 0) (by omega) (by omega)).mp q; omega) ?_
  refine And.intro (fun q => by have := (pk_lEQ (a := Nat.gcd a b) (b := 0) (by omega) (by omega)).mp q; omega) ?_
  rw [pk_lDiv (by omega) hg (by omega), pk_lDiv (by omega) hg (by omega)]
  exact ⟨rfl, rfl, rfl, rfl⟩

theorem pc_T_odds (S : Sta) (hp : List Am_C) (hRM : RC S hp) (r p : Int32) : ∃ hp', Am_Ev false 11 0 0 109 [.ref 0, .int r, .int p] hp (some (.int (spChance S r p false).1)) hp' ∧ RC (spChance S r p false).2 hp' := by
  obtain ⟨I, F, rfl, hx⟩ := hRM
  obtain ⟨hs, hr, ht, hl⟩ := id hx
  have hI : I 22 = nI (eN S) := hs.1
  unfold spChance
  by_cases hn0 : eN S = 0
  · rw [if_pos hn0]
    have hrt : Am_Ev false 2 0 0 77 [.ref 0, .int r, .int (nI 1), .int (nI 6)] (cH I F S.2.2.2.2.2.2.1 S.2.2.2.2.2.2.2) (some (.int (-nI 4))) (cH I F S.2.2.2.2.2.2.1 S.2.2.2.2.2.2.2) := by
      refine am_ev 7 (some .int) false [63] ok_T_refusalOfThrows am_mP_77 (by rw [am_m_77]) (by rw [am_m_77]) (fun h => by cases h) (Nat.le_of_ble_eq_true rfl) (fun Go hG => ?_)
      refine hG 200 _ _ _ _ _ _ ?_
      refine bn_f (by rw [hI, hn0]; rfl) ?_
      exact ⟨rfl, rfl, rfl, rfl⟩
    have hrf : Am_Ev false 3 0 0 110 [.ref 0, .int r, .int p] (cH I F S.2.2.2.2.2.2.1 S.2.2.2.2.2.2.2) (some (.int (-nI 4))) (cH I F S.2.2.2.2.2.2.1 S.2.2.2.2.2.2.2) := by
      refine am_ev 3 (some .int) false [] ok_T_refusalOfChances am_mP_110 (by rw [am_m_110]) (by rw [am_m_110]) (fun h => by cases h) (Nat.le_of_ble_eq_true rfl) (fun Go hG => ?_)
      refine hG 200 _ _ _ _ _ _ ?_
      refine br_t (by rw [hI, hn0]; rfl) ?_
      refine Exists.intro 2 (Exists.intro _ (Exists.intro _ ⟨by decide, hrt, ?_⟩))
      exact ⟨rfl, rfl, rfl, rfl⟩
    refine ⟨_, am_ev 6 (some .int) false [] ok_T_odds am_mP_109 (by rw [am_m_109]) (by rw [am_m_109]) (fun h => by cases h) (Nat.le_of_ble_eq_true rfl) (fun Go hG => ?_), RC_of hx⟩
    refine hG 200 _ _ _ _ _ _ ?_
    refine Exists.intro 3 (Exists.intro _ (Exists.intro _ ⟨by decide, hrf, ?_⟩))
    refine br_f (by decide) ?_
    exact ⟨rfl, rfl, rfl, rfl⟩
  · rw [if_neg hn0]
    have hwr := c_T_refusalOfChances hx hn0 r p
    have hor := wrCc_or S r p
    unfold refS
    by_cases hc0 : wrCc S r p = 0
    · rw [if_pos hc0]
      rw [hc0] at hwr
      unfold wrCc at hc0
      by_cases hpo : in3 p (nI 0) (nI 12) = false
      · rw [if_pos hpo] at hc0; omega
      rw [if_neg hpo] at hc0
      obtain ⟨p, hp0, hp12, rfl⟩ := in3_nat (by decide) (by decide) (bt hpo)
      obtain ⟨c1, c2, c3, c4⟩ := wrHc_0 hc0 (by decide) (by decide)
      obtain ⟨z1, z2, z3⟩ := wrHc_sz c3 (by decide) (by decide)
      obtain ⟨j, -, hj, rfl⟩ := in3_nat (by decide) (by decide) c1
      rw [nat_nI (by omega)] at c2 c3 c4 z1 z2 z3
      rw [nat_nI (by omega), nat_nI (by omega)]
      obtain ⟨q1, q2, q3⟩ := hr j (by omega)
      have q1' : I (60 + j) = rz S j := q1
      have hb := CBs_of hx hn0
      have hcc : ∀ i, i < nat (rz S j) → F (19 + 2 * j) i = nI (hsN (rc S j) i) := fun i hi => by
        rw [q3 i hi]
        exact (okH_nat (allH_at c4 hi)).1
      have hhh : ∀ i, i < nat (rz S j) → 1 ≤ hsN (rc S j) i ∧ hsN (rc S j) i ≤ 7 := fun i hi => (okH_nat (allH_at c4 hi)).2
      have hz : I (60 + j) = nI (nat (rz S j)) := by rw [q1']; exact z3
      have hap : apart (eN S) (duE (eE S)) := hs.2.2.2.2.1 _ (Nat.le_refl _)
      have h30 : I 30 = nI (pkN (duE (eE S)) (eN S)) := hs.2.2.2.1.2.2.1
      have hw := y_weightOfAll hb S.2.2.2.2.2.2.1 S.2.2.2.2.2.2.2 j (nat (rz S j)) hj hz z2 hcc hhh p hp12 hap
      rw [← h30] at hw
      have htr := c_T_tellRatio I F S.2.2.2.2.2.2.1 S.2.2.2.2.2.2.2 (wtS (eN S) (eK S) (hsN (rc S j)) p false (nat (rz S j)) 0 (duE (eE S))) (12 ^ nat (rz S j)) (wt_lt hp12 z2 _) (pw_lt z2).2 (pw_lt z2).1
      have hcw := c_C_weight (cH I F S.2.2.2.2.2.2.1 S.2.2.2.2.2.2.2) (nat (rz S j)) z2
      rw [← hz] at hcw
      refine ⟨_, am_ev 6 (some .int) false [] ok_T_odds am_mP_109 (by rw [am_m_109]) (by rw [am_m_109]) (fun h => by cases h) (Nat.le_of_ble_eq_true rfl) (fun Go hG => ?_), (⟨I, F, rfl, hx⟩ : RC (raS S _ _) _)⟩
      refine hG 200 _ _ _ _ _ _ ?_
      refine Exists.intro 3 (Exists.intro _ (Exists.intro _ ⟨by decide, hwr, ?_⟩))
      refine br_t rfl ?_
      refine Exists.intro j (Exists.intro (18 + 2 * j) ⟨by omega, rfl, rfR_at (by omega), ?_⟩)
      refine Exists.intro 10 (Exists.intro _ (Exists.intro _ ⟨by decide, hw, ?_⟩))
      refine Exists.intro j (Exists.intro (18 + 2 * j) ⟨by omega, rfl, rfR_at (by omega), ?_⟩)
      refine am_ob_of (cH_row (by omega)) ?_
      refine Exists.intro 0 (Exists.intro _ (Exists.intro _ ⟨by decide, hcw, ?_⟩))
      refine Exists.intro 1 (Exists.intro _ (Exists.intro _ ⟨by decide, htr, ?_⟩))
      exact ⟨rfl, rfl, rfl, rfl⟩
    · rw [if_neg hc0]
      refine ⟨_, am_ev 6 (some .int) false [] ok_T_odds am_mP_109 (by rw [am_m_109]) (by rw [am_m_109]) (fun h => by cases h) (Nat.le_of_ble_eq_true rfl) (fun Go hG => ?_), RC_fd hx hc0 hor⟩
      refine hG 200 _ _ _ _ _ _ ?_
      refine Exists.intro 3 (Exists.intro _ (Exists.intro _ ⟨by decide, hwr, ?_⟩))
      refine br_f (wrV_neg hc0).2 ?_
      exact ⟨rfl, rfl, rfl, rfl⟩

theorem pc_T_mid (S : Sta) (hp : List Am_C) (hRM : RC S hp) (r p : Int32) : ∃ hp', Am_Ev false 11 0 0 114 [.ref 0, .int r, .int p] hp (some (.int (spChance S r p true).1)) hp' ∧ RC (spChance S r p true).2 hp' := by
  obtain ⟨I, F, rfl, hx⟩ := hRM
  obtain ⟨hs, hr, ht, hl⟩ := id hx
  have hI : I 22 = nI (eN S) := hs.1
  unfold spChance
  by_cases hn0 : eN S = 0
  · rw [if_pos hn0]
    have hrt : Am_Ev false 2 0 0 77 [.ref 0, .int r, .int (nI 1), .int (nI 6)] (cH I F S.2.2.2.2.2.2.1 S.2.2.2.2.2.2.2) (some (.int (-nI 4))) (cH I F S.2.2.2.2.2.2.1 S.2.2.2.2.2.2.2) := by
      refine am_ev 7 (some .int) false [63] ok_T_refusalOfThrows am_mP_77 (by rw [am_m_77]) (by rw [am_m_77]) (fun h => by cases h) (Nat.le_of_ble_eq_true rfl) (fun Go hG => ?_)
      refine hG 200 _ _ _ _ _ _ ?_
      refine bn_f (by rw [hI, hn0]; rfl) ?_
      exact ⟨rfl, rfl, rfl, rfl⟩
    have hrf : Am_Ev false 3 0 0 110 [.ref 0, .int r, .int p] (cH I F S.2.2.2.2.2.2.1 S.2.2.2.2.2.2.2) (some (.int (-nI 4))) (cH I F S.2.2.2.2.2.2.1 S.2.2.2.2.2.2.2) := by
      refine am_ev 3 (some .int) false [] ok_T_refusalOfChances am_mP_110 (by rw [am_m_110]) (by rw [am_m_110]) (fun h => by cases h) (Nat.le_of_ble_eq_true rfl) (fun Go hG => ?_)
      refine hG 200 _ _ _ _ _ _ ?_
      refine br_t (by rw [hI, hn0]; rfl) ?_
      refine Exists.intro 2 (Exists.intro _ (Exists.intro _ ⟨by decide, hrt, ?_⟩))
      exact ⟨rfl, rfl, rfl, rfl⟩
    refine ⟨_, am_ev 6 (some .int) false [] ok_T_mid am_mP_114 (by rw [am_m_114]) (by rw [am_m_114]) (fun h => by cases h) (Nat.le_of_ble_eq_true rfl) (fun Go hG => ?_), RC_of hx⟩
    refine hG 200 _ _ _ _ _ _ ?_
    refine Exists.intro 3 (Exists.intro _ (Exists.intro _ ⟨by decide, hrf, ?_⟩))
    refine br_f (by decide) ?_
    exact ⟨rfl, rfl, rfl, rfl⟩
  · rw [if_neg hn0]
    have hwr := c_T_refusalOfChances hx hn0 r p
    have hor := wrCc_or S r p
    unfold refS
    by_cases hc0 : wrCc S r p = 0
    · rw [if_pos hc0]
      rw [hc0] at hwr
      unfold wrCc at hc0
      by_cases hpo : in3 p (nI 0) (nI 12) = false
      · rw [if_pos hpo] at hc0; omega
      rw [if_neg hpo] at hc0
      obtain ⟨p, hp0, hp12, rfl⟩ := in3_nat (by decide) (by decide) (bt hpo)
      obtain ⟨c1, c2, c3, c4⟩ := wrHc_0 hc0 (by decide) (by decide)
      obtain ⟨z1, z2, z3⟩ := wrHc_sz c3 (by decide) (by decide)
      obtain ⟨j, -, hj, rfl⟩ := in3_nat (by decide) (by decide) c1
      rw [nat_nI (by omega)] at c2 c3 c4 z1 z2 z3
      rw [nat_nI (by omega), nat_nI (by omega)]
      obtain ⟨q1, q2, q3⟩ := hr j (by omega)
      have q1' : I (60 + j) = rz S j := q1
      have hb := CBs_of hx hn0
      have hcc : ∀ i, i < nat (rz S j) → F (19 + 2 * j) i = nI (hsN (rc S j) i) := fun i hi => by
        rw [q3 i hi]
        exact (okH_nat (allH_at c4 hi)).1
      have hhh : ∀ i, i < nat (rz S j) → 1 ≤ hsN (rc S j) i ∧ hsN (rc S j) i ≤ 7 := fun i hi => (okH_nat (allH_at c4 hi)).2
      have hz : I (60 + j) = nI (nat (rz S j)) := by rw [q1']; exact z3
      have hap : apart (eN S) (duE (eE S)) := hs.2.2.2.2.1 _ (Nat.le_refl _)
      have h30 : I 30 = nI (pkN (duE (eE S)) (eN S)) := hs.2.2.2.1.2.2.1
      have hw := y_weightOfMade hb S.2.2.2.2.2.2.1 S.2.2.2.2.2.2.2 j (nat (rz S j)) hj hz z2 hcc hhh p hp12 hap
      rw [← h30] at hw
      have htr := c_T_tellRatio I F S.2.2.2.2.2.2.1 S.2.2.2.2.2.2.2 (wtS (eN S) (eK S) (hsN (rc S j)) p true (nat (rz S j)) 0 (duE (eE S))) (12 ^ nat (rz S j)) (wt_lt hp12 z2 _) (pw_lt z2).2 (pw_lt z2).1
      have hcw := c_C_weight (cH I F S.2.2.2.2.2.2.1 S.2.2.2.2.2.2.2) (nat (rz S j)) z2
      rw [← hz] at hcw
      refine ⟨_, am_ev 6 (some .int) false [] ok_T_mid am_mP_114 (by rw [am_m_114]) (by rw [am_m_114]) (fun h => by cases h) (Nat.le_of_ble_eq_true rfl) (fun Go hG => ?_), (⟨I, F, rfl, hx⟩ : RC (raS S _ _) _)⟩
      refine hG 200 _ _ _ _ _ _ ?_
      refine Exists.intro 3 (Exists.intro _ (Exists.intro _ ⟨by decide, hwr, ?_⟩))
      refine br_t rfl ?_
      refine Exists.intro j (Exists.intro (18 + 2 * j) ⟨by omega, rfl, rfR_at (by omega), ?_⟩)
      refine Exists.intro 10 (Exists.intro _ (Exists.intro _ ⟨by decide, hw, ?_⟩))
      refine Exists.intro j (Exists.intro (18 + 2 * j) ⟨by omega, rfl, rfR_at (by omega), ?_⟩)
      refine am_ob_of (cH_row (by omega)) ?_
      refine Exists.intro 0 (Exists.intro _ (Exists.intro _ ⟨by decide, hcw, ?_⟩))
      refine Exists.intro 1 (Exists.intro _ (Exists.intro _ ⟨by decide, htr, ?_⟩))
      exact ⟨rfl, rfl, rfl, rfl⟩
    · rw [if_neg hc0]
      refine ⟨_, am_ev 6 (some .int) false [] ok_T_mid am_mP_114 (by rw [am_m_114]) (by rw [am_m_114]) (fun h => by cases h) (Nat.le_of_ble_eq_true rfl) (fun Go hG => ?_), RC_fd hx hc0 hor⟩
      refine hG 200 _ _ _ _ _ _ ?_
      refine Exists.intro 3 (Exists.intro _ (Exists.intro _ ⟨by decide, hwr, ?_⟩))
      refine br_f (wrV_neg hc0).2 ?_
      exact ⟨rfl, rfl, rfl, rfl⟩

