/-! ===== texts are read ===== -/
def ktN (x : Int32) : Nat := if x = nI 98 then 0 else if x = nI 99 then 1 else if x = nI 102 then 2 else if x = nI 108 then 3 else if x = nI 116 then 4 else if x = nI 97 then 5 else 9
theorem ktN_or (x : Int32) : ktN x < 6 ∨ ktN x = 9 := by
  unfold ktN
  repeat' split
  all_goals omega
def fgB (x : Int32) : Bool := in3 (x - nI 48) (nI 0) (nI 9)
def fgN (x : Int32) : Nat := nat (x - nI 48)
theorem fg_of {x : Int32} (h : fgB x = true) : fgN x ≤ 9 ∧ x - nI 48 = nI (fgN x) := by
  obtain ⟨j, -, hj, e⟩ := in3_nat (by decide) (by decide) h
  unfold fgN
  rw [e, nat_nI (by omega)]
  exact ⟨hj, rfl⟩
def drB (dr : Nat → Nat) : Nat → Nat → Bool
  | 0, _ => false
  | m + 1, d => drB dr m d || decide (dr m = d)
theorem drB_iff {dr : Nat → Nat} {d : Nat} : ∀ {m : Nat}, drB dr m d = true ↔ ∃ k, k < m ∧ dr k = d
  | 0 => ⟨fun h => (by cases h), fun ⟨k, hk, _⟩ => absurd hk (Nat.not_lt_zero _)⟩
  | m + 1 => by
    have ih := drB_iff (dr := dr) (d := d) (m := m)
    show (drB dr m d || decide (dr m = d)) = true ↔ _
    rw [Bool.or_eq_true, ih, decide_eq_true_eq]
    constructor
    · rintro (⟨k, hk, e⟩ | e)
      · exact ⟨k, by omega, e⟩
      · exact ⟨m, by omega, e⟩
    · rintro ⟨k, hk, e⟩
      by_cases hkm : k = m
      · rw [hkm] at e; exact Or.inr e
      · exact Or.inl ⟨k, by omega, e⟩
abbrev RdR : Type := Int32 × Nat × (Nat → Nat) × (Nat → Nat)
def rdT (c : Nat → Int32) (z : Nat) : Nat → Nat → Nat → (Nat → Nat) → (Nat → Nat) → RdR
  | 0, i, m, kr, dr => (nI i, m, kr, dr)
  | f + 1, i, m, kr, dr =>
    if z ≤ i then (if m = 0 then nI z else -nI 9, m, kr, dr)
    else if c i = nI 32 then rdT c z f (i + 1) m kr dr
    else if ktN (c i) = 9 then (nI i, m, kr, dr)
    else if m = 6 then (nI i, m, kr, dr)
    else if z ≤ i + 1 then (nI (i + 1), m, kr, dr)
    else if fgB (c (i + 1)) = false then (nI (i + 1), m, kr, dr)
    else if drB dr m (fgN (c (i + 1))) = true then (nI (i + 1), m, kr, dr)
    else rdT c z f (i + 2) (m + 1) (setS kr m (ktN (c i))) (setS dr m (fgN (c (i + 1))))
def rdOk (m : Nat) (kr dr : Nat → Nat) : Prop := m ≤ 6 ∧ (∀ k, k < m → kr k < 6 ∧ dr k ≤ 9) ∧ ∀ i j, i < m → j < m → dr i = dr j → i = j
theorem setS_at (f : Nat → Nat) (i v : Nat) : setS f i v i = v := if_pos rfl
theorem setS_ne {f : Nat → Nat} {i v k : Nat} (h : k ≠ i) : setS f i v k = f k := if_neg h
theorem rdOk_s {m : Nat} {kr dr : Nat → Nat} (h : rdOk m kr dr) {k d : Nat} (hm : m < 6) (hk : k < 6) (hd : d ≤ 9) (hn : drB dr m d = false) : rdOk (m + 1) (setS kr m k) (setS dr m d) := by
  obtain ⟨h1, h2, h3⟩ := h
  have hn' : ∀ j, j < m → dr j ≠ d := by
    intro j hj e
    have := drB_iff.mpr ⟨j, hj, e⟩
    rw [hn] at this
    cases this
  refine ⟨by omega, fun j hj => ?_, fun i j hi hj e => ?_⟩
  · by_cases e : j = m
    · rw [e, setS_at, setS_at]; exact ⟨hk, hd⟩
    · rw [setS_ne e, setS_ne e]; exact h2 j (by omega)
  · by_cases e1 : i = m
    · by_cases e2 : j = m
      · omega
      · rw [e1, setS_at, setS_ne e2] at e
        exact absurd e.symm (hn' j (by omega))
    · by_cases e2 : j = m
      · rw [e2, setS_at, setS_ne e1] at e
        exact absurd e (hn' i (by omega))
      · rw [setS_ne e1, setS_ne e2] at e
        exact h3 i j (by omega) (by omega) e
theorem rdT_ok {c : Nat → Int32} {z : Nat} : ∀ (f i m : Nat) (kr dr : Nat → Nat), rdOk m kr dr → rdOk (rdT c z f i m kr dr).2.1 (rdT c z f i m kr dr).2.2.1 (rdT c z f i m kr dr).2.2.2
  | 0, i, m, kr, dr, h => h
  | f + 1, i, m, kr, dr, h => by
    unfold rdT
    split
    · exact h
    · split
      · exact rdT_ok f (i + 1) m kr dr h
      · split
        · exact h
        · split
          · exact h
          · split
            · exact h
            · split
              · exact h
              · split
                · exact h
                · rename_i q1 q2 q3 q4 q5 q6 q7
                  refine rdT_ok f (i + 2) (m + 1) _ _ (rdOk_s h (by have := h.1; omega) ?_ ?_ ?_)
                  · rcases ktN_or (c i) with h | h
                    · exact h
                    · exact absurd h q3
                  · exact (fg_of (by cases hh : fgB (c (i + 1)) with | true => rfl | false => exact absurd hh q6)).1
                  · cases hh : drB dr m (fgN (c (i + 1))) with
                    | false => rfl
                    | true => exact absurd hh q7
theorem rdOk_0 (kr dr : Nat → Nat) : rdOk 0 kr dr := ⟨by omega, fun k hk => absurd hk (Nat.not_lt_zero _), fun i j hi => absurd hi (Nat.not_lt_zero _)⟩
def mixF (m : Nat) (g : Nat → Nat) (f : Nat → Int32) : Nat → Int32 := fun k => if k < m then nI (g k) else f k
theorem mixF_s (m : Nat) (g : Nat → Nat) (f : Nat → Int32) (x : Nat) : upd (mixF m g f) m (nI x) = mixF (m + 1) (setS g m x) f := by
  funext j
  unfold upd mixF
  by_cases e : j = m
  · rw [if_pos e, if_pos (by omega), e, setS_at]
  · rw [if_neg e, setS_ne e]
    by_cases h : j < m
    · rw [if_pos h, if_pos (by omega)]
    · rw [if_neg h, if_neg (by omega)]
theorem mixF_in {m k : Nat} (g : Nat → Nat) (f : Nat → Int32) (h : k < m) : mixF m g f k = nI (g k) := if_pos h
theorem mixF_0 (g : Nat → Nat) (f : Nat → Int32) : mixF 0 g f = f := by funext j; exact if_neg (Nat.not_lt_zero _)
theorem eq_nI_of {x : Int32} {k : Nat} (hk : k < 2 ^ 31) (h : x.toInt = (k : Int)) : x = nI k := Int32.toInt_inj.mp (by rw [h, nI_toInt hk])
def spRd (S : Sta) (t : Nat) : RdR := rdT (tc S t) (nat (tz S t)) (nat (tz S t) + 1) 0 0 (fun _ => 0) (fun _ => 0)
def spFault (S : Sta) (t : Int32) : Int32 × Sta := wrT S t ((spRd S (nat t)).1, S)
def newE (dr : Nat → Nat) : Evn := (0, fun _ => dr, fun _ _ => 0, fun _ => 0)
def spThings (S : Sta) (t : Int32) : Int32 × Sta := wrT S t (if (spRd S (nat t)).1 = -nI 9 then (nI (spRd S (nat t)).2.1, sK S ((spRd S (nat t)).2.1, (spRd S (nat t)).2.2.1, newE (spRd S (nat t)).2.2.2, fun _ => none)) else (-nI 4, S))

theorem c_M_kindOf (hp : List Am_C) (x : Int32) : Am_Ev false 0 0 0 150 [.int x] (hp) (some (.int (dueR 6 (ktN x)))) (hp) := by
  refine am_ev 1 (some .int) false [] ok_M_kindOf am_mP_150 (by rw [am_m_150]) (by rw [am_m_150]) (fun h => by cases h) (Nat.le_of_ble_eq_true rfl) ?_
  intro Go hG
  refine hG 200 _ _ _ _ _ _ ?_
  refine And.intro (fun h => ?_) ?_
  · have e : ktN x = 9 := by
      unfold ktN
      have q : ∀ v : Nat, 97 ≤ v → v ≤ 116 → ¬ x = nI v := by
        intro v h1 h2 e
        rw [e, nI_toInt (by omega)] at h
        omega
      rw [if_neg (q 98 (by decide) (by decide)), if_neg (q 99 (by decide) (by decide)), if_neg (q 102 (by decide) (by decide)), if_neg (q 108 (by decide) (by decide)), if_neg (q 116 (by decide) (by decide)), if_neg (q 97 (by decide) (by decide))]
    exact ⟨by rw [e]; rfl, rfl, rfl, rfl⟩
  · refine And.intro (fun h => ?_) (And.intro (fun h => ?_) (And.intro (fun h => ?_) (And.intro (fun h => ?_) (And.intro (fun h => ?_) (And.intro (fun h => ?_) (And.intro (fun h => ?_) (And.intro (fun h => ?_) (And.intro (fun h => ?_) (And.intro (fun h => ?_) (And.intro (fun h => ?_) (And.intro (fun h => ?_) (And.intro (fun h => ?_) (And.intro (fun h => ?_) (And.intro (fun h => ?_) (And.intro (fun h => ?_) (And.intro (fun h => ?_) (And.intro (fun h => ?_) (And.intro (fun h => ?_) (And.intro (fun h => ?_) (trivial))))))))))))))))))))
    · have hx : x = nI 97 := eq_nI_of (by decide) (by rw [h]; rfl)
      subst hx
      exact ⟨by decide +kernel, rfl, rfl, rfl⟩
    · have hx : x = nI 98 := eq_nI_of (by decide) (by rw [h]; rfl)
      subst hx
      exact ⟨by decide +kernel, rfl, rfl, rfl⟩
    · have hx : x = nI 99 := eq_nI_of (by decide) (by rw [h]; rfl)
      subst hx
      exact ⟨by decide +kernel, rfl, rfl, rfl⟩
    · have hx : x = nI 100 := eq_nI_of (by decide) (by rw [h]; rfl)
      subst hx
      exact ⟨by decide +kernel, rfl, rfl, rfl⟩
    · have hx : x = nI 101 := eq_nI_of (by decide) (by rw [h]; rfl)
      subst hx
      exact ⟨by decide +kernel, rfl, rfl, rfl⟩
    · have hx : x = nI 102 := eq_nI_of (by decide) (by rw [h]; rfl)
      subst hx
      exact ⟨by decide +kernel, rfl, rfl, rfl⟩
    · have hx : x = nI 103 := eq_nI_of (by decide) (by rw [h]; rfl)
      subst hx
      exact ⟨by decide +kernel, rfl, rfl, rfl⟩
    · have hx : x = nI 104 := eq_nI_of (by decide) (by rw [h]; rfl)
      subst hx
      exact ⟨by decide +kernel, rfl, rfl, rfl⟩
    · have hx : x = nI 105 := eq_nI_of (by decide) (by rw [h]; rfl)
      subst hx
      exact ⟨by decide +kernel, rfl, rfl, rfl⟩
    · have hx : x = nI 106 := eq_nI_of (by decide) (by rw [h]; rfl)
      subst hx
      exact ⟨by decide +kernel, rfl, rfl, rfl⟩
    · have hx : x = nI 107 := eq_nI_of (by decide) (by rw [h]; rfl)
      subst hx
      exact ⟨by decide +kernel, rfl, rfl, rfl⟩
    · have hx : x = nI 108 := eq_nI_of (by decide) (by rw [h]; rfl)
      subst hx
      exact ⟨by decide +kernel, rfl, rfl, rfl⟩
    · have hx : x = nI 109 := eq_nI_of (by decide) (by rw [h]; rfl)
      subst hx
      exact ⟨by decide +kernel, rfl, rfl, rfl⟩
    · have hx : x = nI 110 := eq_nI_of (by decide) (by rw [h]; rfl)
      subst hx
      exact ⟨by decide +kernel, rfl, rfl, rfl⟩
    · have hx : x = nI 111 := eq_nI_of (by decide) (by rw [h]; rfl)
      subst hx
      exact ⟨by decide +kernel, rfl, rfl, rfl⟩
    · have hx : x = nI 112 := eq_nI_of (by decide) (by rw [h]; rfl)
      subst hx
      exact ⟨by decide +kernel, rfl, rfl, rfl⟩
    · have hx : x = nI 113 := eq_nI_of (by decide) (by rw [h]; rfl)
      subst hx
      exact ⟨by decide +kernel, rfl, rfl, rfl⟩
    · have hx : x = nI 114 := eq_nI_of (by decide) (by rw [h]; rfl)
      subst hx
      exact ⟨by decide +kernel, rfl, rfl, rfl⟩
    · have hx : x = nI 115 := eq_nI_of (by decide) (by rw [h]; rfl)
      subst hx
      exact ⟨by decide +kernel, rfl, rfl, rfl⟩
    · have hx : x = nI 116 := eq_nI_of (by decide) (by rw [h]; rfl)
      subst hx
      exact ⟨by decide +kernel, rfl, rfl, rfl⟩

theorem c_M_byteAt_in (I : Nat → Int32) (F : Nat → Nat → Int32) (u v : Int64) (t z : Nat) (c : Nat → Int32) (ht : t < 4) (hz : F 7 t = nI z) (hz2 : z ≤ 60) (hc : ∀ i, i < z → F 6 (60 * t + i) = c i) (i : Nat) (hi : i < z) : Am_Ev false 0 0 0 149 [.ref 0, .int (nI t), .int (nI i)] (mH I F u v) (some (.int (c i))) (mH I F u v) := by
  refine am_ev 3 (some .int) false [] ok_M_byteAt am_mP_149 (by rw [am_m_149]) (by rw [am_m_149]) (fun h => by cases h) (Nat.le_of_ble_eq_true rfl) ?_
  intro Go hG
  refine hG 200 _ _ _ _ _ _ ?_
  refine Exists.intro t ⟨by omega, rfl, ?_⟩
  refine br_f (by rw [hz]; exact nI_ge (by omega) (by omega)) ?_
  refine Exists.intro (60 * t + i) ⟨by omega, nI_idx _ _ _, ?_⟩
  exact ⟨by rw [hc i hi], rfl, rfl, rfl⟩

theorem c_M_byteAt_out (I : Nat → Int32) (F : Nat → Nat → Int32) (u v : Int64) (t z : Nat) (ht : t < 4) (hz : F 7 t = nI z) (hz2 : z ≤ 60) (i : Nat) (hi : z ≤ i) (hi2 : i ≤ 100) : Am_Ev false 0 0 0 149 [.ref 0, .int (nI t), .int (nI i)] (mH I F u v) (some (.int (-nI 1))) (mH I F u v) := by
  refine am_ev 3 (some .int) false [] ok_M_byteAt am_mP_149 (by rw [am_m_149]) (by rw [am_m_149]) (fun h => by cases h) (Nat.le_of_ble_eq_true rfl) ?_
  intro Go hG
  refine hG 200 _ _ _ _ _ _ ?_
  refine Exists.intro t ⟨by omega, rfl, ?_⟩
  refine br_t (by rw [hz]; exact nI_le (by omega) (by omega)) ?_
  exact ⟨rfl, rfl, rfl, rfl⟩

theorem c_M_isDueRead (I : Nat → Int32) (F : Nat → Nat → Int32) (u v : Int64) (m : Nat) (dr : Nat → Nat) (hm : I 15 = nI m) (hm2 : m ≤ 6) (hd : ∀ k, k < m → F 10 k = nI (dr k) ∧ dr k ≤ 9) (d : Nat) (hd9 : d ≤ 9) : Am_Ev false 0 0 0 151 [.ref 0, .int (nI d)] (mH I F u v) (some (.int (b2 (drB dr m d)))) (mH I F u v) := by
  refine am_ev 4 (some .boolean) false [4] ok_M_isDueRead am_mP_151 (by rw [am_m_151]) (by rw [am_m_151]) (fun h => by cases h) (Nat.le_of_ble_eq_true rfl) ?_
  intro Go hG
  have L : ∀ (j k : Nat), k + j = m → Go 4 [some (.ref 0), some (.int (nI d)), some (.int (b2 (drB dr k d))), some (.int (nI k))] [] (mH I F u v) 0 0 := by
    intro j
    induction j with
    | zero =>
      intro k hk
      refine hG 200 _ _ _ _ _ _ ?_
      refine br_t (by rw [hm]; exact nI_le (by omega) (by omega)) ?_
      rw [show k = m by omega]
      exact ⟨b2_or _, rfl, rfl, rfl, rfl⟩
    | succ j ih =>
      intro k hk
      have h9 := ih (k + 1) (by omega)
      rw [← nI_s1 k] at h9
      refine hG 200 _ _ _ _ _ _ ?_
      refine br_f (by rw [hm]; exact nI_ge (by omega) (by omega)) ?_
      refine b2_nz (fun h1 => ?_) (fun h1 => ?_)
      · rw [show drB dr (k + 1) d = true by show (drB dr k d || _) = true; rw [h1]; rfl] at h9
        exact h9
      · refine Exists.intro k ⟨by omega, rfl, ?_⟩
        refine And.intro (fun h2 => ?_) (fun h2 => ?_)
        · rw [show drB dr (k + 1) d = false by show (drB dr k d || decide (dr k = d)) = false; rw [h1, Bool.false_or]; exact decide_eq_false (fun q => h2 (by rw [(hd k (by omega)).1, q]))] at h9
          exact h9
        · rw [show drB dr (k + 1) d = true by
            show (drB dr k d || decide (dr k = d)) = true
            rw [h1, Bool.false_or]
            exact decide_eq_true (by
              rw [(hd k (by omega)).1] at h2
              have := congrArg Int32.toInt h2
              rw [nI_toInt (by have := (hd k (by omega)).2; omega), nI_toInt (by omega)] at this
              omega)] at h9
          exact h9
  refine hG 200 _ _ _ _ _ _ ?_
  exact L m 0 (by omega)

theorem c_M_readText (I : Nat → Int32) (F : Nat → Nat → Int32) (u v : Int64) (t z : Nat) (c : Nat → Int32) (ht : t < 4) (hz : F 7 t = nI z) (hz2 : z ≤ 60) (hc : ∀ i, i < z → F 6 (60 * t + i) = c i) (kr0 dr0 : Nat → Nat) (R : RdR) (hR : rdT c z (z + 1) 0 0 kr0 dr0 = R) : Am_Ev false 2 0 0 148 [.ref 0, .int (nI t)] (mH I F u v) (some (.int R.1)) (mH (upd I 15 (nI R.2.1)) (va_up (va_up F 9 (mixF R.2.1 R.2.2.1 (F 9))) 10 (mixF R.2.1 R.2.2.2 (F 10))) u v) := by
  refine am_ev 5 (some .int) false [7] ok_M_readText am_mP_148 (by rw [am_m_148]) (by rw [am_m_148]) (fun h => by cases h) (Nat.le_of_ble_eq_true rfl) (fun Go hG => ?_)
  have L : ∀ (f i m : Nat) (kr dr : Nat → Nat), i ≤ z → z < i + f → rdOk m kr dr → rdT c z f i m kr dr = R → ∀ x y : Option Value, Go 7 [some (.ref 0), some (.int (nI t)), some (.int (nI i)), x, y] [] (mH (upd I 15 (nI m)) (va_up (va_up F 9 (mixF m kr (F 9))) 10 (mixF m dr (F 10))) u v) 0 0 := by
    intro f
    induction f with
    | zero => intro i m kr dr h1 h2; omega
    | succ f ih =>
      intro i m kr dr h1 h2 hok hR x y
      have hm6 := hok.1
      unfold rdT at hR
      by_cases hzi : z ≤ i
      · rw [if_pos hzi] at hR
        refine hG 200 _ _ _ _ _ _ ?_
        refine Exists.intro 0 (Exists.intro _ (Exists.intro _ ⟨by decide, c_M_byteAt_out (upd I 15 (nI m)) (va_up (va_up F 9 (mixF m kr (F 9))) 10 (mixF m dr (F 10))) u v t z ht hz hz2 i hzi (by omega), ?_⟩))
        refine bn_t (by decide) ?_
        refine Exists.intro t ⟨by omega, rfl, ?_⟩
        refine br_f (by show ¬ nI i < F 7 t; rw [hz]; exact nI_nlt (by omega) (by omega)) ?_
        by_cases hm0 : m = 0
        · rw [if_pos hm0] at hR
          rw [← hR]
          refine br_t (by rw [hm0]; exact Int32.le_refl _) ?_
          refine Exists.intro t ⟨by omega, rfl, ?_⟩
          exact ⟨by show some (Value.int (F 7 t)) = _; rw [hz], rfl, rfl, rfl⟩
        · rw [if_neg hm0] at hR
          rw [← hR]
          refine br_f (nI_nle (by omega) (by omega)) ?_
          exact ⟨rfl, rfl, rfl, rfl⟩
      · rw [if_neg hzi] at hR
        have hb := c_M_byteAt_in (upd I 15 (nI m)) (va_up (va_up F 9 (mixF m kr (F 9))) 10 (mixF m dr (F 10))) u v t z c ht hz hz2 hc i (by omega)
        by_cases h32 : c i = nI 32
        · rw [if_pos h32] at hR
          have h9 := ih (i + 1) m kr dr (by omega) (by omega) hok hR x y
          rw [← nI_s1 i] at h9
          refine hG 200 _ _ _ _ _ _ ?_
          refine Exists.intro 0 (Exists.intro _ (Exists.intro _ ⟨by decide, hb, ?_⟩))
          refine bn_f h32 ?_
          exact h9
        · rw [if_neg h32] at hR
          refine hG 200 _ _ _ _ _ _ ?_
          refine Exists.intro 0 (Exists.intro _ (Exists.intro _ ⟨by decide, hb, ?_⟩))
          refine bn_t h32 ?_
          refine Exists.intro t ⟨by omega, rfl, ?_⟩
          refine br_t (by show nI i < F 7 t; rw [hz]; exact nI_lt (by omega) (by omega)) ?_
          refine Exists.intro 0 (Exists.intro _ (Exists.intro _ ⟨by decide, hb, ?_⟩))
          refine Exists.intro 0 (Exists.intro _ (Exists.intro _ ⟨by decide, c_M_kindOf _ _, ?_⟩))
          by_cases hk9 : ktN (c i) = 9
          · rw [if_pos hk9] at hR
            rw [← hR]
            refine br_t (by rw [hk9]; rfl) ?_
            exact ⟨rfl, rfl, rfl, rfl⟩
          · rw [if_neg hk9] at hR
            have hk6 : ktN (c i) < 6 := by rcases ktN_or (c i) with h | h <;> omega
            refine br_f (by rw [dueR_yes hk6]; exact nI_m9 (by omega)) ?_
            by_cases hm : m = 6
            · rw [if_pos hm] at hR
              rw [← hR]
              refine bn_f (by show nI m = nI 6; rw [hm]) ?_
              exact ⟨rfl, rfl, rfl, rfl⟩
            · rw [if_neg hm] at hR
              refine bn_t (by show ¬ nI m = nI 6; exact fun q => hm (by have := congrArg Int32.toInt q; rw [nI_toInt (by omega), nI_toInt (by omega)] at this; omega)) ?_
              by_cases hz1 : z ≤ i + 1
              · rw [if_pos hz1] at hR
                rw [← hR]
                have hb2 := c_M_byteAt_out (upd I 15 (nI m)) (va_up (va_up F 9 (mixF m kr (F 9))) 10 (mixF m dr (F 10))) u v t z ht hz hz2 (i + 1) hz1 (by omega)
                rw [← nI_s1 i] at hb2
                refine Exists.intro 0 (Exists.intro _ (Exists.intro _ ⟨by decide, hb2, ?_⟩))
                refine Exists.intro 0 (Exists.intro _ (Exists.intro _ ⟨by decide, c_M_in _ _ _ _, ?_⟩))
                refine br_t (by decide +kernel) ?_
                exact ⟨by rw [nI_s1], rfl, rfl, rfl⟩
              · rw [if_neg hz1] at hR
                have hb2 := c_M_byteAt_in (upd I 15 (nI m)) (va_up (va_up F 9 (mixF m kr (F 9))) 10 (mixF m dr (F 10))) u v t z c ht hz hz2 hc (i + 1) (by omega)
                rw [← nI_s1 i] at hb2
                refine Exists.intro 0 (Exists.intro _ (Exists.intro _ ⟨by decide, hb2, ?_⟩))
                have hin := c_M_in (mH (upd I 15 (nI m)) (va_up (va_up F 9 (mixF m kr (F 9))) 10 (mixF m dr (F 10))) u v) (c (i + 1) - nI 48) (nI 0) (nI 9)
                refine Exists.intro 0 (Exists.intro _ (Exists.intro _ ⟨by decide, hin, ?_⟩))
                cases hfg : fgB (c (i + 1)) with
                | false =>
                  rw [if_pos hfg] at hR
                  rw [← hR]
                  refine br_t (by show b2 (fgB (c (i + 1))) = 0; rw [hfg]; rfl) ?_
                  exact ⟨by rw [nI_s1], rfl, rfl, rfl⟩
                | true =>
                  rw [if_neg (by rw [hfg]; decide)] at hR
                  obtain ⟨f1, f2⟩ := fg_of hfg
                  refine br_f (by show ¬ b2 (fgB (c (i + 1))) = 0; rw [hfg]; decide) ?_
                  have hdr := c_M_isDueRead (upd I 15 (nI m)) (va_up (va_up F 9 (mixF m kr (F 9))) 10 (mixF m dr (F 10))) u v m dr rfl hm6 (fun k q => ⟨mixF_in dr (F 10) q, (hok.2.1 k q).2⟩) (fgN (c (i + 1))) f1
                  rw [← f2] at hdr
                  refine Exists.intro 0 (Exists.intro _ (Exists.intro _ ⟨by decide, hdr, ?_⟩))
                  refine b2_z (fun h3 => ?_) (fun h3 => ?_)
                  · rw [if_neg (by rw [h3]; decide)] at hR
                    have h9 := ih (i + 2) (m + 1) _ _ (by omega) (by omega) (rdOk_s hok (by omega) hk6 f1 h3) hR (some (.int (nI (ktN (c i))))) (some (.int (c (i + 1) - nI 48)))
                    rw [← mixF_s m kr, ← mixF_s m dr, ← nI_s1 m, ← nI_add i 2, ← f2, ← dueR_yes hk6] at h9
                    refine Exists.intro m ⟨by omega, rfl, ?_⟩
                    refine Exists.intro m ⟨by omega, rfl, ?_⟩
                    exact h9
                  · rw [if_pos h3] at hR
                    rw [← hR]
                    exact ⟨by rw [nI_s1], rfl, rfl, rfl⟩
  refine hG 200 _ _ _ _ _ _ ?_
  have h8 := L (z + 1) 0 0 kr0 dr0 (by omega) (by omega) (rdOk_0 _ _) hR none none
  rw [mixF_0, mixF_0] at h8
  exact h8

