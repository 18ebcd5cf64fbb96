/-! ===== thing, mark, count: what they tell; the reference ===== -/
theorem add0 (x : Int32) : x + nI 0 = x := by
  rw [show nI 0 = 0 from rfl]
  simp
def cntG (p : Nat → Bool) (n : Nat) : Int32 := fdI (fun k a => a + (if p k then nI 1 else nI 0)) n (nI 0)
theorem cntG_t {p : Nat → Bool} {k : Nat} (h : p k = true) : cntG p (k + 1) = cntG p k + nI 1 := by
  show _ + (if _ then _ else _) = _
  rw [if_pos h]
  rfl
theorem cntG_f {p : Nat → Bool} {k : Nat} (h : p k = false) : cntG p (k + 1) = cntG p k + nI 0 := by
  show _ + (if _ then _ else _) = _
  rw [if_neg (by rw [h]; decide)]
  rfl
theorem cntG_congr {p q : Nat → Bool} {n : Nat} (e : ∀ k, k < n → p k = q k) : cntG p n = cntG q n := fdI_congr n _ (fun k hk b => by rw [e k hk])
def ulB (k : Int32) (w : Bool) (i : Nat) : Bool := decide (¬ landI k (nI (i + 1)) = -nI 9) && (bif w then decide (nI (i + 1) < landI k (nI (i + 1))) else decide (landI k (nI (i + 1)) < nI (i + 1)))

theorem c_M_unlikeBall_true (hp : List Am_C) (k : Int32) : Am_Ev false 1 0 0 158 [.int k, .int (nI 1)] (hp) (some (.int (cntG (ulB k true) 7))) (hp) := by
  refine am_ev 5 (some .int) false [4] ok_M_unlikeBall am_mP_158 (by rw [am_m_158]) (by rw [am_m_158]) (fun h => by cases h) (Nat.le_of_ble_eq_true rfl) ?_
  intro Go hG
  have L : ∀ (j q : Nat) (z : Option Value), q + j = 7 → Go 4 [some (.int k), some (.int (nI 1)), some (.int (cntG (ulB k true) q)), some (.int (nI (q + 1))), z] [] hp 0 0 := by
    intro j
    induction j with
    | zero =>
      intro q z hq
      refine hG 200 _ _ _ _ _ _ ?_
      refine br_t (nI_lt (by omega) (by omega)) ?_
      exact ⟨by rw [show q = 7 by omega], rfl, rfl, rfl⟩
    | succ j ih =>
      intro q z hq
      refine hG 200 _ _ _ _ _ _ ?_
      refine br_f (nI_nlt (by omega) (by omega)) ?_
      refine Exists.intro 0 (Exists.intro _ (Exists.intro _ ⟨by decide, c_M_landing _ _ _, ?_⟩))
      have h := ih (q + 1) (some (.int (landI k (nI (q + 1))))) (by omega)
      rw [← nI_s1 (q + 1)] at h
      refine And.intro (fun h1 => ?_) (fun h1 => ?_)
      · rw [cntG_f (by unfold ulB; rw [decide_eq_false (fun z => z h1)]; rfl)] at h
        exact h
      · refine br_f (by decide) ?_
        refine And.intro (fun h2 => ?_) (fun h2 => ?_)
        · rw [cntG_f (by unfold ulB; rw [decide_eq_true h1, Bool.true_and]; exact decide_eq_false (Int32.not_lt.mpr h2))] at h
          exact h
        · rw [cntG_t (by unfold ulB; rw [decide_eq_true h1, Bool.true_and]; exact decide_eq_true (Int32.not_le.mp h2))] at h
          exact h
  refine hG 200 _ _ _ _ _ _ ?_
  exact L 7 0 none (by omega)

theorem c_M_unlikeBall_false (hp : List Am_C) (k : Int32) : Am_Ev false 1 0 0 158 [.int k, .int (-nI 1)] (hp) (some (.int (cntG (ulB k false) 7))) (hp) := by
  refine am_ev 5 (some .int) false [4] ok_M_unlikeBall am_mP_158 (by rw [am_m_158]) (by rw [am_m_158]) (fun h => by cases h) (Nat.le_of_ble_eq_true rfl) ?_
  intro Go hG
  have L : ∀ (j q : Nat) (z : Option Value), q + j = 7 → Go 4 [some (.int k), some (.int (-nI 1)), some (.int (cntG (ulB k false) q)), some (.int (nI (q + 1))), z] [] hp 0 0 := by
    intro j
    induction j with
    | zero =>
      intro q z hq
      refine hG 200 _ _ _ _ _ _ ?_
      refine br_t (nI_lt (by omega) (by omega)) ?_
      exact ⟨by rw [show q = 7 by omega], rfl, rfl, rfl⟩
    | succ j ih =>
      intro q z hq
      refine hG 200 _ _ _ _ _ _ ?_
      refine br_f (nI_nlt (by omega) (by omega)) ?_
      refine Exists.intro 0 (Exists.intro _ (Exists.intro _ ⟨by decide, c_M_landing _ _ _, ?_⟩))
      have h := ih (q + 1) (some (.int (landI k (nI (q + 1))))) (by omega)
      rw [← nI_s1 (q + 1)] at h
      refine And.intro (fun h1 => ?_) (fun h1 => ?_)
      · rw [cntG_f (by unfold ulB; rw [decide_eq_false (fun z => z h1)]; rfl)] at h
        exact h
      · refine br_t (by decide) ?_
        refine And.intro (fun h2 => ?_) (fun h2 => ?_)
        · rw [cntG_f (by unfold ulB; rw [decide_eq_true h1, Bool.true_and]; exact decide_eq_false (Int32.not_lt.mpr h2))] at h
          exact h
        · rw [cntG_t (by unfold ulB; rw [decide_eq_true h1, Bool.true_and]; exact decide_eq_true (Int32.not_le.mp h2))] at h
          exact h
  refine hG 200 _ _ _ _ _ _ ?_
  exact L 7 0 none (by omega)

def trB (kf g : Nat → Int32) (i k : Nat) : Bool := decide (kf k = nI 4) && decide (g k < g i)
def bhB (g : Nat → Int32) (i k : Nat) : Bool := decide (g i < g k)

theorem c_M_torchesAhead (I : Nat → Int32) (F : Nat → Nat → Int32) (u v : Int64) (n i : Nat) (hI : I 2 = nI n) (hn : n ≤ 6) (hi : i < n) : Am_Ev false 0 0 0 159 [.ref 0, .int (nI i)] (mH I F u v) (some (.int (cntG (trB (F 2) (F 1) i) n))) (mH I F u v) := by
  refine am_ev 4 (some .int) false [4] ok_M_torchesAhead am_mP_159 (by rw [am_m_159]) (by rw [am_m_159]) (fun h => by cases h) (Nat.le_of_ble_eq_true rfl) ?_
  intro Go hG
  have L : ∀ (j k : Nat), k + j = n → Go 4 [some (.ref 0), some (.int (nI i)), some (.int (cntG (trB (F 2) (F 1) i) k)), some (.int (nI k))] [] (mH I F u v) 0 0 := by
    intro j
    induction j with
    | zero =>
      intro k hk
      refine hG 200 _ _ _ _ _ _ ?_
      refine br_t (by rw [hI]; exact nI_le (by omega) (by omega)) ?_
      exact ⟨by rw [show k = n by omega], rfl, rfl, rfl⟩
    | succ j ih =>
      intro k hk
      have h := ih (k + 1) (by omega)
      rw [← nI_s1 k] at h
      refine hG 200 _ _ _ _ _ _ ?_
      refine br_f (by rw [hI]; exact nI_ge (by omega) (by omega)) ?_
      refine Exists.intro k ⟨by omega, rfl, ?_⟩
      refine And.intro (fun h1 => ?_) (fun h1 => ?_)
      · rw [cntG_f (by unfold trB; rw [decide_eq_false h1]; rfl)] at h
        exact h
      · refine Exists.intro k ⟨by omega, rfl, ?_⟩
        refine Exists.intro i ⟨by omega, rfl, ?_⟩
        refine And.intro (fun h2 => ?_) (fun h2 => ?_)
        · rw [cntG_f (by unfold trB; rw [decide_eq_true h1, Bool.true_and]; exact decide_eq_false (Int32.not_lt.mpr h2))] at h
          exact h
        · rw [cntG_t (by unfold trB; rw [decide_eq_true h1, Bool.true_and]; exact decide_eq_true (Int32.not_le.mp h2))] at h
          exact h
  refine hG 200 _ _ _ _ _ _ ?_
  exact L n 0 (by omega)

theorem c_M_thingsBehind (I : Nat → Int32) (F : Nat → Nat → Int32) (u v : Int64) (n i : Nat) (hI : I 2 = nI n) (hn : n ≤ 6) (hi : i < n) : Am_Ev false 0 0 0 160 [.ref 0, .int (nI i)] (mH I F u v) (some (.int (cntG (bhB (F 1) i) n))) (mH I F u v) := by
  refine am_ev 4 (some .int) false [4] ok_M_thingsBehind am_mP_160 (by rw [am_m_160]) (by rw [am_m_160]) (fun h => by cases h) (Nat.le_of_ble_eq_true rfl) ?_
  intro Go hG
  have L : ∀ (j k : Nat), k + j = n → Go 4 [some (.ref 0), some (.int (nI i)), some (.int (cntG (bhB (F 1) i) k)), some (.int (nI k))] [] (mH I F u v) 0 0 := by
    intro j
    induction j with
    | zero =>
      intro k hk
      refine hG 200 _ _ _ _ _ _ ?_
      refine br_t (by rw [hI]; exact nI_le (by omega) (by omega)) ?_
      exact ⟨by rw [show k = n by omega], rfl, rfl, rfl⟩
    | succ j ih =>
      intro k hk
      have h := ih (k + 1) (by omega)
      rw [← nI_s1 k] at h
      refine hG 200 _ _ _ _ _ _ ?_
      refine br_f (by rw [hI]; exact nI_ge (by omega) (by omega)) ?_
      refine Exists.intro k ⟨by omega, rfl, ?_⟩
      refine Exists.intro i ⟨by omega, rfl, ?_⟩
      refine And.intro (fun h2 => ?_) (fun h2 => ?_)
      · rw [cntG_f (decide_eq_false (Int32.not_lt.mpr h2))] at h
        exact h
      · rw [cntG_t (decide_eq_true (Int32.not_le.mp h2))] at h
        exact h
  refine hG 200 _ _ _ _ _ _ ?_
  exact L n 0 (by omega)

theorem c_M_throwsMade (I : Nat → Int32) (F : Nat → Nat → Int32) (u v : Int64) (n : Nat) (hI : I 2 = nI n) (hn : n ≤ 6) : Am_Ev false 0 0 0 217 [.ref 0] (mH I F u v) (some (.int (sumG (fun k => F 1 (6 + k)) n))) (mH I F u v) := by
  refine am_ev 3 (some .int) false [4] ok_M_throwsMade am_mP_217 (by rw [am_m_217]) (by rw [am_m_217]) (fun h => by cases h) (Nat.le_of_ble_eq_true rfl) ?_
  intro Go hG
  have L : ∀ (j k : Nat), k + j = n → Go 4 [some (.ref 0), some (.int (sumG (fun k => F 1 (6 + k)) k)), some (.int (nI k))] [] (mH I F u v) 0 0 := by
    intro j
    induction j with
    | zero =>
      intro k hk
      refine hG 200 _ _ _ _ _ _ ?_
      refine br_t (by rw [hI]; exact nI_le (by omega) (by omega)) ?_
      exact ⟨by rw [show k = n by omega], rfl, rfl, rfl⟩
    | succ j ih =>
      intro k hk
      have h := ih (k + 1) (by omega)
      rw [← nI_s1 k] at h
      refine hG 200 _ _ _ _ _ _ ?_
      refine br_f (by rw [hI]; exact nI_ge (by omega) (by omega)) ?_
      refine Exists.intro (6 + k) ⟨by omega, nI_add 6 k, ?_⟩
      exact h
  refine hG 200 _ _ _ _ _ _ ?_
  exact L n 0 (by omega)

def okB (kf : Nat → Int32) (a b : Int32) (k : Nat) : Bool := decide (kf k = a) || decide (kf k = b)

theorem c_M_ofKinds (I : Nat → Int32) (F : Nat → Nat → Int32) (u v : Int64) (n : Nat) (hI : I 2 = nI n) (hn : n ≤ 6) (a b : Int32) : Am_Ev false 0 0 0 218 [.ref 0, .int a, .int b] (mH I F u v) (some (.int (cntG (okB (F 2) a b) n))) (mH I F u v) := by
  refine am_ev 5 (some .int) false [5] ok_M_ofKinds am_mP_218 (by rw [am_m_218]) (by rw [am_m_218]) (fun h => by cases h) (Nat.le_of_ble_eq_true rfl) ?_
  intro Go hG
  have L : ∀ (j k : Nat), k + j = n → Go 5 [some (.ref 0), some (.int a), some (.int b), some (.int (cntG (okB (F 2) a b) k)), some (.int (nI k))] [] (mH I F u v) 0 0 := by
    intro j
    induction j with
    | zero =>
      intro k hk
      refine hG 200 _ _ _ _ _ _ ?_
      refine br_t (by rw [hI]; exact nI_le (by omega) (by omega)) ?_
      exact ⟨by rw [show k = n by omega], rfl, rfl, rfl⟩
    | succ j ih =>
      intro k hk
      have h := ih (k + 1) (by omega)
      rw [← nI_s1 k] at h
      refine hG 200 _ _ _ _ _ _ ?_
      refine br_f (by rw [hI]; exact nI_ge (by omega) (by omega)) ?_
      refine Exists.intro k ⟨by omega, rfl, ?_⟩
      refine And.intro (fun h1 => ?_) (fun h1 => ?_)
      · rw [cntG_t (by unfold okB; rw [decide_eq_true h1]; rfl)] at h
        exact h
      · refine Exists.intro k ⟨by omega, rfl, ?_⟩
        refine And.intro (fun h2 => ?_) (fun h2 => ?_)
        · rw [cntG_f (by unfold okB; rw [decide_eq_false h1, decide_eq_false h2]; rfl)] at h
          exact h
        · rw [cntG_t (by unfold okB; rw [decide_eq_true h2, Bool.or_true])] at h
          exact h
  refine hG 200 _ _ _ _ _ _ ?_
  exact L n 0 (by omega)

def thrB (f : Nat → Int32) (k : Nat) : Bool := decide (¬ f k < 0)
theorem c_M_thereAre (I : Nat → Int32) (F : Nat → Nat → Int32) (u v : Int64) (h n : Nat) (hh : h = 5 ∧ n = 6 ∨ h = 7 ∧ n = 4 ∨ h = 3 ∧ n = 3) : Am_Ev false 0 0 0 219 [.ref h, .int (nI n)] (mH I F u v) (some (.int (cntG (thrB (F h)) n))) (mH I F u v) := by
  refine am_ev 4 (some .int) false [4] ok_M_thereAre am_mP_219 (by rw [am_m_219]) (by rw [am_m_219]) (fun h => by cases h) (Nat.le_of_ble_eq_true rfl) ?_
  intro Go hG
  have L : ∀ (j k : Nat), k + j = n → Go 4 [some (.ref h), some (.int (nI n)), some (.int (cntG (thrB (F h)) k)), some (.int (nI k))] [] (mH I F u v) 0 0 := by
    intro j
    induction j with
    | zero =>
      intro k hk
      refine hG 200 _ _ _ _ _ _ ?_
      refine br_t (nI_le (by omega) (by omega)) ?_
      exact ⟨by rw [show k = n by omega], rfl, rfl, rfl⟩
    | succ j ih =>
      intro k hk
      have h9 := ih (k + 1) (by omega)
      rw [← nI_s1 k] at h9
      refine hG 200 _ _ _ _ _ _ ?_
      refine br_f (nI_ge (by omega) (by omega)) ?_
      have e : (mH I F u v)[h]? = some (.inl (0, n, .inl (F h))) := by
        rcases hh with ⟨rfl, rfl⟩ | ⟨rfl, rfl⟩ | ⟨rfl, rfl⟩ <;> rfl
      refine am_ai_of e (by rcases hh with ⟨rfl, rfl⟩ | ⟨rfl, rfl⟩ | ⟨rfl, rfl⟩ <;> rfl) ?_
      refine Exists.intro k ⟨by omega, rfl, ?_⟩
      refine And.intro (fun h1 => ?_) (fun h1 => ?_)
      · rw [cntG_t (decide_eq_true (Int32.not_lt.mpr h1))] at h9
        exact h9
      · rw [cntG_f (decide_eq_false (fun q => q (Int32.not_le.mp h1)))] at h9
        exact h9
  refine hG 200 _ _ _ _ _ _ ?_
  exact L n 0 (by omega)

def thV (S : Sta) (i w : Nat) : Int32 := match w with
  | 0 => nI (eK S i)
  | 1 => nI (duE (eE S) i)
  | 2 => hgtG (canI (nI (eK S i))) 7
  | _ => nI (thE (eE S) i)
def spThing (S : Sta) (i w : Int32) : Int32 × Sta := if okI S i = false then (-nI 1, S) else if in3 w (nI 0) (nI 3) = false then (-nI 1, S) else (nI 1, tellS S (thV S (nat i) (nat w)))
def mkV (S : Sta) (i w : Nat) : Int32 := match w with
  | 1 => cntG (ulB (nI (eK S i)) true) 7
  | 2 => nI (duE (eE S) i) / nI 2
  | 3 => cntG (ulB (nI (eK S i)) false) 7
  | 4 => cntG (trB (gN (eK S)) (gN (duE (eE S))) i) (eN S)
  | _ => cntG (bhB (gN (duE (eE S))) i) (eN S)
def spMark (S : Sta) (i w : Int32) : Int32 × Sta := if okI S i = false then (-nI 1, S) else if in3 w (nI 1) (nI 5) = false then (-nI 1, S) else if isOfB (eK S (nat i)) (nat w) = false then (-nI 3, fndS S 3) else (mkV S (nat i) (nat w), S)
def kpC (S : Sta) (q : Nat) : Int32 := match eP S q with
  | none => -nI 1
  | some E => nI E.1
def cnV (S : Sta) (w : Nat) : Int32 := match w with
  | 0 => nI (eN S)
  | 1 => nI (btE (eE S))
  | 2 => nI (eE S).1
  | 3 => skyS (eN S) (duE (eE S))
  | 4 => dueR (eN S) (dueS (eN S) (duE (eE S)))
  | 5 => sumS (eN S) (duE (eE S))
  | 6 => sumG (gN (thE (eE S))) (eN S)
  | 7 => cntG (okB (gN (eK S)) (nI 1) (nI 4)) (eN S)
  | 8 => cntG (okB (gN (eK S)) (nI 3) (nI 5)) (eN S)
  | 9 => cntG (thrB (rz S)) 6
  | 10 => cntG (thrB (tz S)) 4
  | _ => cntG (thrB (kpC S)) 3
def spCount (S : Sta) (w : Int32) : Int32 × Sta := if in3 w (nI 0) (nI 11) = false then (-nI 1, S) else (cnV S (nat w), S)

theorem pm_M_thing (S : Sta) (hp : List Am_C) (hRM : RM S hp) (i w : Int32) : ∃ hp', Am_Ev false 4 0 0 153 [.ref 0, .int i, .int w] hp (some (.int (spThing S i w).1)) hp' ∧ RM (spThing S i w).2 hp' := by
  obtain ⟨I, F, rfl, hx⟩ := hRM
  obtain ⟨hs, hr, ht, hl⟩ := id hx
  obtain ⟨g1, g2, g3, g4, g5, g6⟩ := hs
  have hI : I 2 = nI (eN S) := g1
  have hn : eN S ≤ 6 := g2
  have hk : ∀ i, i < eN S → F 2 i = nI (eK S i) ∧ eK S i < 6 := g3
  have hE : evM (F 1) 0 (eN S) (eE S) := g4
  have hG5 : gdE (eN S) (eE S) := g5
  have hap : apart (eN S) (duE (eE S)) := hG5 _ (Nat.le_refl _)
  obtain ⟨v1, v2, v3, v4, v5⟩ := id hE
  have hw : ∀ k, k < eN S → F 1 (0 + k) = nI (duE (eE S) k) := fun k q => (v3 k q).1
  have hw2 : ∀ k, k < eN S → F 1 k = nI (duE (eE S) k) := fun k q => by have := hw k q; rw [Nat.zero_add] at this; exact this
  have hm33 : F 1 533 = nI (eE S).1 := by have := v2; rw [Nat.zero_add] at this; exact this
  have eSky : skyG (fun i => F 1 (0 + i)) (eN S) = skyS (eN S) (duE (eE S)) := skyG_congr hw
  have eDue : dueG (fun i => F 1 (0 + i)) (eN S) 0 = dueS (eN S) (duE (eE S)) := dueG_congr hw _ 0 (by omega)
  have eMay : ∀ z, mayG (fun i => F 1 (0 + i)) (F 2) (eN S) z = mayS (eN S) (eK S) (duE (eE S)) z := fun z => mayG_congr hw (fun k q => (hk k q).1) z
  unfold spThing
  have hc1 := c_M_isThing I F S.2.2.2.2.2.2.1 S.2.2.2.2.2.2.2 i
  rw [hI] at hc1
  cases ho : okI S i with
  | false =>
    rw [if_pos rfl]
    rw [show in3 i (nI 0) (nI (eN S) - nI 1) = false from ho] at hc1
    refine ⟨_, am_ev 3 (some .int) false [] ok_M_thing am_mP_153 (by rw [am_m_153]) (by rw [am_m_153]) (fun h => by cases h) (Nat.le_of_ble_eq_true rfl) (fun Go hG => ?_), RM_of hx⟩
    refine hG 200 _ _ _ _ _ _ ?_
    refine Exists.intro 1 (Exists.intro _ (Exists.intro _ ⟨by decide, hc1, ?_⟩))
    refine br_t rfl ?_
    exact ⟨rfl, rfl, rfl, rfl⟩
  | true =>
    rw [if_neg (by decide)]
    rw [show in3 i (nI 0) (nI (eN S) - nI 1) = true from ho] at hc1
    obtain ⟨a, ha, rfl⟩ := in3_nat2 (k := eN S) (by omega) rfl ho
    rw [nat_nI (by omega)]
    have hc2 := c_M_in (mH I F S.2.2.2.2.2.2.1 S.2.2.2.2.2.2.2) w (nI 0) (nI 3)
    cases ho2 : in3 w (nI 0) (nI 3) with
    | false =>
      rw [if_pos rfl]
      rw [ho2] at hc2
      refine ⟨_, am_ev 3 (some .int) false [] ok_M_thing am_mP_153 (by rw [am_m_153]) (by rw [am_m_153]) (fun h => by cases h) (Nat.le_of_ble_eq_true rfl) (fun Go hG => ?_), RM_of hx⟩
      refine hG 200 _ _ _ _ _ _ ?_
      refine Exists.intro 1 (Exists.intro _ (Exists.intro _ ⟨by decide, hc1, ?_⟩))
      refine br_f (by decide) ?_
      refine Exists.intro 0 (Exists.intro _ (Exists.intro _ ⟨by decide, hc2, ?_⟩))
      refine bn_f rfl ?_
      exact ⟨rfl, rfl, rfl, rfl⟩
    | true =>
      rw [if_neg (by decide)]
      rw [ho2] at hc2
      obtain ⟨z, -, hz, rfl⟩ := in3_nat (by decide) (by decide) ho2
      rw [nat_nI (by omega)]
      have h7 := (v3 a ha).2
      rw [Nat.zero_add] at h7
      rcases (show z = 0 ∨ z = 1 ∨ z = 2 ∨ z = 3 by omega) with rfl | rfl | rfl | rfl
      · refine ⟨_, am_ev 3 (some .int) false [] ok_M_thing am_mP_153 (by rw [am_m_153]) (by rw [am_m_153]) (fun h => by cases h) (Nat.le_of_ble_eq_true rfl) (fun Go hG => ?_), RM_tell hx _⟩
        refine hG 200 _ _ _ _ _ _ ?_
        refine Exists.intro 1 (Exists.intro _ (Exists.intro _ ⟨by decide, hc1, ?_⟩))
        refine br_f (by decide) ?_
        refine Exists.intro 0 (Exists.intro _ (Exists.intro _ ⟨by decide, hc2, ?_⟩))
        refine bn_t (by decide) ?_
        refine bn_f rfl ?_
        refine Exists.intro a ⟨by omega, rfl, ?_⟩
        have ht2 := c_M_tell I F S.2.2.2.2.2.2.1 S.2.2.2.2.2.2.2 (F 2 a)
        refine Exists.intro 0 (Exists.intro _ (Exists.intro _ ⟨by decide, ht2, ?_⟩))
        exact ⟨rfl, by rw [(hk a ha).1]; rfl, rfl, rfl⟩
      · refine ⟨_, am_ev 3 (some .int) false [] ok_M_thing am_mP_153 (by rw [am_m_153]) (by rw [am_m_153]) (fun h => by cases h) (Nat.le_of_ble_eq_true rfl) (fun Go hG => ?_), RM_tell hx _⟩
        refine hG 200 _ _ _ _ _ _ ?_
        refine Exists.intro 1 (Exists.intro _ (Exists.intro _ ⟨by decide, hc1, ?_⟩))
        refine br_f (by decide) ?_
        refine Exists.intro 0 (Exists.intro _ (Exists.intro _ ⟨by decide, hc2, ?_⟩))
        refine bn_t (by decide) ?_
        refine bn_t (by decide) ?_
        refine bn_f rfl ?_
        refine Exists.intro a ⟨by omega, rfl, ?_⟩
        have ht2 := c_M_tell I F S.2.2.2.2.2.2.1 S.2.2.2.2.2.2.2 (F 1 a)
        refine Exists.intro 0 (Exists.intro _ (Exists.intro _ ⟨by decide, ht2, ?_⟩))
        exact ⟨rfl, by rw [hw2 a ha]; rfl, rfl, rfl⟩
      · refine ⟨_, am_ev 3 (some .int) false [] ok_M_thing am_mP_153 (by rw [am_m_153]) (by rw [am_m_153]) (fun h => by cases h) (Nat.le_of_ble_eq_true rfl) (fun Go hG => ?_), RM_tell hx _⟩
        refine hG 200 _ _ _ _ _ _ ?_
        refine Exists.intro 1 (Exists.intro _ (Exists.intro _ ⟨by decide, hc1, ?_⟩))
        refine br_f (by decide) ?_
        refine Exists.intro 0 (Exists.intro _ (Exists.intro _ ⟨by decide, hc2, ?_⟩))
        refine bn_t (by decide) ?_
        refine bn_t (by decide) ?_
        refine bn_t (by decide) ?_
        refine bn_f rfl ?_
        refine Exists.intro a ⟨by omega, rfl, ?_⟩
        refine Exists.intro 1 (Exists.intro _ (Exists.intro _ ⟨by decide, c_M_heightsOf _ _, ?_⟩))
        have ht2 := c_M_tell I F S.2.2.2.2.2.2.1 S.2.2.2.2.2.2.2 (hgtG (canI (F 2 a)) 7)
        refine Exists.intro 0 (Exists.intro _ (Exists.intro _ ⟨by decide, ht2, ?_⟩))
        exact ⟨rfl, by rw [(hk a ha).1]; rfl, rfl, rfl⟩
      · refine ⟨_, am_ev 3 (some .int) false [] ok_M_thing am_mP_153 (by rw [am_m_153]) (by rw [am_m_153]) (fun h => by cases h) (Nat.le_of_ble_eq_true rfl) (fun Go hG => ?_), RM_tell hx _⟩
        refine hG 200 _ _ _ _ _ _ ?_
        refine Exists.intro 1 (Exists.intro _ (Exists.intro _ ⟨by decide, hc1, ?_⟩))
        refine br_f (by decide) ?_
        refine Exists.intro 0 (Exists.intro _ (Exists.intro _ ⟨by decide, hc2, ?_⟩))
        refine bn_t (by decide) ?_
        refine bn_t (by decide) ?_
        refine bn_t (by decide) ?_
        refine bn_t (by decide) ?_
        refine Exists.intro (6 + a) ⟨by omega, nI_add 6 a, ?_⟩
        have ht2 := c_M_tell I F S.2.2.2.2.2.2.1 S.2.2.2.2.2.2.2 (F 1 (6 + a))
        refine Exists.intro 0 (Exists.intro _ (Exists.intro _ ⟨by decide, ht2, ?_⟩))
        exact ⟨rfl, by rw [h7]; rfl, rfl, rfl⟩

