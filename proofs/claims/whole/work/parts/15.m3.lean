theorem c_M_asked (I : Nat → Int32) (F : Nat → Nat → Int32) (u v : Int64) : Am_Ev false 0 0 0 213 [.ref 0] (mH I F u v) (some (.int (I 8))) (mH I F u v) := by
  refine am_ev 1 (some .int) false [] ok_M_asked am_mP_213 (by rw [am_m_213]) (by rw [am_m_213]) (fun h => by cases h) (Nat.le_of_ble_eq_true rfl) ?_
  intro Go hG
  refine hG 200 _ _ _ _ _ _ ?_
  exact ⟨rfl, rfl, rfl, rfl⟩

theorem c_M_finding (I : Nat → Int32) (F : Nat → Nat → Int32) (u v : Int64) : Am_Ev false 0 0 0 220 [.ref 0] (mH I F u v) (some (.int (I 11))) (mH I F u v) := by
  refine am_ev 1 (some .int) false [] ok_M_finding am_mP_220 (by rw [am_m_220]) (by rw [am_m_220]) (fun h => by cases h) (Nat.le_of_ble_eq_true rfl) ?_
  intro Go hG
  refine hG 200 _ _ _ _ _ _ ?_
  exact ⟨rfl, rfl, rfl, rfl⟩

theorem c_M_upper (I : Nat → Int32) (F : Nat → Nat → Int32) (u v : Int64) : Am_Ev false 0 0 0 214 [.ref 0] (mH I F u v) (some (.long (u))) (mH I F u v) := by
  refine am_ev 1 (some .long) false [] ok_M_upper am_mP_214 (by rw [am_m_214]) (by rw [am_m_214]) (fun h => by cases h) (Nat.le_of_ble_eq_true rfl) ?_
  intro Go hG
  refine hG 200 _ _ _ _ _ _ ?_
  exact ⟨rfl, rfl, rfl, rfl⟩

theorem c_M_lower (I : Nat → Int32) (F : Nat → Nat → Int32) (u v : Int64) : Am_Ev false 0 0 0 215 [.ref 0] (mH I F u v) (some (.long (v))) (mH I F u v) := by
  refine am_ev 1 (some .long) false [] ok_M_lower am_mP_215 (by rw [am_m_215]) (by rw [am_m_215]) (fun h => by cases h) (Nat.le_of_ble_eq_true rfl) ?_
  intro Go hG
  refine hG 200 _ _ _ _ _ _ ?_
  exact ⟨rfl, rfl, rfl, rfl⟩

def rem2 (h : Int32) : Int32 := h - h / nI 2 * nI 2
def landI (k h : Int32) : Int32 := if k.toInt = 0 then h else if k.toInt = 1 then h + rem2 h else if k.toInt = 2 then nI 2 * h else if k.toInt = 3 then (if h ≤ nI 1 then nI 1 else h - nI 1) else if k.toInt = 4 then (if nI 3 ≤ h then h + rem2 h else -nI 9) else (if h ≤ nI 4 then (if h ≤ nI 1 then nI 1 else h - nI 1) else -nI 9)

theorem c_M_landing (hp : List Am_C) (k h : Int32) : Am_Ev false 0 0 0 156 [.int k, .int h] (hp) (some (.int (landI k h))) (hp) := by
  refine am_ev 2 (some .int) false [] ok_M_landing am_mP_156 (by rw [am_m_156]) (by rw [am_m_156]) (fun h => by cases h) (Nat.le_of_ble_eq_true rfl) ?_
  intro Go hG
  refine hG 200 _ _ _ _ _ _ ?_
  refine And.intro (fun h0 => ?_) (And.intro (fun h0 => ?_) (And.intro (fun h0 => ?_) (And.intro (fun h0 => ?_) (And.intro (fun h0 => ?_) (And.intro (fun h0 => ?_) trivial)))))
  · have e : landI k h = (if h ≤ nI 4 then (if h ≤ nI 1 then nI 1 else h - nI 1) else -nI 9) := by
      unfold landI
      rw [if_neg (by omega), if_neg (by omega), if_neg (by omega), if_neg (by omega), if_neg (by omega)]
    rw [e]
    refine And.intro (fun h1 => And.intro (fun h2 => ?_) (fun h2 => ?_)) (fun h1 => ?_)
    · exact ⟨by rw [if_pos h1, if_pos h2], rfl, rfl, rfl⟩
    · exact ⟨by rw [if_pos h1, if_neg h2], rfl, rfl, rfl⟩
    · exact ⟨by rw [if_neg h1], rfl, rfl, rfl⟩
  · exact ⟨by unfold landI; rw [if_pos h0], rfl, rfl, rfl⟩
  · refine And.intro (by decide) ?_
    exact ⟨by unfold landI; rw [if_neg (by omega), if_pos (by omega)]; rfl, rfl, rfl, rfl⟩
  · exact ⟨by unfold landI; rw [if_neg (by omega), if_neg (by omega), if_pos (by omega)], rfl, rfl, rfl⟩
  · have e : landI k h = (if h ≤ nI 1 then nI 1 else h - nI 1) := by
      unfold landI
      rw [if_neg (by omega), if_neg (by omega), if_neg (by omega), if_pos (by omega)]
    rw [e]
    refine And.intro (fun h1 => ?_) (fun h1 => ?_)
    · exact ⟨by rw [if_pos h1], rfl, rfl, rfl⟩
    · exact ⟨by rw [if_neg h1], rfl, rfl, rfl⟩
  · have e : landI k h = (if nI 3 ≤ h then h + rem2 h else -nI 9) := by
      unfold landI
      rw [if_neg (by omega), if_neg (by omega), if_neg (by omega), if_neg (by omega), if_pos (by omega)]
    rw [e]
    refine And.intro (fun h1 => And.intro (by decide) ?_) (fun h1 => ?_)
    · exact ⟨by rw [if_pos h1]; rfl, rfl, rfl, rfl⟩
    · exact ⟨by rw [if_neg h1], rfl, rfl, rfl⟩

def hgtG (p : Int32 → Bool) (n : Nat) : Int32 := fdI (fun i a => a ||| (if p (nI (i + 1)) then nI 1 <<< (nI (i + 1) &&& 31) else nI 0)) n (nI 0)
theorem hgtG_t {p : Int32 → Bool} {k : Nat} (h : p (nI (k + 1)) = true) : hgtG p (k + 1) = hgtG p k ||| (nI 1 <<< (nI (k + 1) &&& 31)) := by
  show _ ||| (if _ then _ else _) = _
  rw [if_pos h]
  rfl
theorem hgtG_f {p : Int32 → Bool} {k : Nat} (h : p (nI (k + 1)) = false) : hgtG p (k + 1) = hgtG p k ||| nI 0 := by
  show _ ||| (if _ then _ else _) = _
  rw [if_neg (by rw [h]; decide)]
  rfl
def canI (k h : Int32) : Bool := decide (¬ landI k h = -nI 9)

theorem c_M_heightsOf (hp : List Am_C) (q : Int32) : Am_Ev false 1 0 0 155 [.int q] (hp) (some (.int (hgtG (canI q) 7))) (hp) := by
  refine am_ev 3 (some .int) false [4] ok_M_heightsOf am_mP_155 (by rw [am_m_155]) (by rw [am_m_155]) (fun h => by cases h) (Nat.le_of_ble_eq_true rfl) ?_
  intro Go hG
  have L : ∀ (j k : Nat), k + j = 7 → Go 4 [some (.int q), some (.int (hgtG (canI q) k)), some (.int (nI (k + 1)))] [] hp 0 0 := by
    intro j
    induction j with
    | zero =>
      intro k hk
      refine hG 200 _ _ _ _ _ _ ?_
      refine br_t (nI_lt (by omega) (by omega)) ?_
      exact ⟨by rw [show k = 7 by omega], rfl, rfl, rfl⟩
    | succ j ih =>
      intro k hk
      refine hG 200 _ _ _ _ _ _ ?_
      refine br_f (nI_nlt (by omega) (by omega)) ?_
      refine Exists.intro 0 (Exists.intro _ (Exists.intro _ ⟨by decide, c_M_landing _ _ _, ?_⟩))
      have h := ih (k + 1) (by omega)
      rw [← nI_s1 (k + 1)] at h
      refine And.intro (fun h1 => ?_) (fun h1 => ?_)
      · rw [hgtG_f (by unfold canI; exact decide_eq_false (fun z => z h1))] at h
        exact h
      · rw [hgtG_t (by unfold canI; exact decide_eq_true h1)] at h
        exact h
  refine hG 200 _ _ _ _ _ _ ?_
  exact L 7 0 (by omega)

def mayG (g kf : Nat → Int32) (n : Nat) (h : Int32) : Bool := decide (dueG g n 0 < n) && (decide (¬ landI (kf (dueG g n 0)) h = -nI 9) && !hasB (skyG g n) (landI (kf (dueG g n 0)) h))
theorem dueR_no {n i : Nat} (h : ¬ i < n) : dueR n i = -nI 9 := by unfold dueR; rw [if_neg h]
theorem dueR_yes {n i : Nat} (h : i < n) : dueR n i = nI i := by unfold dueR; rw [if_pos h]
theorem nI_m9 {i : Nat} (h : i < 100) : ¬ nI i = -nI 9 := by
  intro q
  have h1 := congrArg Int32.toInt q
  rw [nI_toInt (by omega)] at h1
  have h2 : (-nI 9 : Int32).toInt = -9 := by decide
  omega

theorem c_M_mayAt (I : Nat → Int32) (F : Nat → Nat → Int32) (u v : Int64) (n x : Nat) (h : Int32) (hI : I 2 = nI n) (hn : n ≤ 6) (hx : x + 13 ≤ 2149) : Am_Ev false 1 0 0 163 [.ref 0, .int (nI x), .int h] (mH I F u v) (some (.int (b2 (mayG (fun i => F 1 (x + i)) (F 2) n h)))) (mH I F u v) := by
  refine am_ev 5 (some .boolean) false [] ok_M_mayAt am_mP_163 (by rw [am_m_163]) (by rw [am_m_163]) (fun h => by cases h) (Nat.le_of_ble_eq_true rfl) ?_
  intro Go hG
  obtain ⟨r, hr0⟩ : ∃ r, mayG (fun i => F 1 (x + i)) (F 2) n h = r := ⟨_, rfl⟩
  obtain ⟨i, hd⟩ : ∃ i, dueG (fun i => F 1 (x + i)) n 0 = i := ⟨_, rfl⟩
  have hr := hr0
  unfold mayG at hr
  rw [hd] at hr
  refine hG 200 _ _ _ _ _ _ ?_
  refine Exists.intro 0 (Exists.intro _ (Exists.intro _ ⟨by decide, c_M_dueAt I F u v n x hI hn hx, ?_⟩))
  rw [hd]
  by_cases hi : i < n
  · rw [dueR_yes hi]
    rw [decide_eq_true hi, Bool.true_and] at hr
    refine bn_t (nI_m9 (by omega)) ?_
    refine Exists.intro i ⟨by omega, rfl, ?_⟩
    refine Exists.intro 0 (Exists.intro _ (Exists.intro _ ⟨by decide, c_M_landing _ _ _, ?_⟩))
    refine And.intro (fun h1 => ?_) (fun h1 => ?_)
    · refine ⟨Or.inl rfl, ?_, rfl, rfl, rfl⟩
      rw [decide_eq_false (fun z => z h1), Bool.false_and] at hr
      rw [hr0, ← hr]
      rfl
    · rw [decide_eq_true h1, Bool.true_and] at hr
      refine Exists.intro 0 (Exists.intro _ (Exists.intro _ ⟨by decide, c_M_skyAt I F u v n x hI hn hx, ?_⟩))
      refine Exists.intro 0 (Exists.intro _ (Exists.intro _ ⟨by decide, c_M_has _ _ _, ?_⟩))
      refine b2_nz (fun h2 => ?_) (fun h2 => ?_)
      · refine ⟨Or.inl rfl, ?_, rfl, rfl, rfl⟩
        rw [h2] at hr
        rw [hr0, ← hr]
        rfl
      · refine ⟨Or.inr rfl, ?_, rfl, rfl, rfl⟩
        rw [h2] at hr
        rw [hr0, ← hr]
        rfl
  · rw [dueR_no hi]
    rw [decide_eq_false hi, Bool.false_and] at hr
    refine bn_f rfl ?_
    refine br_t rfl ?_
    refine ⟨Or.inl rfl, ?_, rfl, rfl, rfl⟩
    rw [hr0, ← hr]
    rfl

theorem c_M_heightsAt (I : Nat → Int32) (F : Nat → Nat → Int32) (u v : Int64) (n x : Nat) (hI : I 2 = nI n) (hn : n ≤ 6) (hx : x + 13 ≤ 2149) : Am_Ev false 2 0 0 179 [.ref 0, .int (nI x)] (mH I F u v) (some (.int (hgtG (mayG (fun i => F 1 (x + i)) (F 2) n) 7))) (mH I F u v) := by
  refine am_ev 4 (some .int) false [4] ok_M_heightsAt am_mP_179 (by rw [am_m_179]) (by rw [am_m_179]) (fun h => by cases h) (Nat.le_of_ble_eq_true rfl) ?_
  intro Go hG
  have L : ∀ (j k : Nat), k + j = 7 → Go 4 [some (.ref 0), some (.int (nI x)), some (.int (hgtG (mayG (fun i => F 1 (x + i)) (F 2) n) k)), some (.int (nI (k + 1)))] [] (mH I F u v) 0 0 := by
    intro j
    induction j with
    | zero =>
      intro k hk
      refine hG 200 _ _ _ _ _ _ ?_
      refine br_t (nI_lt (by omega) (by omega)) ?_
      exact ⟨by rw [show k = 7 by omega], rfl, rfl, rfl⟩
    | succ j ih =>
      intro k hk
      refine hG 200 _ _ _ _ _ _ ?_
      refine br_f (nI_nlt (by omega) (by omega)) ?_
      refine Exists.intro 1 (Exists.intro _ (Exists.intro _ ⟨by decide, c_M_mayAt I F u v n x _ hI hn hx, ?_⟩))
      have h := ih (k + 1) (by omega)
      rw [← nI_s1 (k + 1)] at h
      refine b2_z (fun h1 => ?_) (fun h1 => ?_)
      · rw [hgtG_f h1] at h
        exact h
      · rw [hgtG_t h1] at h
        exact h
  refine hG 200 _ _ _ _ _ _ ?_
  exact L 7 0 (by omega)

def tosW (w kf : Nat → Int32) (x n i : Nat) (h : Int32) : Nat → Int32 := latF (upd (upd w (x + i) (landI (kf i) h)) (x + 6 + i) (w (x + 6 + i) + nI 1)) x n

theorem c_M_tossAt (I : Nat → Int32) (F : Nat → Nat → Int32) (u v : Int64) (n x i : Nat) (h : Int32) (hI : I 2 = nI n) (hn : n ≤ 6) (hx : x + 13 ≤ 2149) (hd : dueG (fun i => F 1 (x + i)) n 0 = i) (hi : i < n) : Am_Ev false 1 0 0 169 [.ref 0, .int (nI x), .int h] (mH I F u v) (none) (mH I (va_up F 1 (tosW (F 1) (F 2) x n i h)) u v) := by
  refine am_ev 4 none false [] ok_M_tossAt am_mP_169 (by rw [am_m_169]) (by rw [am_m_169]) (fun h => by cases h) (Nat.le_of_ble_eq_true rfl) ?_
  intro Go hG
  refine hG 200 _ _ _ _ _ _ ?_
  refine Exists.intro 0 (Exists.intro _ (Exists.intro _ ⟨by decide, c_M_dueAt I F u v n x hI hn hx, ?_⟩))
  rw [hd, dueR_yes hi]
  refine Exists.intro i ⟨by omega, rfl, ?_⟩
  refine Exists.intro 0 (Exists.intro _ (Exists.intro _ ⟨by decide, c_M_landing _ _ _, ?_⟩))
  refine Exists.intro (x + i) ⟨by omega, nI_add x i, ?_⟩
  refine Exists.intro (x + 6 + i) ⟨by omega, by rw [nI_add, nI_add], ?_⟩
  refine Exists.intro (x + 6 + i) ⟨by omega, by rw [nI_add, nI_add], ?_⟩
  have e : upd (upd (F 1) (x + i) (landI (F 2 i) h)) (x + 6 + i) (upd (F 1) (x + i) (landI (F 2 i) h) (x + 6 + i) + nI 1) = upd (upd (F 1) (x + i) (landI (F 2 i) h)) (x + 6 + i) (F 1 (x + 6 + i) + nI 1) := by
    rw [pk_un (by omega)]
  refine Exists.intro 0 (Exists.intro _ (Exists.intro _ ⟨by decide, c_M_later I (va_up F 1 (upd (upd (F 1) (x + i) (landI (F 2 i) h)) (x + 6 + i) (upd (F 1) (x + i) (landI (F 2 i) h) (x + 6 + i) + nI 1))) u v n x hI hn hx, ?_⟩))
  refine ⟨rfl, ?_, rfl, rfl⟩
  rw [va_up_up]
  show mH I (va_up F 1 (latF (upd (upd (F 1) (x + i) (landI (F 2 i) h)) (x + 6 + i) (upd (F 1) (x + i) (landI (F 2 i) h) (x + 6 + i) + nI 1)) x n)) u v = _
  rw [e]
  rfl

def latI : Nat → (Nat → Int32) → Nat → Nat → Nat → Int32
  | 0, w, _, _ => w
  | r + 1, w, x, n => latI r (latF w x n) x n

theorem c_M_restsAt : ∀ (r : Nat) (I : Nat → Int32) (F : Nat → Nat → Int32) (u v : Int64) (n x : Nat) (hI : I 2 = nI n) (hn : n ≤ 6) (hx : x + 13 ≤ 2149) (h1 : ∀ q, q < r → ¬ dueG (fun i => latI q (F 1) x n (x + i)) n 0 < n) (h2 : dueG (fun i => latI r (F 1) x n (x + i)) n 0 < n), Am_Ev false 1 0 0 183 [.ref 0, .int (nI x)] (mH I F u v) none (mH I (va_up F 1 (latI r (F 1) x n)) u v) := by
  intro r I F u v n x hI hn hx h1 h2
  refine am_ev 2 none false [0] ok_M_restsAt am_mP_183 (by rw [am_m_183]) (by rw [am_m_183]) (fun h => by cases h) (Nat.le_of_ble_eq_true rfl) ?_
  intro Go hG
  have L : ∀ (j : Nat) (F' : Nat → Nat → Int32), (∀ q, q < j → ¬ dueG (fun i => latI q (F' 1) x n (x + i)) n 0 < n) → dueG (fun i => latI j (F' 1) x n (x + i)) n 0 < n → mH I (va_up F' 1 (latI j (F' 1) x n)) u v = mH I (va_up F 1 (latI r (F 1) x n)) u v → Go 0 [some (.ref 0), some (.int (nI x))] [] (mH I F' u v) 0 0 := by
    intro j
    induction j with
    | zero =>
      intro F' g1 g2 g3
      refine hG 200 _ _ _ _ _ _ ?_
      refine Exists.intro 0 (Exists.intro _ (Exists.intro _ ⟨by decide, c_M_dueAt I F' u v n x hI hn hx, ?_⟩))
      have g2' : dueG (fun i => F' 1 (x + i)) n 0 < n := g2
      rw [dueR_yes g2']
      refine bn_t (nI_m9 (by omega)) ?_
      rw [← g3]
      refine ⟨rfl, ?_, rfl, rfl⟩
      show _ = mH I (va_up F' 1 (F' 1)) u v
      rw [va_up_same]
    | succ j ih =>
      intro F' g1 g2 g3
      refine hG 200 _ _ _ _ _ _ ?_
      refine Exists.intro 0 (Exists.intro _ (Exists.intro _ ⟨by decide, c_M_dueAt I F' u v n x hI hn hx, ?_⟩))
      have g0 : ¬ dueG (fun i => F' 1 (x + i)) n 0 < n := g1 0 (by omega)
      rw [dueR_no g0]
      refine bn_f rfl ?_
      refine Exists.intro 0 (Exists.intro _ (Exists.intro _ ⟨by decide, c_M_later I F' u v n x hI hn hx, ?_⟩))
      refine ih (va_up F' 1 (latF (F' 1) x n)) (fun q hq => g1 (q + 1) (by omega)) g2 ?_
      rw [← g3, va_up_up]
      rfl
  exact L r F h1 h2 rfl

theorem c_M_swap (I : Nat → Int32) (F : Nat → Nat → Int32) (u v : Int64) (i j : Nat) (hi : i < 2149) (hj : j < 2149) : Am_Ev false 0 0 0 173 [.ref 0, .int (nI i), .int (nI j)] (mH I F u v) (none) (mH I (va_up F 1 (upd (upd (F 1) i (F 1 j)) j (F 1 i))) u v) := by
  refine am_ev 4 none false [] ok_M_swap am_mP_173 (by rw [am_m_173]) (by rw [am_m_173]) (fun h => by cases h) (Nat.le_of_ble_eq_true rfl) ?_
  intro Go hG
  refine hG 200 _ _ _ _ _ _ ?_
  refine Exists.intro i ⟨hi, rfl, ?_⟩
  refine Exists.intro j ⟨hj, rfl, ?_⟩
  refine Exists.intro i ⟨hi, rfl, ?_⟩
  refine Exists.intro j ⟨hj, rfl, ?_⟩
  exact ⟨rfl, rfl, rfl, rfl⟩

def remW (w : Nat → Int32) (m : Nat) : Nat → Int32 := upd (va_cpy w w 0 (13 + 13 * m) 13) 533 (va_cpy w w 0 (13 + 13 * m) 13 533 + nI 1)

theorem c_M_remember (I : Nat → Int32) (F : Nat → Nat → Int32) (u v : Int64) (m : Nat) (hm : F 1 533 = nI m) (hm2 : m < 40) : Am_Ev false 1 0 0 167 [.ref 0] (mH I F u v) (none) (mH I (va_up F 1 (remW (F 1) m)) u v) := by
  refine am_ev 1 none false [] ok_M_remember am_mP_167 (by rw [am_m_167]) (by rw [am_m_167]) (fun h => by cases h) (Nat.le_of_ble_eq_true rfl) ?_
  intro Go hG
  refine hG 200 _ _ _ _ _ _ ?_
  refine Exists.intro 533 ⟨by omega, rfl, ?_⟩
  have e : nI 13 + nI 13 * F 1 533 = nI (13 + 13 * m) := by rw [hm, pk_mul, nI_add]
  have hc := c_M_copyRow I F u v 0 (13 + 13 * m) 13 (by omega) (by omega) (by omega)
  rw [← e] at hc
  refine Exists.intro 0 (Exists.intro _ (Exists.intro _ ⟨by decide, hc, ?_⟩))
  refine Exists.intro 533 ⟨by omega, rfl, ?_⟩
  refine Exists.intro 533 ⟨by omega, rfl, ?_⟩
  exact ⟨rfl, rfl, rfl, rfl⟩

