/-! ===== the class: kinds, troupes ===== -/
theorem am_ob_of {hp : List Am_C} {h ci : Nat} {fs : List Value} {q : Nat → List Value → Prop} (e : hp[h]? = some (.inr (ci, fs))) (k : q ci fs) : am_ob hp h q := by
  unfold am_ob
  rw [e]
  exact k
theorem am_ai_of {hp : List Am_C} {h n : Nat} {f : Nat → Int32} {q : Nat → (Nat → Int32) → Prop} (e : hp[h]? = some (.inl (0, n, .inl f))) (hn : Nat.ble n 4096 = true) (k : q n f) : am_ai hp h q := by
  unfold am_ai
  rw [e]
  show (bif Nat.ble n 4096 then q n f else False)
  rw [hn]
  exact k
theorem am_set_at {hp : List Am_C} {h : Nat} {a c : Am_C} (e : hp[h]? = some a) : (hp.set h c)[h]? = some c := by
  rw [List.getElem?_set_self (List.getElem?_eq_some_iff.mp e).1]
theorem am_set_ne {hp : List Am_C} {h k : Nat} {a c : Am_C} (hk : h ≠ k) (e : hp[k]? = some a) : (hp.set h c)[k]? = some a := by
  rw [List.getElem?_set_ne hk]
  exact e
theorem am_rcv_of {hp : List Am_C} {h ci : Nat} {fs : List Value} (e : hp[h]? = some (.inr (ci, fs))) : am_rcv ci (some (.ref h)) hp = true := by
  unfold am_rcv
  dsimp only
  rw [e]
  exact Nat.beq_refl ci
theorem am_vt {hp : List Am_C} {h ci x : Nat} {fs : List Value} {q : Prop} (e : hp[h]? = some (.inr (ci, fs))) (hs : Nat.ble x 8 = true) (k : q) : am_t (am_rcv ci (some (.ref h)) hp && Nat.ble x 8) q := by
  unfold am_t
  rw [am_rcv_of e, hs]
  exact k
theorem lt6 {k : Nat} (h : k < 6) : k = 0 ∨ k = 1 ∨ k = 2 ∨ k = 3 ∨ k = 4 ∨ k = 5 := by omega
theorem in17 {k : Nat} (h : 1 ≤ k ∧ k ≤ 7) : k = 1 ∨ k = 2 ∨ k = 3 ∨ k = 4 ∨ k = 5 ∨ k = 6 ∨ k = 7 := by omega
theorem or0 (x : Int32) : x ||| nI 0 = x := by
  have h : nI 0 = 0 := rfl
  rw [h]
  simp
def abv (k : Nat) : Nat := match k with
  | 4 => 1
  | 5 => 3
  | _ => 0
def isOfB (k q : Nat) : Bool := Nat.beq k q || (Nat.beq (abv k) q || Nat.beq q 0)

theorem c_K_isOf (hp : List Am_C) (k q : Nat) (hk : k < 6) (hq : q < 6) : Am_Ev false 0 0 0 44 [.int (nI k), .int (nI q)] (hp) (some (.int (b2 (isOfB k q)))) (hp) := by
  refine am_ev 2 (some .boolean) false [] ok_K_isOf am_mP_44 (by rw [am_m_44]) (by rw [am_m_44]) (fun h => by cases h) (Nat.le_of_ble_eq_true rfl) ?_
  intro Go hG
  refine hG 200 _ _ _ _ _ _ ?_
  rcases lt6 hk with rfl | rfl | rfl | rfl | rfl | rfl <;> rcases lt6 hq with rfl | rfl | rfl | rfl | rfl | rfl <;> first
    | (refine br_t (by decide) ?_; exact ⟨Or.inr rfl, rfl, rfl, rfl, rfl⟩)
    | (refine br_f (by decide) ?_
       refine Exists.intro _ ⟨by decide, rfl, ?_⟩
       first
         | (refine br_t (by decide) ?_; exact ⟨Or.inr rfl, rfl, rfl, rfl, rfl⟩)
         | (refine br_f (by decide) ?_
            first
              | (refine bn_t (by decide) ?_; exact ⟨Or.inl rfl, rfl, rfl, rfl, rfl⟩)
              | (refine bn_f (by decide) ?_; exact ⟨Or.inr rfl, rfl, rfl, rfl, rfl⟩)))

theorem c_K_flight (hp : List Am_C) (k h : Nat) (hk : k < 6) (hh : 1 ≤ h ∧ h ≤ 7) : Am_Ev false 1 0 0 46 [.int (nI k), .int (nI h)] (hp) (some (.int (landI (nI k) (nI h)))) (hp) := by
  refine am_ev 2 (some .int) false [] ok_K_flight am_mP_46 (by rw [am_m_46]) (by rw [am_m_46]) (fun h => by cases h) (Nat.le_of_ble_eq_true rfl) ?_
  intro Go hG
  refine hG 200 _ _ _ _ _ _ ?_
  have T : ∀ A B : Prop, (A → B) → True := fun _ _ _ => trivial
  rcases lt6 hk with rfl | rfl | rfl | rfl | rfl | rfl <;> rcases in17 hh with rfl | rfl | rfl | rfl | rfl | rfl | rfl <;>
    (refine Exists.intro _ ⟨by decide, rfl, ?_⟩
     first
     | (refine br_t (by decide) ?_; exact ⟨by decide, rfl, rfl, rfl⟩)
     | (refine br_f (by decide) ?_
        refine Exists.intro _ ⟨by decide, rfl, ?_⟩
        first
        | (refine br_f (by decide) ?_; exact ⟨by decide, rfl, rfl, rfl⟩)
        | (refine br_t (by decide) ?_
           refine Exists.intro 0 (Exists.intro _ (Exists.intro _ ⟨by decide, c_K_isOf _ _ 1 (by decide) (by decide), ?_⟩))
           first
           | (refine br_f (by decide) ?_; refine And.intro (by decide) ?_; exact ⟨by decide, rfl, rfl, rfl⟩)
           | (refine br_t (by decide) ?_
              refine Exists.intro 0 (Exists.intro _ (Exists.intro _ ⟨by decide, c_K_isOf _ _ 3 (by decide) (by decide), ?_⟩))
              first
              | (refine br_f (by decide) ?_; exact ⟨by decide, rfl, rfl, rfl⟩)
              | (refine br_t (by decide) ?_
                 first
                 | (refine bn_t (by decide) ?_; exact ⟨by decide, rfl, rfl, rfl⟩)
                 | (refine bn_f (by decide) ?_; exact ⟨by decide, rfl, rfl, rfl⟩))))))

theorem c_K_heightsOf (hp : List Am_C) (k : Nat) (hk : k < 6) : Am_Ev false 0 0 0 42 [.int (nI k)] (hp) (some (.int (hgtG (canI (nI k)) 7))) (hp) := by
  refine am_ev 1 (some .int) false [] ok_K_heightsOf am_mP_42 (by rw [am_m_42]) (by rw [am_m_42]) (fun h => by cases h) (Nat.le_of_ble_eq_true rfl) ?_
  intro Go hG
  refine hG 200 _ _ _ _ _ _ ?_
  rcases lt6 hk with rfl | rfl | rfl | rfl | rfl | rfl <;>
    (refine Exists.intro _ ⟨by decide, rfl, ?_⟩
     refine Exists.intro _ ⟨by decide, rfl, ?_⟩
     exact ⟨by decide +kernel, rfl, rfl, rfl⟩)

def dueP (dues i : Int32) : Int32 := (dues.toUInt32 >>> ((nI 4 * i).toUInt32 &&& Int32.toUInt32 31)).toInt32 &&& nI 15
def withP (dues i b : Int32) : Int32 := (dues &&& ((nI 15 <<< ((nI 4 * i) &&& 31)) ^^^ (-nI 1))) ||| (b <<< ((nI 4 * i) &&& 31))
def latP (n : Nat) (dues b : Int32) : Int32 := dues - b * (nI 1118481 &&& ((nI 1 <<< ((nI 4 * nI n) &&& 31)) - nI 1))
def gP (dues : Int32) : Nat → Int32 := fun k => dueP dues (nI k)

theorem c_P_due (hp : List Am_C) (d i : Int32) : Am_Ev false 0 0 0 33 [.int d, .int i] (hp) (some (.int (dueP d i))) (hp) := by
  refine am_ev 2 (some .int) false [] ok_P_due am_mP_33 (by rw [am_m_33]) (by rw [am_m_33]) (fun h => by cases h) (Nat.le_of_ble_eq_true rfl) ?_
  intro Go hG
  refine hG 200 _ _ _ _ _ _ ?_
  exact ⟨rfl, rfl, rfl, rfl⟩

theorem c_P_with (hp : List Am_C) (d i b : Int32) : Am_Ev false 0 0 0 34 [.int d, .int i, .int b] (hp) (some (.int (withP d i b))) (hp) := by
  refine am_ev 3 (some .int) false [] ok_P_with am_mP_34 (by rw [am_m_34]) (by rw [am_m_34]) (fun h => by cases h) (Nat.le_of_ble_eq_true rfl) ?_
  intro Go hG
  refine hG 200 _ _ _ _ _ _ ?_
  exact ⟨rfl, rfl, rfl, rfl⟩

theorem c_P_exchanged (hp : List Am_C) (d i j : Int32) : Am_Ev false 1 0 0 66 [.int d, .int i, .int j] (hp) (some (.int (withP (withP d i (dueP d j)) j (dueP d i)))) (hp) := by
  refine am_ev 3 (some .int) false [] ok_P_exchanged am_mP_66 (by rw [am_m_66]) (by rw [am_m_66]) (fun h => by cases h) (Nat.le_of_ble_eq_true rfl) ?_
  intro Go hG
  refine hG 200 _ _ _ _ _ _ ?_
  refine Exists.intro 0 (Exists.intro _ (Exists.intro _ ⟨by decide, c_P_due _ _ _, ?_⟩))
  refine Exists.intro 0 (Exists.intro _ (Exists.intro _ ⟨by decide, c_P_with _ _ _ _, ?_⟩))
  refine Exists.intro 0 (Exists.intro _ (Exists.intro _ ⟨by decide, c_P_due _ _ _, ?_⟩))
  refine Exists.intro 0 (Exists.intro _ (Exists.intro _ ⟨by decide, c_P_with _ _ _ _, ?_⟩))
  exact ⟨rfl, rfl, rfl, rfl⟩

theorem c_P_sky (hp : List Am_C) (h ka n : Nat) (e : hp[h]? = some (.inr (6, [.int (nI n), .ref ka]))) (hn : n ≤ 6) (d : Int32) : Am_Ev false 1 0 0 32 [.ref h, .int d] (hp) (some (.int (skyG (gP d) n))) (hp) := by
  refine am_ev 4 (some .int) false [4] ok_P_sky am_mP_32 (by rw [am_m_32]) (by rw [am_m_32]) (fun h => by cases h) (Nat.le_of_ble_eq_true rfl) ?_
  intro Go hG
  have L : ∀ (j k : Nat), k + j = n → Go 4 [some (.ref h), some (.int d), some (.int (skyG (gP d) k)), some (.int (nI k))] [] hp 0 0 := by
    intro j
    induction j with
    | zero =>
      intro k hk
      refine hG 200 _ _ _ _ _ _ ?_
      refine am_ob_of e ?_
      refine br_t (nI_le (by omega) (by omega)) ?_
      exact ⟨by rw [show k = n by omega], rfl, rfl, rfl⟩
    | succ j ih =>
      intro k hk
      refine hG 200 _ _ _ _ _ _ ?_
      refine am_ob_of e ?_
      refine br_f (nI_ge (by omega) (by omega)) ?_
      refine Exists.intro 0 (Exists.intro _ (Exists.intro _ ⟨by decide, c_P_due _ _ _, ?_⟩))
      have h := ih (k + 1) (by omega)
      rw [← nI_s1] at h
      exact h
  refine hG 200 _ _ _ _ _ _ ?_
  exact L n 0 (by omega)

theorem c_P_dueTogether (hp : List Am_C) (h ka n : Nat) (e : hp[h]? = some (.inr (6, [.int (nI n), .ref ka]))) (hn : n ≤ 6) (d : Int32) : Am_Ev false 1 0 0 108 [.ref h, .int d] (hp) (some (.int (sumG (gP d) n))) (hp) := by
  refine am_ev 4 (some .int) false [4] ok_P_dueTogether am_mP_108 (by rw [am_m_108]) (by rw [am_m_108]) (fun h => by cases h) (Nat.le_of_ble_eq_true rfl) ?_
  intro Go hG
  have L : ∀ (j k : Nat), k + j = n → Go 4 [some (.ref h), some (.int d), some (.int (sumG (gP d) k)), some (.int (nI k))] [] hp 0 0 := by
    intro j
    induction j with
    | zero =>
      intro k hk
      refine hG 200 _ _ _ _ _ _ ?_
      refine am_ob_of e ?_
      refine br_t (nI_le (by omega) (by omega)) ?_
      exact ⟨by rw [show k = n by omega], rfl, rfl, rfl⟩
    | succ j ih =>
      intro k hk
      refine hG 200 _ _ _ _ _ _ ?_
      refine am_ob_of e ?_
      refine br_f (nI_ge (by omega) (by omega)) ?_
      refine Exists.intro 0 (Exists.intro _ (Exists.intro _ ⟨by decide, c_P_due _ _ _, ?_⟩))
      have h := ih (k + 1) (by omega)
      rw [← nI_s1] at h
      exact h
  refine hG 200 _ _ _ _ _ _ ?_
  exact L n 0 (by omega)

theorem c_P_dueNow (hp : List Am_C) (h ka n : Nat) (e : hp[h]? = some (.inr (6, [.int (nI n), .ref ka]))) (hn : n ≤ 6) (d : Int32) : Am_Ev false 1 0 0 53 [.ref h, .int d] (hp) (some (.int (dueR n (dueG (gP d) n 0)))) (hp) := by
  refine am_ev 3 (some .int) false [2] ok_P_dueNow am_mP_53 (by rw [am_m_53]) (by rw [am_m_53]) (fun h => by cases h) (Nat.le_of_ble_eq_true rfl) ?_
  intro Go hG
  have L : ∀ (j k : Nat), k + j = n → dueG (gP d) j k = dueG (gP d) n 0 → Go 2 [some (.ref h), some (.int d), some (.int (nI k))] [] hp 0 0 := by
    intro j
    induction j with
    | zero =>
      intro k hk he
      refine hG 200 _ _ _ _ _ _ ?_
      refine am_ob_of e ?_
      refine br_t (nI_le (by omega) (by omega)) ?_
      rw [← he]
      refine ⟨?_, rfl, rfl, rfl⟩
      show some (Value.int (-nI 9)) = some (.int (dueR n k))
      rw [dueR, if_neg (by omega)]
    | succ j ih =>
      intro k hk he
      refine hG 200 _ _ _ _ _ _ ?_
      refine am_ob_of e ?_
      refine br_f (nI_ge (by omega) (by omega)) ?_
      refine Exists.intro 0 (Exists.intro _ (Exists.intro _ ⟨by decide, c_P_due _ _ _, ?_⟩))
      rw [← he]
      refine And.intro (fun h1 => ?_) (fun h1 => ?_)
      · have h := ih (k + 1) (by omega) (by rw [← he]; simp only [dueG]; rw [if_neg (show ¬ gP d k = 0 from h1)])
        rw [← nI_s1] at h
        exact h
      · refine ⟨?_, rfl, rfl, rfl⟩
        have h1' : gP d k = 0 := h1
        simp only [dueG]
        rw [if_pos h1', dueR, if_pos (by omega)]
  refine hG 200 _ _ _ _ _ _ ?_
  exact L n 0 (by omega) rfl

def rstG (g : Nat → Int32) (n : Nat) : Int32 := fdI (fun k a => if g k < a then g k else a) n (nI 15)

theorem c_P_restsAhead (hp : List Am_C) (h ka n : Nat) (e : hp[h]? = some (.inr (6, [.int (nI n), .ref ka]))) (hn : n ≤ 6) (d : Int32) : Am_Ev false 1 0 0 80 [.ref h, .int d] (hp) (some (.int (rstG (gP d) n))) (hp) := by
  refine am_ev 4 (some .int) false [5] ok_P_restsAhead am_mP_80 (by rw [am_m_80]) (by rw [am_m_80]) (fun h => by cases h) (Nat.le_of_ble_eq_true rfl) ?_
  intro Go hG
  have L : ∀ (j k : Nat), k + j = n → Go 5 [some (.ref h), some (.int d), some (.int (rstG (gP d) k)), some (.int (nI k))] [] hp 0 0 := by
    intro j
    induction j with
    | zero =>
      intro k hk
      refine hG 200 _ _ _ _ _ _ ?_
      refine am_ob_of e ?_
      refine br_t (nI_le (by omega) (by omega)) ?_
      exact ⟨by rw [show k = n by omega], rfl, rfl, rfl⟩
    | succ j ih =>
      intro k hk
      refine hG 200 _ _ _ _ _ _ ?_
      refine am_ob_of e ?_
      refine br_f (nI_ge (by omega) (by omega)) ?_
      refine Exists.intro 0 (Exists.intro _ (Exists.intro _ ⟨by decide, c_P_due _ _ _, ?_⟩))
      have h := ih (k + 1) (by omega)
      rw [← nI_s1] at h
      exact h
  refine hG 200 _ _ _ _ _ _ ?_
  exact L n 0 (by omega)

theorem c_P_later (hp : List Am_C) (h ka n : Nat) (e : hp[h]? = some (.inr (6, [.int (nI n), .ref ka]))) (hn : n ≤ 6) (d b : Int32) : Am_Ev false 0 0 0 58 [.ref h, .int d, .int b] (hp) (some (.int (latP n d b))) (hp) := by
  refine am_ev 3 (some .int) false [] ok_P_later am_mP_58 (by rw [am_m_58]) (by rw [am_m_58]) (fun h => by cases h) (Nat.le_of_ble_eq_true rfl) ?_
  intro Go hG
  refine hG 200 _ _ _ _ _ _ ?_
  refine am_ob_of e ?_
  exact ⟨rfl, rfl, rfl, rfl⟩

theorem c_P_rested (hp : List Am_C) (h ka n : Nat) (e : hp[h]? = some (.inr (6, [.int (nI n), .ref ka]))) (hn : n ≤ 6) (d : Int32) : Am_Ev false 2 0 0 79 [.ref h, .int d] (hp) (some (.int (latP n d (rstG (gP d) n)))) (hp) := by
  refine am_ev 2 (some .int) false [] ok_P_rested am_mP_79 (by rw [am_m_79]) (by rw [am_m_79]) (fun h => by cases h) (Nat.le_of_ble_eq_true rfl) ?_
  intro Go hG
  refine hG 200 _ _ _ _ _ _ ?_
  refine am_vt e rfl ?_
  refine Exists.intro 1 (Exists.intro _ (Exists.intro _ ⟨by decide, c_P_restsAhead hp h ka n e hn d, ?_⟩))
  refine am_vt e rfl ?_
  refine Exists.intro 0 (Exists.intro _ (Exists.intro _ ⟨by decide, c_P_later hp h ka n e hn d _, ?_⟩))
  exact ⟨rfl, rfl, rfl, rfl⟩

def frB (s b : Int32) : Bool := decide (¬ b = -nI 9) && !hasB s b
theorem and1 (x : Int32) : (x &&& nI 1 = 0 ∧ ¬ x &&& nI 1 = nI 1) ∨ (¬ x &&& nI 1 = 0 ∧ x &&& nI 1 = nI 1) := by
  obtain ⟨j, hj, h⟩ := pk_andE x (m := nI 1) 1 (by decide)
  rw [h]
  rcases (show j = 0 ∨ j = 1 by omega) with rfl | rfl <;> decide

theorem c_P_isFree (hp : List Am_C) (s b : Int32) : Am_Ev false 0 0 0 54 [.int s, .int b] (hp) (some (.int (b2 (frB s b)))) (hp) := by
  refine am_ev 2 (some .boolean) false [] ok_P_isFree am_mP_54 (by rw [am_m_54]) (by rw [am_m_54]) (fun h => by cases h) (Nat.le_of_ble_eq_true rfl) ?_
  intro Go hG
  refine hG 200 _ _ _ _ _ _ ?_
  refine And.intro (fun h1 => ?_) (fun h1 => And.intro (fun h2 => ?_) (fun h2 => ?_))
  · exact ⟨Or.inl rfl, by simp [frB, b2, h1], rfl, rfl, rfl⟩
  · refine ⟨Or.inl rfl, ?_, rfl, rfl, rfl⟩
    have h3 : hasB s b = true := by
      unfold hasB
      rcases and1 (s >>> (b &&& 31)) with ⟨q, -⟩ | ⟨-, q⟩
      · exact absurd q h2
      · exact decide_eq_true q
    unfold frB
    rw [h3]
    simp [b2]
  · refine ⟨Or.inr rfl, ?_, rfl, rfl, rfl⟩
    have h3 : hasB s b = false := by
      unfold hasB
      rcases and1 (s >>> (b &&& 31)) with ⟨-, q⟩ | ⟨q, -⟩
      · exact decide_eq_false q
      · exact absurd h2 q
    unfold frB
    rw [h3, decide_eq_true h1]
    rfl

theorem c_P_mayGo (hp : List Am_C) (h ka n : Nat) (e : hp[h]? = some (.inr (6, [.int (nI n), .ref ka]))) (hn : n ≤ 6) (kd : Nat → Nat) (kf : Nat → Int32) (e2 : hp[ka]? = some (.inl (0, 6, .inl kf))) (hk : ∀ i, i < n → kf i = nI (kd i) ∧ kd i < 6) (d : Int32) (q : Nat) (hq : 1 ≤ q ∧ q ≤ 7) : Am_Ev false 2 0 0 52 [.ref h, .int d, .int (nI q)] (hp) (some (.int (b2 (mayG (gP d) kf n (nI q))))) (hp) := by
  refine am_ev 4 (some .boolean) false [] ok_P_mayGo am_mP_52 (by rw [am_m_52]) (by rw [am_m_52]) (fun h => by cases h) (Nat.le_of_ble_eq_true rfl) ?_
  intro Go hG
  obtain ⟨r, hr0⟩ : ∃ r, mayG (gP d) kf n (nI q) = r := ⟨_, rfl⟩
  obtain ⟨i, hd⟩ : ∃ i, dueG (gP d) n 0 = i := ⟨_, rfl⟩
  have hr := hr0
  unfold mayG at hr
  rw [hd] at hr
  refine hG 200 _ _ _ _ _ _ ?_
  refine am_vt e rfl ?_
  refine Exists.intro 1 (Exists.intro _ (Exists.intro _ ⟨by decide, c_P_dueNow hp h ka n e hn d, ?_⟩))
  rw [hd]
  by_cases hi : i < n
  · rw [dueR_yes hi]
    rw [decide_eq_true hi, Bool.true_and] at hr
    refine br_f (nI_m9 (by omega)) ?_
    refine am_vt e rfl ?_
    refine Exists.intro 1 (Exists.intro _ (Exists.intro _ ⟨by decide, c_P_sky hp h ka n e hn d, ?_⟩))
    refine am_ob_of e ?_
    refine am_ai_of e2 rfl ?_
    refine Exists.intro i ⟨by omega, rfl, ?_⟩
    have hc := c_K_flight hp (kd i) q (hk i hi).2 hq
    rw [← (hk i hi).1] at hc
    refine Exists.intro 1 (Exists.intro _ (Exists.intro _ ⟨by decide, hc, ?_⟩))
    refine Exists.intro 0 (Exists.intro _ (Exists.intro _ ⟨by decide, c_P_isFree _ _ _, ?_⟩))
    have hf : frB (skyG (gP d) n) (landI (kf i) (nI q)) = r := hr
    rw [hf]
    refine b2_z (fun h2 => ?_) (fun h2 => ?_)
    · exact ⟨Or.inl rfl, by rw [hr0, h2]; rfl, rfl, rfl, rfl⟩
    · exact ⟨Or.inr rfl, by rw [hr0, h2]; rfl, rfl, rfl, rfl⟩
  · rw [dueR_no hi]
    rw [decide_eq_false hi, Bool.false_and] at hr
    refine br_t rfl ?_
    exact ⟨Or.inl rfl, by rw [hr0, ← hr]; rfl, rfl, rfl, rfl⟩

theorem c_P_heightsNow (hp : List Am_C) (h ka n : Nat) (e : hp[h]? = some (.inr (6, [.int (nI n), .ref ka]))) (hn : n ≤ 6) (kd : Nat → Nat) (kf : Nat → Int32) (e2 : hp[ka]? = some (.inl (0, 6, .inl kf))) (hk : ∀ i, i < n → kf i = nI (kd i) ∧ kd i < 6) (d : Int32) : Am_Ev false 2 0 0 75 [.ref h, .int d] (hp) (some (.int (hgtG (mayG (gP d) kf n) 7))) (hp) := by
  refine am_ev 6 (some .int) false [26] ok_P_heightsNow am_mP_75 (by rw [am_m_75]) (by rw [am_m_75]) (fun h => by cases h) (Nat.le_of_ble_eq_true rfl) ?_
  intro Go hG
  obtain ⟨i, hd⟩ : ∃ i, dueG (gP d) n 0 = i := ⟨_, rfl⟩
  by_cases hi : i < n
  · have em : ∀ z, mayG (gP d) kf n z = frB (skyG (gP d) n) (landI (kf i) z) := by
      intro z
      unfold mayG frB
      rw [hd, decide_eq_true hi, Bool.true_and]
    have L : ∀ (j k : Nat), k + j = 7 → Go 26 [some (.ref h), some (.int d), some (.int (nI i)), some (.int (skyG (gP d) n)), some (.int (hgtG (mayG (gP d) kf n) k)), some (.int (nI (k + 1)))] [] hp 0 0 := by
      intro j
      induction j with
      | zero =>
        intro k hk
        refine hG 200 _ _ _ _ _ _ ?_
        refine br_t (nI_lt (by omega) (by omega)) ?_
        exact ⟨by rw [show k = 7 by omega], rfl, rfl, rfl⟩
      | succ j ih =>
        intro k hk7
        refine hG 200 _ _ _ _ _ _ ?_
        refine br_f (nI_nlt (by omega) (by omega)) ?_
        refine am_ob_of e ?_
        refine am_ai_of e2 rfl ?_
        refine Exists.intro i ⟨by omega, rfl, ?_⟩
        have hc := c_K_flight hp (kd i) (k + 1) (hk i hi).2 (by omega)
        rw [← (hk i hi).1] at hc
        refine Exists.intro 1 (Exists.intro _ (Exists.intro _ ⟨by decide, hc, ?_⟩))
        refine Exists.intro 0 (Exists.intro _ (Exists.intro _ ⟨by decide, c_P_isFree _ _ _, ?_⟩))
        have h9 := ih (k + 1) (by omega)
        rw [← nI_s1 (k + 1)] at h9
        rw [← em]
        refine b2_z (fun h1 => ?_) (fun h1 => ?_)
        · rw [hgtG_f h1, or0] at h9
          exact h9
        · rw [hgtG_t h1] at h9
          exact h9
    refine hG 200 _ _ _ _ _ _ ?_
    refine am_vt e rfl ?_
    refine Exists.intro 1 (Exists.intro _ (Exists.intro _ ⟨by decide, c_P_dueNow hp h ka n e hn d, ?_⟩))
    rw [hd, dueR_yes hi]
    refine bn_t (nI_m9 (by omega)) ?_
    refine am_vt e rfl ?_
    refine Exists.intro 1 (Exists.intro _ (Exists.intro _ ⟨by decide, c_P_sky hp h ka n e hn d, ?_⟩))
    exact L 7 0 (by omega)
  · have em : ∀ z, mayG (gP d) kf n z = false := by
      intro z
      unfold mayG
      rw [hd, decide_eq_false hi, Bool.false_and]
    refine hG 200 _ _ _ _ _ _ ?_
    refine am_vt e rfl ?_
    refine Exists.intro 1 (Exists.intro _ (Exists.intro _ ⟨by decide, c_P_dueNow hp h ka n e hn d, ?_⟩))
    rw [hd, dueR_no hi]
    refine bn_f rfl ?_
    refine ⟨?_, rfl, rfl, rfl⟩
    have h7 : hgtG (mayG (gP d) kf n) 7 = nI 0 := by
      have hs : ∀ k, hgtG (mayG (gP d) kf n) k = nI 0 := by
        intro k
        induction k with
        | zero => rfl
        | succ k ih => rw [hgtG_f (em _), or0, ih]
      exact hs 7
    rw [h7]

theorem c_P_thrown (hp : List Am_C) (h ka n : Nat) (e : hp[h]? = some (.inr (6, [.int (nI n), .ref ka]))) (hn : n ≤ 6) (kd : Nat → Nat) (kf : Nat → Int32) (e2 : hp[ka]? = some (.inl (0, 6, .inl kf))) (hk : ∀ i, i < n → kf i = nI (kd i) ∧ kd i < 6) (d : Int32) (q i : Nat) (hq : 1 ≤ q ∧ q ≤ 7) (hd : dueG (gP d) n 0 = i) (hi : i < n) : Am_Ev false 2 0 0 57 [.ref h, .int d, .int (nI q)] (hp) (some (.int (latP n (withP d (nI i) (landI (kf i) (nI q))) (nI 1)))) (hp) := by
  refine am_ev 4 (some .int) false [] ok_P_thrown am_mP_57 (by rw [am_m_57]) (by rw [am_m_57]) (fun h => by cases h) (Nat.le_of_ble_eq_true rfl) ?_
  intro Go hG
  refine hG 200 _ _ _ _ _ _ ?_
  refine am_vt e rfl ?_
  refine Exists.intro 1 (Exists.intro _ (Exists.intro _ ⟨by decide, c_P_dueNow hp h ka n e hn d, ?_⟩))
  rw [hd, dueR_yes hi]
  refine bn_t (nI_m9 (by omega)) ?_
  refine am_ob_of e ?_
  refine am_ai_of e2 rfl ?_
  refine Exists.intro i ⟨by omega, rfl, ?_⟩
  have hc := c_K_flight hp (kd i) q (hk i hi).2 hq
  rw [← (hk i hi).1] at hc
  refine Exists.intro 1 (Exists.intro _ (Exists.intro _ ⟨by decide, hc, ?_⟩))
  refine Exists.intro 0 (Exists.intro _ (Exists.intro _ ⟨by decide, c_P_with _ _ _ _, ?_⟩))
  refine am_vt e rfl ?_
  refine Exists.intro 0 (Exists.intro _ (Exists.intro _ ⟨by decide, c_P_later hp h ka n e hn _ _, ?_⟩))
  exact ⟨rfl, rfl, rfl, rfl⟩

