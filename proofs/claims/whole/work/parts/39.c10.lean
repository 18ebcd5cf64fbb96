/-! ===== the class: fault, things ===== -/
theorem c_K_byLetter (hp : List Am_C) (x : Int32) : Am_Ev false 0 0 0 30 [.int x] (hp) (some (.int (dueR 6 (ktN x)))) (hp) := by
  refine am_ev 2 (some .int) false [] ok_K_byLetter am_mP_30 (by rw [am_m_30]) (by rw [am_m_30]) (fun h => by cases h) (Nat.le_of_ble_eq_true rfl) ?_
  intro Go hG
  refine hG 200 _ _ _ _ _ _ ?_
  refine br_f (by decide) ?_
  refine Exists.intro 0 ⟨by decide, by decide, ?_⟩
  refine And.intro (fun h0 => ?_) (fun h0 => ⟨by rw [← h0]; decide +kernel, rfl, rfl, rfl⟩)
  refine br_f (by decide) ?_
  refine Exists.intro 1 ⟨by decide, by decide, ?_⟩
  refine And.intro (fun h1 => ?_) (fun h1 => ⟨by rw [← h1]; decide +kernel, rfl, rfl, rfl⟩)
  refine br_f (by decide) ?_
  refine Exists.intro 2 ⟨by decide, by decide, ?_⟩
  refine And.intro (fun h2 => ?_) (fun h2 => ⟨by rw [← h2]; decide +kernel, rfl, rfl, rfl⟩)
  refine br_f (by decide) ?_
  refine Exists.intro 3 ⟨by decide, by decide, ?_⟩
  refine And.intro (fun h3 => ?_) (fun h3 => ⟨by rw [← h3]; decide +kernel, rfl, rfl, rfl⟩)
  refine br_f (by decide) ?_
  refine Exists.intro 4 ⟨by decide, by decide, ?_⟩
  refine And.intro (fun h4 => ?_) (fun h4 => ⟨by rw [← h4]; decide +kernel, rfl, rfl, rfl⟩)
  refine br_f (by decide) ?_
  refine Exists.intro 5 ⟨by decide, by decide, ?_⟩
  refine And.intro (fun h5 => ?_) (fun h5 => ⟨by rw [← h5]; decide +kernel, rfl, rfl, rfl⟩)
  refine br_t (by decide) ?_
  have e : ktN x = 9 := by
    unfold ktN
    rw [if_neg (fun q => h0 q.symm), if_neg (fun q => h1 q.symm), if_neg (fun q => h2 q.symm), if_neg (fun q => h3 q.symm), if_neg (fun q => h4 q.symm), if_neg (fun q => h5 q.symm)]
  exact ⟨by rw [e]; rfl, rfl, rfl, rfl⟩

theorem c_P_begin (I : Nat → Int32) (F : Nat → Nat → Int32) (u v : Int64) : Am_Ev false 0 0 0 29 [.ref 4] (cH I F u v) (none) (cH (upd I 21 (nI 0)) F u v) := by
  refine am_ev 1 none false [] ok_P_begin am_mP_29 (by rw [am_m_29]) (by rw [am_m_29]) (fun h => by cases h) (Nat.le_of_ble_eq_true rfl) ?_
  intro Go hG
  refine hG 200 _ _ _ _ _ _ ?_
  exact ⟨rfl, rfl, rfl, rfl⟩

theorem c_P_add (I : Nat → Int32) (F : Nat → Nat → Int32) (u v : Int64) (x : Int32) (m : Nat) (hm : I 21 = nI m) (hm6 : m < 6) : Am_Ev false 0 0 0 35 [.ref 4, .int x] (cH I F u v) (none) (cH (upd I 21 (I 21 + nI 1)) (va_up F 5 (upd (F 5) m x)) u v) := by
  refine am_ev 2 none false [] ok_P_add am_mP_35 (by rw [am_m_35]) (by rw [am_m_35]) (fun h => by cases h) (Nat.le_of_ble_eq_true rfl) ?_
  intro Go hG
  refine hG 200 _ _ _ _ _ _ ?_
  refine br_f (by rw [hm]; exact nI_ge (by omega) (by omega)) ?_
  refine Exists.intro m ⟨by omega, hm, ?_⟩
  exact ⟨rfl, rfl, rfl, rfl⟩

theorem c_P_takeFrom (I : Nat → Int32) (F : Nat → Nat → Int32) (u v : Int64) : Am_Ev false 1 0 0 37 [.ref 6, .ref 4] (cH I F u v) (none) (cH (upd I 22 (I 21)) (va_up F 7 (va_cpy (F 5) (F 7) 0 0 6)) u v) := by
  refine am_ev 2 none false [] ok_P_takeFrom am_mP_37 (by rw [am_m_37]) (by rw [am_m_37]) (fun h => by cases h) (Nat.le_of_ble_eq_true rfl) ?_
  intro Go hG
  refine hG 200 _ _ _ _ _ _ ?_
  refine Exists.intro 6 (Exists.intro 0 (Exists.intro 0 ⟨rfl, rfl, rfl, by decide, by decide, ?_⟩))
  exact ⟨rfl, rfl, rfl, rfl⟩

theorem hasB_dr {dr : Nat → Nat} {m d : Nat} (hm : m ≤ 6) (hd : ∀ k, k < m → dr k ≤ 9) (h9 : d ≤ 9) : hasB (skyG (gP (nI (pkN dr m))) m) (nI d) = drB dr m d := by
  have h14 : ∀ k, k < m → dr k ≤ 14 := fun k hk => by have := hd k hk; omega
  rw [skyG_congr (h := gN dr) (fun k hk => gP_S (fun j hj => by have := hd j hj; omega) hm hk), show skyG (gN dr) m = skyS m dr from rfl, skyS_N h14, hasB_N (by have := skN_lt h14; omega) (by omega)]
  cases h : drB dr m d with
  | true => exact skN_bit.mpr (drB_iff.mp h)
  | false =>
    cases h2 : (skN dr m).testBit d with
    | false => rfl
    | true => rw [drB_iff.mpr (skN_bit.mp h2)] at h; cases h

theorem c_L_isFreeFigure (I : Nat → Int32) (F : Nat → Nat → Int32) (u v : Int64) (m : Nat) (dr : Nat → Nat) (h20 : I 20 = nI (pkN dr m)) (h21 : I 21 = nI m) (hm : m ≤ 6) (hd : ∀ k, k < m → dr k ≤ 9) (x : Int32) : Am_Ev false 2 0 0 31 [.ref 3, .int x] (cH I F u v) (some (.int (b2 (fgB x && !drB dr m (fgN x))))) (cH I F u v) := by
  refine am_ev 3 (some .boolean) false [] ok_L_isFreeFigure am_mP_31 (by rw [am_m_31]) (by rw [am_m_31]) (fun h => by cases h) (Nat.le_of_ble_eq_true rfl) ?_
  intro Go hG
  refine hG 200 _ _ _ _ _ _ ?_
  refine And.intro (fun h1 => ?_) (fun h1 => And.intro (fun h2 => ?_) (fun h2 => ?_))
  · exact ⟨Or.inl rfl, by rw [show fgB x = false from in3_false (by decide) (by decide) (Or.inl (lt0.mp h1))]; rfl, rfl, rfl, rfl⟩
  · exact ⟨Or.inl rfl, by rw [show fgB x = false from in3_false (by decide) (by decide) (Or.inr ((gtN (by decide)).mp h2))]; rfl, rfl, rfl, rfl⟩
  · have hfg : fgB x = true := in3_true (by decide) (by decide) (by have : ¬ (x - nI 48).toInt < 0 := fun q => h1 (lt0.mpr q); omega) (by have : ¬ ((9 : Nat) : Int) < (x - nI 48).toInt := fun q => h2 ((gtN (by decide)).mpr q); omega)
    obtain ⟨f1, f2⟩ := fg_of hfg
    have hc := c_P_sky (cH I F u v) 4 5 m (by show some _ = some _; rw [h21]) hm (I 20)
    refine Exists.intro 1 (Exists.intro _ (Exists.intro _ ⟨by decide, hc, ?_⟩))
    have hb := hasB_dr hm hd f1
    rw [← h20] at hb
    rw [hfg, Bool.true_and, f2]
    rcases and1 ((skyG (gP (I 20)) m) >>> (nI (fgN x) &&& 31)) with ⟨a1, a2⟩ | ⟨a1, a2⟩
    · refine bn_f a1 ?_
      have e : drB dr m (fgN x) = false := by rw [← hb]; exact decide_eq_false a2
      exact ⟨Or.inr rfl, by rw [e]; rfl, rfl, rfl, rfl⟩
    · refine bn_t a1 ?_
      have e : drB dr m (fgN x) = true := by rw [← hb]; exact decide_eq_true a2
      exact ⟨Or.inl rfl, by rw [e]; rfl, rfl, rfl, rfl⟩

theorem pkN_add {dr : Nat → Nat} {m d : Nat} (hm : m < 6) (hd : ∀ k, k < m → dr k ≤ 9) (h9 : d ≤ 9) : withP (nI (pkN dr m)) (nI m) (nI d) = nI (pkN (setS dr m d) (m + 1)) := by
  have e1 : pkN dr m = pkN (setS dr m 0) (m + 1) := by
    show pkN dr m = 2 ^ (4 * m) * setS dr m 0 m + pkN (setS dr m 0) m
    rw [setS_at, Nat.mul_zero, Nat.zero_add]
    exact pkN_congr (fun k hk => (setS_ne (by omega)).symm)
  rw [e1, withP_S (n := m + 1) (fun k hk => ?_) (by omega) (by omega) (by omega)]
  · congr 1
    refine pkN_congr (fun k hk => ?_)
    by_cases e : k = m
    · rw [e, setS_at, setS_at]
    · rw [setS_ne e, setS_ne e, setS_ne e]
  · by_cases e : k = m
    · rw [e, setS_at]; omega
    · rw [setS_ne e]; have := hd k (by omega); omega

theorem c_L_read (I : Nat → Int32) (F : Nat → Nat → Int32) (u v : Int64) (t z : Nat) (c : Nat → Int32) (ht : t < 4) (hz : I (70 + t) = nI z) (hz2 : z ≤ 60) (hc : ∀ i, i < z → F (31 + 2 * t) i = c i) (kr0 dr0 : Nat → Nat) (R : RdR) (hR : rdT c z (z + 1) 0 0 kr0 dr0 = R) : Am_Ev false 3 0 0 28 [.ref 3, .ref (30 + 2 * t)] (cH I F u v) (some (.int R.1)) (cH (upd (upd I 20 (nI (pkN R.2.2.2 R.2.1))) 21 (nI R.2.1)) (va_up F 5 (mixF R.2.1 R.2.2.1 (F 5))) u v) := by
  refine am_ev 4 (some .int) false [14, 39, 95] ok_L_read am_mP_28 (by rw [am_m_28]) (by rw [am_m_28]) (fun h => by cases h) (Nat.le_of_ble_eq_true rfl) (fun Go hG => ?_)
  have E1 : ∀ (m : Nat) (kr dr : Nat → Nat), (cH (upd (upd I 20 (nI (pkN dr m))) 21 (nI m)) (va_up F 5 (mixF m kr (F 5))) u v)[30 + 2 * t]? = some (.inr (4, [.ref (31 + 2 * t), .int (nI z)])) := by
    intro m kr dr
    rw [cH_txt ht, pk_un (by omega), pk_un (by omega), hz]
  have E2 : ∀ (m : Nat) (kr dr : Nat → Nat), (cH (upd (upd I 20 (nI (pkN dr m))) 21 (nI m)) (va_up F 5 (mixF m kr (F 5))) u v)[31 + 2 * t]? = some (.inl (0, 60, .inl (F (31 + 2 * t)))) := by
    intro m kr dr
    rw [cH_txtc ht, va_up_ne _ _ (by omega)]
  have L : ∀ (f i m : Nat) (kr dr : Nat → Nat), i ≤ z → z < i + f → rdOk m kr dr → rdT c z f i m kr dr = R → ∀ x : Option Value, Go 14 [some (.ref 3), some (.ref (30 + 2 * t)), some (.int (nI i)), x] [] (cH (upd (upd I 20 (nI (pkN dr m))) 21 (nI m)) (va_up F 5 (mixF m kr (F 5))) u v) 0 0 := by
    intro f
    induction f with
    | zero => intro i m kr dr h1 h2; omega
    | succ f ih =>
      intro i m kr dr h1 h2 hok hR x
      have hm6 := hok.1
      unfold rdT at hR
      by_cases hzi : z ≤ i
      · rw [if_pos hzi] at hR
        refine hG 200 _ _ _ _ _ _ ?_
        refine am_ob_of (E1 _ _ _) ?_
        refine br_t (nI_le (by omega) (by omega)) ?_
        by_cases hm0 : m = 0
        · rw [if_pos hm0] at hR
          rw [← hR]
          refine bn_f (by show nI m = 0; rw [hm0]; rfl) ?_
          refine am_ob_of (E1 _ _ _) ?_
          exact ⟨rfl, rfl, rfl, rfl⟩
        · rw [if_neg hm0] at hR
          rw [← hR]
          refine bn_t (by show ¬ nI m = 0; exact fun q => hm0 ((nI_z (by omega)).mp q)) ?_
          exact ⟨rfl, rfl, rfl, rfl⟩
      · rw [if_neg hzi] at hR
        have hci := hc i (by omega)
        by_cases h32 : c i = nI 32
        · rw [if_pos h32] at hR
          have h9 := ih (i + 1) m kr dr (by omega) (by omega) hok hR x
          rw [← nI_s1 i] at h9
          refine hG 200 _ _ _ _ _ _ ?_
          refine am_ob_of (E1 _ _ _) ?_
          refine br_f (nI_ge (by omega) (by omega)) ?_
          refine am_ob_of (E1 _ _ _) ?_
          refine am_ai_of (E2 _ _ _) rfl ?_
          refine Exists.intro i ⟨by omega, rfl, ?_⟩
          refine bn_f (hci.trans h32) ?_
          exact h9
        · rw [if_neg h32] at hR
          refine hG 200 _ _ _ _ _ _ ?_
          refine am_ob_of (E1 _ _ _) ?_
          refine br_f (nI_ge (by omega) (by omega)) ?_
          refine am_ob_of (E1 _ _ _) ?_
          refine am_ai_of (E2 _ _ _) rfl ?_
          refine Exists.intro i ⟨by omega, rfl, ?_⟩
          refine bn_t (fun q => h32 (hci.symm.trans q)) ?_
          show Go 39 [some (.ref 3), some (.ref (30 + 2 * t)), some (.int (nI i)), x] [] (cH (upd (upd I 20 (nI (pkN dr m))) 21 (nI m)) (va_up F 5 (mixF m kr (F 5))) u v) 0 0
          refine hG 200 _ _ _ _ _ _ ?_
          refine am_ob_of (E1 _ _ _) ?_
          refine am_ai_of (E2 _ _ _) rfl ?_
          refine Exists.intro i ⟨by omega, rfl, ?_⟩
          have hbl := c_K_byLetter (cH (upd (upd I 20 (nI (pkN dr m))) 21 (nI m)) (va_up F 5 (mixF m kr (F 5))) u v) (c i)
          rw [← hci] at hbl
          refine Exists.intro 0 (Exists.intro _ (Exists.intro _ ⟨by decide, hbl, ?_⟩))
          rw [hci]
          by_cases hk9 : ktN (c i) = 9
          · rw [if_pos hk9] at hR
            rw [← hR]
            refine br_t (by rw [hk9]; rfl) ?_
            exact ⟨rfl, rfl, rfl, rfl⟩
          · rw [if_neg hk9] at hR
            have hk6 : ktN (c i) < 6 := by rcases ktN_or (c i) with h | h <;> omega
            refine br_f (by rw [dueR_yes hk6]; exact nI_m9 (by omega)) ?_
            by_cases hm : m = 6
            · rw [if_pos hm] at hR
              rw [← hR]
              refine bn_f (by show nI m = nI 6; rw [hm]) ?_
              exact ⟨rfl, rfl, rfl, rfl⟩
            · rw [if_neg hm] at hR
              refine bn_t (by show ¬ nI m = nI 6; exact fun q => hm (by have := congrArg Int32.toInt q; rw [nI_toInt (by omega), nI_toInt (by omega)] at this; omega)) ?_
              refine am_ob_of (E1 _ _ _) ?_
              by_cases hz1 : z ≤ i + 1
              · rw [if_pos hz1] at hR
                rw [← hR]
                refine br_t (by rw [nI_s1]; exact nI_le (by omega) (by omega)) ?_
                exact ⟨by rw [nI_s1], rfl, rfl, rfl⟩
              · rw [if_neg hz1] at hR
                have hci1 := hc (i + 1) (by omega)
                refine br_f (by rw [nI_s1]; exact nI_ge (by omega) (by omega)) ?_
                refine am_ob_of (E1 _ _ _) ?_
                refine am_ai_of (E2 _ _ _) rfl ?_
                refine Exists.intro (i + 1) ⟨by omega, nI_s1 i, ?_⟩
                have hff := c_L_isFreeFigure (upd (upd I 20 (nI (pkN dr m))) 21 (nI m)) (va_up F 5 (mixF m kr (F 5))) u v m dr rfl rfl hm6 (fun k q => (hok.2.1 k q).2) (c (i + 1))
                rw [← hci1] at hff
                refine Exists.intro 2 (Exists.intro _ (Exists.intro _ ⟨by decide, hff, ?_⟩))
                rw [hci1]
                cases hfg : fgB (c (i + 1)) with
                | false =>
                  rw [if_pos hfg] at hR
                  rw [← hR]
                  refine bn_f rfl ?_
                  exact ⟨by rw [nI_s1], rfl, rfl, rfl⟩
                | true =>
                  rw [if_neg (by rw [hfg]; decide)] at hR
                  obtain ⟨f1, f2⟩ := fg_of hfg
                  cases h3 : drB dr m (fgN (c (i + 1))) with
                  | true =>
                    rw [if_pos h3] at hR
                    rw [← hR]
                    refine bn_f rfl ?_
                    exact ⟨by rw [nI_s1], rfl, rfl, rfl⟩
                  | false =>
                    rw [if_neg (by rw [h3]; decide)] at hR
                    refine bn_t (by decide) ?_
                    show Go 95 [some (.ref 3), some (.ref (30 + 2 * t)), some (.int (nI i + nI 1)), some (.int (dueR 6 (ktN (c i))))] [] (cH (upd (upd I 20 (nI (pkN dr m))) 21 (nI m)) (va_up F 5 (mixF m kr (F 5))) u v) 0 0
                    have h9 := ih (i + 2) (m + 1) _ _ (by omega) (by omega) (rdOk_s hok (by omega) hk6 f1 h3) hR (some (.int (dueR 6 (ktN (c i)))))
                    rw [← mixF_s m kr, ← nI_s1 m, ← pkN_add (by omega) (fun k q => (hok.2.1 k q).2) f1, ← f2, show i + 2 = i + 1 + 1 from rfl, ← nI_s1, ← nI_s1, ← dueR_yes hk6] at h9
                    refine hG 200 _ _ _ _ _ _ ?_
                    refine am_ob_of (E1 _ _ _) ?_
                    refine am_ai_of (E2 _ _ _) rfl ?_
                    refine Exists.intro (i + 1) ⟨by omega, nI_s1 i, ?_⟩
                    refine Exists.intro 0 (Exists.intro _ (Exists.intro _ ⟨by decide, c_P_with _ _ _ _, ?_⟩))
                    rw [hci1]
                    have had := c_P_add (upd (upd I 20 (withP (nI (pkN dr m)) (nI m) (c (i + 1) - nI 48))) 21 (nI m)) (va_up F 5 (mixF m kr (F 5))) u v (dueR 6 (ktN (c i))) m rfl (by omega)
                    refine Exists.intro 0 (Exists.intro _ (Exists.intro _ ⟨by decide, had, ?_⟩))
                    exact h9
  refine hG 200 _ _ _ _ _ _ ?_
  have hb := c_P_begin I F u v
  refine Exists.intro 0 (Exists.intro _ (Exists.intro _ ⟨by decide, hb, ?_⟩))
  have h8 := L (z + 1) 0 0 kr0 dr0 (by omega) (by omega) (rdOk_0 _ _) hR none
  rw [mixF_0] at h8
  exact h8

