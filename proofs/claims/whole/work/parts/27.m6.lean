/-! ===== the reference's deeds ===== -/
theorem skyM_push {I : Nat → Int32} {F : Nat → Nat → Int32} {S : Sta} {w2 : Nat → Int32} {d t : Nat → Nat} {b : Nat} (hx : RMx I F S) (hm : (eE S).1 < 40) (e : ∀ j, 13 ≤ j → w2 j = remW (F 1) (eE S).1 j) (h1 : ∀ k, k < eN S → w2 k = nI (d k) ∧ w2 (6 + k) = nI (t k)) (h2 : w2 12 = nI b) (ha : apart (eN S) d) : RMx I (va_up F 1 w2) (sE S (pushE (eE S) d t b)) := by
  obtain ⟨⟨g1, g2, g3, g4, g5, g6⟩, hr, ht, hl⟩ := hx
  refine ⟨⟨g1, g2, g3, evM_push g4 g2 hm e h1 h2, gdE_push g5 ha, fun q hq => ?_⟩, hr, ht, hl⟩
  have g7 := g6 q hq
  show match eP S q with
    | none => F 3 q = -nI 1
    | some E => F 3 q = nI E.1 ∧ evM w2 (534 * (q + 1)) (eN S) E ∧ gdE (eN S) E
  have g8 : match eP S q with
    | none => F 3 q = -nI 1
    | some E => F 3 q = nI E.1 ∧ evM (F 1) (534 * (q + 1)) (eN S) E ∧ gdE (eN S) E := g7
  cases he : eP S q with
  | none => rw [he] at g8; exact g8
  | some E2 =>
    rw [he] at g8
    obtain ⟨a1, a2, a3⟩ := g8
    exact ⟨a1, evM_congr a2 g2 (fun j h3 h4 => by rw [e j (by omega), remW_hi hm (by omega)]), a3⟩

theorem pm_M_toss (S : Sta) (hp : List Am_C) (hRM : RM S hp) (h : Int32) : ∃ hp', Am_Ev false 4 0 0 161 [.ref 0, .int h] hp (some (.int (spToss S h).1)) hp' ∧ RM (spToss S h).2 hp' := by
  obtain ⟨I, F, rfl, hx⟩ := hRM
  obtain ⟨hs, hr, ht, hl⟩ := id hx
  obtain ⟨g1, g2, g3, g4, g5, g6⟩ := hs
  have hI : I 2 = nI (eN S) := g1
  have hn : eN S ≤ 6 := g2
  have hk : ∀ i, i < eN S → F 2 i = nI (eK S i) ∧ eK S i < 6 := g3
  have hE : evM (F 1) 0 (eN S) (eE S) := g4
  have hG5 : gdE (eN S) (eE S) := g5
  have hap : apart (eN S) (duE (eE S)) := hG5 _ (Nat.le_refl _)
  obtain ⟨v1, v2, v3, v4, v5⟩ := id hE
  have hw : ∀ k, k < eN S → F 1 (0 + k) = nI (duE (eE S) k) := fun k q => (v3 k q).1
  have hw2 : ∀ k, k < eN S → F 1 k = nI (duE (eE S) k) := fun k q => by have := hw k q; rw [Nat.zero_add] at this; exact this
  have hm33 : F 1 533 = nI (eE S).1 := by have := v2; rw [Nat.zero_add] at this; exact this
  have eSky : skyG (fun i => F 1 (0 + i)) (eN S) = skyS (eN S) (duE (eE S)) := skyG_congr hw
  have eDue : dueG (fun i => F 1 (0 + i)) (eN S) 0 = dueS (eN S) (duE (eE S)) := dueG_congr hw _ 0 (by omega)
  have eMay : ∀ z, mayG (fun i => F 1 (0 + i)) (F 2) (eN S) z = mayS (eN S) (eK S) (duE (eE S)) z := fun z => mayG_congr hw (fun k q => (hk k q).1) z
  unfold spToss
  cases ho : okH h with
  | false =>
    rw [if_pos rfl]
    have hc := c_M_isHeight (mH I F S.2.2.2.2.2.2.1 S.2.2.2.2.2.2.2) h
    rw [show in3 h (nI 1) (nI 7) = false from ho] at hc
    refine ⟨_, am_ev 2 (some .int) false [] ok_M_toss am_mP_161 (by rw [am_m_161]) (by rw [am_m_161]) (fun h => by cases h) (Nat.le_of_ble_eq_true rfl) (fun Go hG => ?_), RM_of hx⟩
    refine hG 200 _ _ _ _ _ _ ?_
    refine Exists.intro 1 (Exists.intro _ (Exists.intro _ ⟨by decide, hc, ?_⟩))
    refine bn_f rfl ?_
    exact ⟨rfl, rfl, rfl, rfl⟩
  | true =>
    rw [if_neg (by decide)]
    have hc := c_M_isHeight (mH I F S.2.2.2.2.2.2.1 S.2.2.2.2.2.2.2) h
    rw [show in3 h (nI 1) (nI 7) = true from ho] at hc
    obtain ⟨q, hq1, hq2, rfl⟩ := in3_nat (by decide) (by decide) ho
    rw [nat_nI (by omega)]
    have hmc := c_M_mayAt I F S.2.2.2.2.2.2.1 S.2.2.2.2.2.2.2 (eN S) 0 (nI q) hI hn (by omega)
    rw [eMay] at hmc
    cases hm : mayS (eN S) (eK S) (duE (eE S)) (nI q) with
    | false =>
      rw [if_pos rfl]
      rw [hm] at hmc
      refine ⟨_, am_ev 2 (some .int) false [] ok_M_toss am_mP_161 (by rw [am_m_161]) (by rw [am_m_161]) (fun h => by cases h) (Nat.le_of_ble_eq_true rfl) (fun Go hG => ?_), RM_of hx⟩
      refine hG 200 _ _ _ _ _ _ ?_
      refine Exists.intro 1 (Exists.intro _ (Exists.intro _ ⟨by decide, hc, ?_⟩))
      refine bn_t (by decide) ?_
      refine Exists.intro 1 (Exists.intro _ (Exists.intro _ ⟨by decide, hmc, ?_⟩))
      refine bn_f rfl ?_
      exact ⟨rfl, rfl, rfl, rfl⟩
    | true =>
      rw [if_neg (by decide)]
      rw [hm] at hmc
      by_cases h40 : (eE S).1 = 40
      · rw [if_pos h40]
        refine ⟨_, am_ev 2 (some .int) false [] ok_M_toss am_mP_161 (by rw [am_m_161]) (by rw [am_m_161]) (fun h => by cases h) (Nat.le_of_ble_eq_true rfl) (fun Go hG => ?_), RM_of hx⟩
        refine hG 200 _ _ _ _ _ _ ?_
        refine Exists.intro 1 (Exists.intro _ (Exists.intro _ ⟨by decide, hc, ?_⟩))
        refine bn_t (by decide) ?_
        refine Exists.intro 1 (Exists.intro _ (Exists.intro _ ⟨by decide, hmc, ?_⟩))
        refine bn_t (by decide) ?_
        refine Exists.intro 533 ⟨by omega, rfl, ?_⟩
        refine bn_f (by rw [hm33, h40]) ?_
        exact ⟨rfl, rfl, rfl, rfl⟩
      · rw [if_neg h40]
        have hlt : (eE S).1 < 40 := by omega
        obtain ⟨hi, hv, hf⟩ := (mayS_iff hap.1 (fun i q => (hk i q).2) ⟨hq1, hq2⟩).mp hm
        obtain ⟨ap1, ap2⟩ := tos_pos hap (fun i q => (hk i q).2) ⟨hq1, hq2⟩ hm
        have hr1 := c_M_remember I F S.2.2.2.2.2.2.1 S.2.2.2.2.2.2.2 (eE S).1 hm33 hlt
        have hwr : ∀ k, k < eN S → va_up F 1 (remW (F 1) (eE S).1) 1 (0 + k) = nI (duE (eE S) k) := by
          intro k q
          rw [va_up_self, Nat.zero_add, remW_lo (by omega)]
          exact hw2 k q
        have hr2 := c_M_tossAt I (va_up F 1 (remW (F 1) (eE S).1)) S.2.2.2.2.2.2.1 S.2.2.2.2.2.2.2 (eN S) 0 (dueS (eN S) (duE (eE S))) (nI q) hI hn (by omega) (dueG_congr hwr _ 0 (by omega)) hi
        rw [va_up_up] at hr2
        have hx2 := skyM_push (w2 := tosW (remW (F 1) (eE S).1) (F 2) 0 (eN S) (dueS (eN S) (duE (eE S))) (nI q)) (d := tosS (eN S) (eK S) (duE (eE S)) q) (t := incS (thE (eE S)) (dueS (eN S) (duE (eE S)))) (b := btE (eE S) + 1) hx hlt (fun j hj => tosW_out hn hi (by omega)) (fun k hk2 => ?_) ?_ (apart_tos hap (fun i q => (hk i q).2) ⟨hq1, hq2⟩ hm)
        · have hr3 := c_M_skyAt I (va_up F 1 (tosW (remW (F 1) (eE S).1) (F 2) 0 (eN S) (dueS (eN S) (duE (eE S))) (nI q))) S.2.2.2.2.2.2.1 S.2.2.2.2.2.2.2 (eN S) 0 hI hn (by omega)
          have eS2 : skyG (fun i => va_up F 1 (tosW (remW (F 1) (eE S).1) (F 2) 0 (eN S) (dueS (eN S) (duE (eE S))) (nI q)) 1 (0 + i)) (eN S) = skyS (eN S) (tosS (eN S) (eK S) (duE (eE S)) q) := skyG_congr (fun k hk2 => tosW_S (x := 0) (fun k q => by have := hwr k q; rw [va_up_self] at this; exact this) (hk _ hi).1 hn hi (hk _ hi).2 ⟨hq1, hq2⟩ hv ap2 k hk2)
          rw [eS2] at hr3
          refine ⟨_, am_ev 2 (some .int) false [] ok_M_toss am_mP_161 (by rw [am_m_161]) (by rw [am_m_161]) (fun h => by cases h) (Nat.le_of_ble_eq_true rfl) (fun Go hG => ?_), RM_of hx2⟩
          refine hG 200 _ _ _ _ _ _ ?_
          refine Exists.intro 1 (Exists.intro _ (Exists.intro _ ⟨by decide, hc, ?_⟩))
          refine bn_t (by decide) ?_
          refine Exists.intro 1 (Exists.intro _ (Exists.intro _ ⟨by decide, hmc, ?_⟩))
          refine bn_t (by decide) ?_
          refine Exists.intro 533 ⟨by omega, rfl, ?_⟩
          refine bn_t (by rw [hm33]; intro q0; exact h40 ((nI_eq (by omega) (by decide)).mp q0)) ?_
          refine Exists.intro 1 (Exists.intro _ (Exists.intro _ ⟨by decide, hr1, ?_⟩))
          refine Exists.intro 1 (Exists.intro _ (Exists.intro _ ⟨by decide, hr2, ?_⟩))
          refine Exists.intro 0 (Exists.intro _ (Exists.intro _ ⟨by decide, hr3, ?_⟩))
          exact ⟨rfl, rfl, rfl, rfl⟩
        · constructor
          · have := tosW_S (x := 0) (fun k q => by have := hwr k q; rw [va_up_self] at this; exact this) (hk _ hi).1 hn hi (hk _ hi).2 ⟨hq1, hq2⟩ hv ap2 k hk2
            rw [Nat.zero_add] at this
            exact this
          · have h6 := tosW_th (w := remW (F 1) (eE S).1) (kf := F 2) (x := 0) (h := nI q) (k := k) (by omega) hn hi
            rw [Nat.zero_add] at h6
            rw [h6, remW_lo (by omega)]
            have h7 := (v3 k hk2).2
            rw [Nat.zero_add] at h7
            rw [h7]
            unfold incS
            by_cases hki : k = dueS (eN S) (duE (eE S))
            · rw [if_pos hki, if_pos hki, nI_s1]
              rfl
            · rw [if_neg hki, if_neg hki]
              rfl
        · have h6 := tosW_bt (w := remW (F 1) (eE S).1) (kf := F 2) (x := 0) (h := nI q) hn hi
          rw [Nat.zero_add] at h6
          rw [h6, remW_lo (by omega)]
          have h7 := v4
          rw [Nat.zero_add] at h7
          rw [h7, nI_s1]
          rfl

theorem pm_M_rest (S : Sta) (hp : List Am_C) (hRM : RM S hp)  : ∃ hp', Am_Ev false 4 0 0 171 [.ref 0] hp (some (.int (spRest S).1)) hp' ∧ RM (spRest S).2 hp' := by
  obtain ⟨I, F, rfl, hx⟩ := hRM
  obtain ⟨hs, hr, ht, hl⟩ := id hx
  obtain ⟨g1, g2, g3, g4, g5, g6⟩ := hs
  have hI : I 2 = nI (eN S) := g1
  have hn : eN S ≤ 6 := g2
  have hk : ∀ i, i < eN S → F 2 i = nI (eK S i) ∧ eK S i < 6 := g3
  have hE : evM (F 1) 0 (eN S) (eE S) := g4
  have hG5 : gdE (eN S) (eE S) := g5
  have hap : apart (eN S) (duE (eE S)) := hG5 _ (Nat.le_refl _)
  obtain ⟨v1, v2, v3, v4, v5⟩ := id hE
  have hw : ∀ k, k < eN S → F 1 (0 + k) = nI (duE (eE S) k) := fun k q => (v3 k q).1
  have hw2 : ∀ k, k < eN S → F 1 k = nI (duE (eE S) k) := fun k q => by have := hw k q; rw [Nat.zero_add] at this; exact this
  have hm33 : F 1 533 = nI (eE S).1 := by have := v2; rw [Nat.zero_add] at this; exact this
  have eSky : skyG (fun i => F 1 (0 + i)) (eN S) = skyS (eN S) (duE (eE S)) := skyG_congr hw
  have eDue : dueG (fun i => F 1 (0 + i)) (eN S) 0 = dueS (eN S) (duE (eE S)) := dueG_congr hw _ 0 (by omega)
  have eMay : ∀ z, mayG (fun i => F 1 (0 + i)) (F 2) (eN S) z = mayS (eN S) (eK S) (duE (eE S)) z := fun z => mayG_congr hw (fun k q => (hk k q).1) z
  unfold spRest
  by_cases h0 : eN S = 0
  · rw [if_pos h0]
    refine ⟨_, am_ev 1 (some .int) false [] ok_M_rest am_mP_171 (by rw [am_m_171]) (by rw [am_m_171]) (fun h => by cases h) (Nat.le_of_ble_eq_true rfl) (fun Go hG => ?_), RM_of hx⟩
    refine hG 200 _ _ _ _ _ _ ?_
    refine br_t (by rw [hI, h0]; rfl) ?_
    exact ⟨rfl, rfl, rfl, rfl⟩
  · rw [if_neg h0]
    have hz : ¬ I 2 = 0 := by rw [hI]; exact nI_ne0 (by omega) (by omega)
    have hdc := c_M_dueAt I F S.2.2.2.2.2.2.1 S.2.2.2.2.2.2.2 (eN S) 0 hI hn (by omega)
    rw [eDue] at hdc
    by_cases hd : dueS (eN S) (duE (eE S)) < eN S
    · rw [if_pos hd]
      rw [dueR_yes hd] at hdc
      refine ⟨_, am_ev 1 (some .int) false [] ok_M_rest am_mP_171 (by rw [am_m_171]) (by rw [am_m_171]) (fun h => by cases h) (Nat.le_of_ble_eq_true rfl) (fun Go hG => ?_), RM_of hx⟩
      refine hG 200 _ _ _ _ _ _ ?_
      refine br_f hz ?_
      refine Exists.intro 0 (Exists.intro _ (Exists.intro _ ⟨by decide, hdc, ?_⟩))
      refine br_f (nI_m9 (by omega)) ?_
      exact ⟨rfl, rfl, rfl, rfl⟩
    · rw [if_neg hd]
      rw [dueR_no hd] at hdc
      by_cases h40 : (eE S).1 = 40
      · rw [if_pos h40]
        refine ⟨_, am_ev 1 (some .int) false [] ok_M_rest am_mP_171 (by rw [am_m_171]) (by rw [am_m_171]) (fun h => by cases h) (Nat.le_of_ble_eq_true rfl) (fun Go hG => ?_), RM_of hx⟩
        refine hG 200 _ _ _ _ _ _ ?_
        refine br_f hz ?_
        refine Exists.intro 0 (Exists.intro _ (Exists.intro _ ⟨by decide, hdc, ?_⟩))
        refine br_t rfl ?_
        refine Exists.intro 533 ⟨by omega, rfl, ?_⟩
        refine bn_f (by rw [hm33, h40]) ?_
        exact ⟨rfl, rfl, rfl, rfl⟩
      · rw [if_neg h40]
        have hlt : (eE S).1 < 40 := by omega
        have hpos := dueS_pos hd
        have hr1 := c_M_remember I F S.2.2.2.2.2.2.1 S.2.2.2.2.2.2.2 (eE S).1 hm33 hlt
        have hr2 := c_M_later I (va_up F 1 (remW (F 1) (eE S).1)) S.2.2.2.2.2.2.1 S.2.2.2.2.2.2.2 (eN S) 0 hI hn (by omega)
        rw [va_up_up] at hr2
        have hlat : ∀ k, k < eN S → latF (va_up F 1 (remW (F 1) (eE S).1) 1) 0 (eN S) (0 + k) = nI (latS 1 (duE (eE S)) k) := by
          intro k hk2
          rw [latF_at hk2 hn, va_up_self, Nat.zero_add, remW_lo (by omega), hw2 k hk2, pk_sub (hpos k hk2)]
          rfl
        have hx2 := skyM_push (w2 := latF (va_up F 1 (remW (F 1) (eE S).1) 1) 0 (eN S)) (d := latS 1 (duE (eE S))) (t := thE (eE S)) (b := btE (eE S) + 1) hx hlt (fun j hj => by rw [latF_out hn (by omega), va_up_self]) (fun k hk2 => ?_) ?_ (apart_lat hap hpos)
        · have hr3 := c_M_skyAt I (va_up F 1 (latF (va_up F 1 (remW (F 1) (eE S).1) 1) 0 (eN S))) S.2.2.2.2.2.2.1 S.2.2.2.2.2.2.2 (eN S) 0 hI hn (by omega)
          have eS2 : skyG (fun i => va_up F 1 (latF (va_up F 1 (remW (F 1) (eE S).1) 1) 0 (eN S)) 1 (0 + i)) (eN S) = skyS (eN S) (latS 1 (duE (eE S))) := skyG_congr hlat
          rw [eS2] at hr3
          refine ⟨_, am_ev 1 (some .int) false [] ok_M_rest am_mP_171 (by rw [am_m_171]) (by rw [am_m_171]) (fun h => by cases h) (Nat.le_of_ble_eq_true rfl) (fun Go hG => ?_), RM_of hx2⟩
          refine hG 200 _ _ _ _ _ _ ?_
          refine br_f hz ?_
          refine Exists.intro 0 (Exists.intro _ (Exists.intro _ ⟨by decide, hdc, ?_⟩))
          refine br_t rfl ?_
          refine Exists.intro 533 ⟨by omega, rfl, ?_⟩
          refine bn_t (by rw [hm33]; intro q0; exact h40 ((nI_eq (by omega) (by decide)).mp q0)) ?_
          refine Exists.intro 1 (Exists.intro _ (Exists.intro _ ⟨by decide, hr1, ?_⟩))
          refine Exists.intro 0 (Exists.intro _ (Exists.intro _ ⟨by decide, hr2, ?_⟩))
          refine Exists.intro 0 (Exists.intro _ (Exists.intro _ ⟨by decide, hr3, ?_⟩))
          exact ⟨rfl, rfl, rfl, rfl⟩
        · constructor
          · have := hlat k hk2
            rw [Nat.zero_add] at this
            exact this
          · have h6 := latF_th (w := va_up F 1 (remW (F 1) (eE S).1) 1) (x := 0) (n := eN S) (k := k) (by omega) hn
            rw [Nat.zero_add] at h6
            rw [h6, va_up_self, remW_lo (by omega)]
            have h7 := (v3 k hk2).2
            rw [Nat.zero_add] at h7
            exact h7
        · have h6 := latF_bt (w := va_up F 1 (remW (F 1) (eE S).1) 1) (x := 0) (n := eN S) hn
          rw [Nat.zero_add] at h6
          rw [h6, va_up_self, remW_lo (by omega)]
          have h7 := v4
          rw [Nat.zero_add] at h7
          rw [h7, nI_s1]
          rfl

theorem pm_M_lands (S : Sta) (hp : List Am_C) (hRM : RM S hp) (i h : Int32) : ∃ hp', Am_Ev false 4 0 0 177 [.ref 0, .int i, .int h] hp (some (.int (spLands S i h).1)) hp' ∧ RM (spLands S i h).2 hp' := by
  obtain ⟨I, F, rfl, hx⟩ := hRM
  obtain ⟨hs, hr, ht, hl⟩ := id hx
  obtain ⟨g1, g2, g3, g4, g5, g6⟩ := hs
  have hI : I 2 = nI (eN S) := g1
  have hn : eN S ≤ 6 := g2
  have hk : ∀ i, i < eN S → F 2 i = nI (eK S i) ∧ eK S i < 6 := g3
  have hE : evM (F 1) 0 (eN S) (eE S) := g4
  have hG5 : gdE (eN S) (eE S) := g5
  have hap : apart (eN S) (duE (eE S)) := hG5 _ (Nat.le_refl _)
  obtain ⟨v1, v2, v3, v4, v5⟩ := id hE
  have hw : ∀ k, k < eN S → F 1 (0 + k) = nI (duE (eE S) k) := fun k q => (v3 k q).1
  have hw2 : ∀ k, k < eN S → F 1 k = nI (duE (eE S) k) := fun k q => by have := hw k q; rw [Nat.zero_add] at this; exact this
  have hm33 : F 1 533 = nI (eE S).1 := by have := v2; rw [Nat.zero_add] at this; exact this
  have eSky : skyG (fun i => F 1 (0 + i)) (eN S) = skyS (eN S) (duE (eE S)) := skyG_congr hw
  have eDue : dueG (fun i => F 1 (0 + i)) (eN S) 0 = dueS (eN S) (duE (eE S)) := dueG_congr hw _ 0 (by omega)
  have eMay : ∀ z, mayG (fun i => F 1 (0 + i)) (F 2) (eN S) z = mayS (eN S) (eK S) (duE (eE S)) z := fun z => mayG_congr hw (fun k q => (hk k q).1) z
  unfold spLands
  have hc1 := c_M_isThing I F S.2.2.2.2.2.2.1 S.2.2.2.2.2.2.2 i
  rw [hI] at hc1
  cases ho : okI S i with
  | false =>
    rw [if_pos rfl]
    rw [show in3 i (nI 0) (nI (eN S) - nI 1) = false from ho] at hc1
    refine ⟨_, am_ev 3 (some .int) false [] ok_M_lands am_mP_177 (by rw [am_m_177]) (by rw [am_m_177]) (fun h => by cases h) (Nat.le_of_ble_eq_true rfl) (fun Go hG => ?_), RM_of hx⟩
    refine hG 200 _ _ _ _ _ _ ?_
    refine Exists.intro 1 (Exists.intro _ (Exists.intro _ ⟨by decide, hc1, ?_⟩))
    refine br_t rfl ?_
    exact ⟨rfl, rfl, rfl, rfl⟩
  | true =>
    rw [if_neg (by decide)]
    rw [show in3 i (nI 0) (nI (eN S) - nI 1) = true from ho] at hc1
    obtain ⟨q, hq, rfl⟩ := in3_nat2 (k := eN S) (by omega) rfl ho
    rw [nat_nI (by omega)]
    have hc2 := c_M_isHeight (mH I F S.2.2.2.2.2.2.1 S.2.2.2.2.2.2.2) h
    cases ho2 : okH h with
    | false =>
      rw [if_pos rfl]
      rw [show in3 h (nI 1) (nI 7) = false from ho2] at hc2
      refine ⟨_, am_ev 3 (some .int) false [] ok_M_lands am_mP_177 (by rw [am_m_177]) (by rw [am_m_177]) (fun h => by cases h) (Nat.le_of_ble_eq_true rfl) (fun Go hG => ?_), RM_of hx⟩
      refine hG 200 _ _ _ _ _ _ ?_
      refine Exists.intro 1 (Exists.intro _ (Exists.intro _ ⟨by decide, hc1, ?_⟩))
      refine br_f (by decide) ?_
      refine Exists.intro 1 (Exists.intro _ (Exists.intro _ ⟨by decide, hc2, ?_⟩))
      refine br_t rfl ?_
      exact ⟨rfl, rfl, rfl, rfl⟩
    | true =>
      rw [if_neg (by decide)]
      rw [show in3 h (nI 1) (nI 7) = true from ho2] at hc2
      refine ⟨_, am_ev 3 (some .int) false [] ok_M_lands am_mP_177 (by rw [am_m_177]) (by rw [am_m_177]) (fun h => by cases h) (Nat.le_of_ble_eq_true rfl) (fun Go hG => ?_), RM_of hx⟩
      refine hG 200 _ _ _ _ _ _ ?_
      refine Exists.intro 1 (Exists.intro _ (Exists.intro _ ⟨by decide, hc1, ?_⟩))
      refine br_f (by decide) ?_
      refine Exists.intro 1 (Exists.intro _ (Exists.intro _ ⟨by decide, hc2, ?_⟩))
      refine br_f (by decide) ?_
      refine Exists.intro q ⟨by omega, rfl, ?_⟩
      refine Exists.intro 0 (Exists.intro _ (Exists.intro _ ⟨by decide, c_M_landing _ _ _, ?_⟩))
      exact ⟨by rw [(hk q hq).1], rfl, rfl, rfl⟩

theorem pm_M_may (S : Sta) (hp : List Am_C) (hRM : RM S hp)  : ∃ hp', Am_Ev false 4 0 0 178 [.ref 0] hp (some (.int (spMay S).1)) hp' ∧ RM (spMay S).2 hp' := by
  obtain ⟨I, F, rfl, hx⟩ := hRM
  obtain ⟨hs, hr, ht, hl⟩ := id hx
  obtain ⟨g1, g2, g3, g4, g5, g6⟩ := hs
  have hI : I 2 = nI (eN S) := g1
  have hn : eN S ≤ 6 := g2
  have hk : ∀ i, i < eN S → F 2 i = nI (eK S i) ∧ eK S i < 6 := g3
  have hE : evM (F 1) 0 (eN S) (eE S) := g4
  have hG5 : gdE (eN S) (eE S) := g5
  have hap : apart (eN S) (duE (eE S)) := hG5 _ (Nat.le_refl _)
  obtain ⟨v1, v2, v3, v4, v5⟩ := id hE
  have hw : ∀ k, k < eN S → F 1 (0 + k) = nI (duE (eE S) k) := fun k q => (v3 k q).1
  have hw2 : ∀ k, k < eN S → F 1 k = nI (duE (eE S) k) := fun k q => by have := hw k q; rw [Nat.zero_add] at this; exact this
  have hm33 : F 1 533 = nI (eE S).1 := by have := v2; rw [Nat.zero_add] at this; exact this
  have eSky : skyG (fun i => F 1 (0 + i)) (eN S) = skyS (eN S) (duE (eE S)) := skyG_congr hw
  have eDue : dueG (fun i => F 1 (0 + i)) (eN S) 0 = dueS (eN S) (duE (eE S)) := dueG_congr hw _ 0 (by omega)
  have eMay : ∀ z, mayG (fun i => F 1 (0 + i)) (F 2) (eN S) z = mayS (eN S) (eK S) (duE (eE S)) z := fun z => mayG_congr hw (fun k q => (hk k q).1) z
  unfold spMay
  by_cases h0 : eN S = 0
  · rw [if_pos h0]
    refine ⟨_, am_ev 1 (some .int) false [] ok_M_may am_mP_178 (by rw [am_m_178]) (by rw [am_m_178]) (fun h => by cases h) (Nat.le_of_ble_eq_true rfl) (fun Go hG => ?_), RM_of hx⟩
    refine hG 200 _ _ _ _ _ _ ?_
    refine bn_f (by rw [hI, h0]; rfl) ?_
    exact ⟨rfl, rfl, rfl, rfl⟩
  · rw [if_neg h0]
    have hz : ¬ I 2 = 0 := by rw [hI]; exact nI_ne0 (by omega) (by omega)
    have hdc := c_M_dueAt I F S.2.2.2.2.2.2.1 S.2.2.2.2.2.2.2 (eN S) 0 hI hn (by omega)
    rw [eDue] at hdc
    by_cases hd : dueS (eN S) (duE (eE S)) < eN S
    · rw [if_pos hd]
      rw [dueR_yes hd] at hdc
      have hh := c_M_heightsAt (upd I 8 (nI (dueS (eN S) (duE (eE S))))) F S.2.2.2.2.2.2.1 S.2.2.2.2.2.2.2 (eN S) 0 hI hn (by omega)
      rw [hgtG_congr eMay 7] at hh
      refine ⟨_, am_ev 1 (some .int) false [] ok_M_may am_mP_178 (by rw [am_m_178]) (by rw [am_m_178]) (fun h => by cases h) (Nat.le_of_ble_eq_true rfl) (fun Go hG => ?_), RM_tell hx _⟩
      refine hG 200 _ _ _ _ _ _ ?_
      refine bn_t hz ?_
      refine Exists.intro 0 (Exists.intro _ (Exists.intro _ ⟨by decide, hdc, ?_⟩))
      refine bn_t (nI_m9 (by omega)) ?_
      refine Exists.intro 0 (Exists.intro _ (Exists.intro _ ⟨by decide, hdc, ?_⟩))
      refine Exists.intro 2 (Exists.intro _ (Exists.intro _ ⟨by decide, hh, ?_⟩))
      exact ⟨rfl, rfl, rfl, rfl⟩
    · rw [if_neg hd]
      rw [dueR_no hd] at hdc
      refine ⟨_, am_ev 1 (some .int) false [] ok_M_may am_mP_178 (by rw [am_m_178]) (by rw [am_m_178]) (fun h => by cases h) (Nat.le_of_ble_eq_true rfl) (fun Go hG => ?_), RM_of hx⟩
      refine hG 200 _ _ _ _ _ _ ?_
      refine bn_t hz ?_
      refine Exists.intro 0 (Exists.intro _ (Exists.intro _ ⟨by decide, hdc, ?_⟩))
      refine bn_f rfl ?_
      exact ⟨rfl, rfl, rfl, rfl⟩

