/-! ===== the reference: exchange, undo, keep, on ===== -/
theorem pm_M_exchange (S : Sta) (hp : List Am_C) (hRM : RM S hp) (i j : Int32) : ∃ hp', Am_Ev false 4 0 0 172 [.ref 0, .int i, .int j] hp (some (.int (spExch S i j).1)) hp' ∧ RM (spExch S i j).2 hp' := by
  obtain ⟨I, F, rfl, hx⟩ := hRM
  obtain ⟨hs, hr, ht, hl⟩ := id hx
  obtain ⟨g1, g2, g3, g4, g5, g6⟩ := hs
  have hI : I 2 = nI (eN S) := g1
  have hn : eN S ≤ 6 := g2
  have hk : ∀ i, i < eN S → F 2 i = nI (eK S i) ∧ eK S i < 6 := g3
  have hE : evM (F 1) 0 (eN S) (eE S) := g4
  have hG5 : gdE (eN S) (eE S) := g5
  have hap : apart (eN S) (duE (eE S)) := hG5 _ (Nat.le_refl _)
  obtain ⟨v1, v2, v3, v4, v5⟩ := id hE
  have hw : ∀ k, k < eN S → F 1 (0 + k) = nI (duE (eE S) k) := fun k q => (v3 k q).1
  have hw2 : ∀ k, k < eN S → F 1 k = nI (duE (eE S) k) := fun k q => by have := hw k q; rw [Nat.zero_add] at this; exact this
  have hm33 : F 1 533 = nI (eE S).1 := by have := v2; rw [Nat.zero_add] at this; exact this
  have eSky : skyG (fun i => F 1 (0 + i)) (eN S) = skyS (eN S) (duE (eE S)) := skyG_congr hw
  have eDue : dueG (fun i => F 1 (0 + i)) (eN S) 0 = dueS (eN S) (duE (eE S)) := dueG_congr hw _ 0 (by omega)
  have eMay : ∀ z, mayG (fun i => F 1 (0 + i)) (F 2) (eN S) z = mayS (eN S) (eK S) (duE (eE S)) z := fun z => mayG_congr hw (fun k q => (hk k q).1) z
  unfold spExch
  have hc1 := c_M_isThing I F S.2.2.2.2.2.2.1 S.2.2.2.2.2.2.2 i
  rw [hI] at hc1
  cases ho : okI S i with
  | false =>
    rw [if_pos rfl]
    rw [show in3 i (nI 0) (nI (eN S) - nI 1) = false from ho] at hc1
    refine ⟨_, am_ev 3 (some .int) false [] ok_M_exchange am_mP_172 (by rw [am_m_172]) (by rw [am_m_172]) (fun h => by cases h) (Nat.le_of_ble_eq_true rfl) (fun Go hG => ?_), RM_of hx⟩
    refine hG 200 _ _ _ _ _ _ ?_
    refine Exists.intro 1 (Exists.intro _ (Exists.intro _ ⟨by decide, hc1, ?_⟩))
    refine br_t rfl ?_
    exact ⟨rfl, rfl, rfl, rfl⟩
  | true =>
    rw [if_neg (by decide)]
    rw [show in3 i (nI 0) (nI (eN S) - nI 1) = true from ho] at hc1
    obtain ⟨a, ha, rfl⟩ := in3_nat2 (k := eN S) (by omega) rfl ho
    rw [nat_nI (by omega)]
    have hc2 := c_M_isThing I F S.2.2.2.2.2.2.1 S.2.2.2.2.2.2.2 j
    rw [hI] at hc2
    cases ho2 : okI S j with
    | false =>
      rw [if_pos rfl]
      rw [show in3 j (nI 0) (nI (eN S) - nI 1) = false from ho2] at hc2
      refine ⟨_, am_ev 3 (some .int) false [] ok_M_exchange am_mP_172 (by rw [am_m_172]) (by rw [am_m_172]) (fun h => by cases h) (Nat.le_of_ble_eq_true rfl) (fun Go hG => ?_), RM_of hx⟩
      refine hG 200 _ _ _ _ _ _ ?_
      refine Exists.intro 1 (Exists.intro _ (Exists.intro _ ⟨by decide, hc1, ?_⟩))
      refine br_f (by decide) ?_
      refine Exists.intro 1 (Exists.intro _ (Exists.intro _ ⟨by decide, hc2, ?_⟩))
      refine br_t rfl ?_
      exact ⟨rfl, rfl, rfl, rfl⟩
    | true =>
      rw [if_neg (by decide)]
      rw [show in3 j (nI 0) (nI (eN S) - nI 1) = true from ho2] at hc2
      obtain ⟨b, hb, rfl⟩ := in3_nat2 (k := eN S) (by omega) rfl ho2
      rw [nat_nI (by omega)]
      by_cases hab : nI a = nI b
      · rw [if_pos hab]
        refine ⟨_, am_ev 3 (some .int) false [] ok_M_exchange am_mP_172 (by rw [am_m_172]) (by rw [am_m_172]) (fun h => by cases h) (Nat.le_of_ble_eq_true rfl) (fun Go hG => ?_), RM_of hx⟩
        refine hG 200 _ _ _ _ _ _ ?_
        refine Exists.intro 1 (Exists.intro _ (Exists.intro _ ⟨by decide, hc1, ?_⟩))
        refine br_f (by decide) ?_
        refine Exists.intro 1 (Exists.intro _ (Exists.intro _ ⟨by decide, hc2, ?_⟩))
        refine br_f (by decide) ?_
        refine bn_f hab ?_
        exact ⟨rfl, rfl, rfl, rfl⟩
      · rw [if_neg hab]
        have hne : a ≠ b := fun q => hab (by rw [q])
        by_cases h40 : (eE S).1 = 40
        · rw [if_pos h40]
          refine ⟨_, am_ev 3 (some .int) false [] ok_M_exchange am_mP_172 (by rw [am_m_172]) (by rw [am_m_172]) (fun h => by cases h) (Nat.le_of_ble_eq_true rfl) (fun Go hG => ?_), RM_of hx⟩
          refine hG 200 _ _ _ _ _ _ ?_
          refine Exists.intro 1 (Exists.intro _ (Exists.intro _ ⟨by decide, hc1, ?_⟩))
          refine br_f (by decide) ?_
          refine Exists.intro 1 (Exists.intro _ (Exists.intro _ ⟨by decide, hc2, ?_⟩))
          refine br_f (by decide) ?_
          refine bn_t hab ?_
          refine Exists.intro 533 ⟨by omega, rfl, ?_⟩
          refine bn_f (by rw [hm33, h40]) ?_
          exact ⟨rfl, rfl, rfl, rfl⟩
        · rw [if_neg h40]
          have hlt : (eE S).1 < 40 := by omega
          have hr1 := c_M_remember I F S.2.2.2.2.2.2.1 S.2.2.2.2.2.2.2 (eE S).1 hm33 hlt
          have hr2 := c_M_swap I (va_up F 1 (remW (F 1) (eE S).1)) S.2.2.2.2.2.2.1 S.2.2.2.2.2.2.2 a b (by omega) (by omega)
          rw [va_up_up, va_up_self] at hr2
          have hsw : ∀ k, k < 6 → upd (upd (remW (F 1) (eE S).1) a (remW (F 1) (eE S).1 b)) b (remW (F 1) (eE S).1 a) (0 + k) = (if k = b then F 1 a else if k = a then F 1 b else F 1 k) := by
            intro k hk2
            rw [Nat.zero_add, remW_lo (show a < 13 by omega), remW_lo (show b < 13 by omega)]
            unfold upd
            by_cases h1 : k = b
            · rw [if_pos h1, if_pos h1]
            · rw [if_neg h1, if_neg h1]
              by_cases h2 : k = a
              · rw [if_pos h2, if_pos h2]
              · rw [if_neg h2, if_neg h2, remW_lo (by omega)]
          have hsd : ∀ k, k < eN S → upd (upd (remW (F 1) (eE S).1) a (remW (F 1) (eE S).1 b)) b (remW (F 1) (eE S).1 a) (0 + k) = nI (swpS (duE (eE S)) a b k) := by
            intro k hk2
            rw [hsw k (by omega), hw2 a ha, hw2 b hb, hw2 k hk2]
            unfold swpS setS
            by_cases h1 : k = b
            · rw [if_pos h1, if_pos h1]
            · rw [if_neg h1, if_neg h1]
              by_cases h2 : k = a
              · rw [if_pos h2, if_pos h2]
              · rw [if_neg h2, if_neg h2]
          have hx2 := skyM_push (w2 := upd (upd (remW (F 1) (eE S).1) a (remW (F 1) (eE S).1 b)) b (remW (F 1) (eE S).1 a)) (d := swpS (duE (eE S)) a b) (t := thE (eE S)) (b := btE (eE S)) hx hlt (fun q hq => by rw [pk_un (by omega), pk_un (by omega)]) (fun k hk2 => ?_) ?_ (apart_swp hap ha hb)
          · have hr3 := c_M_skyAt I (va_up F 1 (upd (upd (remW (F 1) (eE S).1) a (remW (F 1) (eE S).1 b)) b (remW (F 1) (eE S).1 a))) S.2.2.2.2.2.2.1 S.2.2.2.2.2.2.2 (eN S) 0 hI hn (by omega)
            have eS2 : skyG (fun i => va_up F 1 (upd (upd (remW (F 1) (eE S).1) a (remW (F 1) (eE S).1 b)) b (remW (F 1) (eE S).1 a)) 1 (0 + i)) (eN S) = skyS (eN S) (swpS (duE (eE S)) a b) := skyG_congr hsd
            rw [eS2] at hr3
            refine ⟨_, am_ev 3 (some .int) false [] ok_M_exchange am_mP_172 (by rw [am_m_172]) (by rw [am_m_172]) (fun h => by cases h) (Nat.le_of_ble_eq_true rfl) (fun Go hG => ?_), RM_of hx2⟩
            refine hG 200 _ _ _ _ _ _ ?_
            refine Exists.intro 1 (Exists.intro _ (Exists.intro _ ⟨by decide, hc1, ?_⟩))
            refine br_f (by decide) ?_
            refine Exists.intro 1 (Exists.intro _ (Exists.intro _ ⟨by decide, hc2, ?_⟩))
            refine br_f (by decide) ?_
            refine bn_t hab ?_
            refine Exists.intro 533 ⟨by omega, rfl, ?_⟩
            refine bn_t (by rw [hm33]; intro q0; exact h40 ((nI_eq (by omega) (by decide)).mp q0)) ?_
            refine Exists.intro 1 (Exists.intro _ (Exists.intro _ ⟨by decide, hr1, ?_⟩))
            refine Exists.intro 0 (Exists.intro _ (Exists.intro _ ⟨by decide, hr2, ?_⟩))
            refine Exists.intro 0 (Exists.intro _ (Exists.intro _ ⟨by decide, hr3, ?_⟩))
            exact ⟨rfl, rfl, rfl, rfl⟩
          · constructor
            · have := hsd k hk2
              rw [Nat.zero_add] at this
              exact this
            · rw [pk_un (by omega), pk_un (by omega), remW_lo (by omega)]
              have h7 := (v3 k hk2).2
              rw [Nat.zero_add] at h7
              exact h7
          · rw [pk_un (by omega), pk_un (by omega), remW_lo (by omega)]
            have h7 := v4
            rw [Nat.zero_add] at h7
            exact h7

theorem kept_M {I : Nat → Int32} {F : Nat → Nat → Int32} {S : Sta} {w2 : Nat → Int32} (hs : skyM I F S.1) (e : ∀ j, 534 ≤ j → j < 2136 → w2 j = F 1 j) : ∀ q, q < 3 → match eP S q with
    | none => F 3 q = -nI 1
    | some E => F 3 q = nI E.1 ∧ evM w2 (534 * (q + 1)) (eN S) E ∧ gdE (eN S) E := by
  intro q hq
  obtain ⟨g1, g2, g3, g4, g5, g6⟩ := hs
  have g8 : match eP S q with
    | none => F 3 q = -nI 1
    | some E => F 3 q = nI E.1 ∧ evM (F 1) (534 * (q + 1)) (eN S) E ∧ gdE (eN S) E := g6 q hq
  cases he : eP S q with
  | none => rw [he] at g8; exact g8
  | some E2 =>
    rw [he] at g8
    obtain ⟨a1, a2, a3⟩ := g8
    exact ⟨a1, evM_congr a2 g2 (fun j h3 h4 => e j (by omega) (by omega)), a3⟩

theorem pm_M_undo (S : Sta) (hp : List Am_C) (hRM : RM S hp) (t : Int32) : ∃ hp', Am_Ev false 4 0 0 174 [.ref 0, .int t] hp (some (.int (spUndo S t).1)) hp' ∧ RM (spUndo S t).2 hp' := by
  obtain ⟨I, F, rfl, hx⟩ := hRM
  obtain ⟨hs, hr, ht, hl⟩ := id hx
  obtain ⟨g1, g2, g3, g4, g5, g6⟩ := hs
  have hI : I 2 = nI (eN S) := g1
  have hn : eN S ≤ 6 := g2
  have hk : ∀ i, i < eN S → F 2 i = nI (eK S i) ∧ eK S i < 6 := g3
  have hE : evM (F 1) 0 (eN S) (eE S) := g4
  have hG5 : gdE (eN S) (eE S) := g5
  have hap : apart (eN S) (duE (eE S)) := hG5 _ (Nat.le_refl _)
  obtain ⟨v1, v2, v3, v4, v5⟩ := id hE
  have hw : ∀ k, k < eN S → F 1 (0 + k) = nI (duE (eE S) k) := fun k q => (v3 k q).1
  have hw2 : ∀ k, k < eN S → F 1 k = nI (duE (eE S) k) := fun k q => by have := hw k q; rw [Nat.zero_add] at this; exact this
  have hm33 : F 1 533 = nI (eE S).1 := by have := v2; rw [Nat.zero_add] at this; exact this
  have eSky : skyG (fun i => F 1 (0 + i)) (eN S) = skyS (eN S) (duE (eE S)) := skyG_congr hw
  have eDue : dueG (fun i => F 1 (0 + i)) (eN S) 0 = dueS (eN S) (duE (eE S)) := dueG_congr hw _ 0 (by omega)
  have eMay : ∀ z, mayG (fun i => F 1 (0 + i)) (F 2) (eN S) z = mayS (eN S) (eK S) (duE (eE S)) z := fun z => mayG_congr hw (fun k q => (hk k q).1) z
  unfold spUndo
  have hc := c_M_in (mH I F S.2.2.2.2.2.2.1 S.2.2.2.2.2.2.2) t (nI 0) (F 1 533)
  rw [hm33] at hc
  cases ho : in3 t (nI 0) (nI (eE S).1) with
  | false =>
    rw [if_pos rfl]
    rw [ho, ← hm33] at hc
    refine ⟨_, am_ev 3 (some .int) false [29] ok_M_undo am_mP_174 (by rw [am_m_174]) (by rw [am_m_174]) (fun h => by cases h) (Nat.le_of_ble_eq_true rfl) (fun Go hG => ?_), RM_of hx⟩
    refine hG 200 _ _ _ _ _ _ ?_
    refine Exists.intro 533 ⟨by omega, rfl, ?_⟩
    refine Exists.intro 0 (Exists.intro _ (Exists.intro _ ⟨by decide, hc, ?_⟩))
    refine bn_f rfl ?_
    exact ⟨rfl, rfl, rfl, rfl⟩
  | true =>
    rw [if_neg (by decide)]
    rw [ho, ← hm33] at hc
    obtain ⟨a, -, ha, rfl⟩ := in3_nat (by omega) (by decide) ho
    rw [nat_nI (by omega)]
    have hsub : F 1 533 - nI a = nI ((eE S).1 - a) := by rw [hm33, pk_sub ha]
    by_cases h0 : (eE S).1 - a = 0
    · have ha2 : a = (eE S).1 := by omega
      have hx3 : RMx I F (sE S (a, (eE S).2)) := by
        rw [ha2]
        exact hx
      refine ⟨_, am_ev 3 (some .int) false [29] ok_M_undo am_mP_174 (by rw [am_m_174]) (by rw [am_m_174]) (fun h => by cases h) (Nat.le_of_ble_eq_true rfl) (fun Go hG => ?_), RM_of hx3⟩
      refine hG 200 _ _ _ _ _ _ ?_
      refine Exists.intro 533 ⟨by omega, rfl, ?_⟩
      refine Exists.intro 0 (Exists.intro _ (Exists.intro _ ⟨by decide, hc, ?_⟩))
      refine bn_t (by decide) ?_
      refine Exists.intro 533 ⟨by omega, rfl, ?_⟩
      show Go 29 [some (.ref 0), some (.int (nI a)), some (.int (F 1 533 - nI a))] [] (mH I F S.2.2.2.2.2.2.1 S.2.2.2.2.2.2.2) 0 0
      rw [hsub]
      refine hG 200 _ _ _ _ _ _ ?_
      refine br_t (by rw [h0]; decide) ?_
      exact ⟨rfl, rfl, rfl, rfl⟩
    · have hx3 : RMx I (va_up F 1 (upd (va_cpy (F 1) (F 1) (13 + 13 * a) 0 13) 533 (nI a))) (sE S (a, (eE S).2)) := by
        refine ⟨⟨g1, g2, g3, ?_, fun d hd => hG5 d (by have : d ≤ a := hd; omega), ?_⟩, hr, ht, hl⟩
        · have hv5 := v5 a (by omega)
          have hcp : ∀ k, k < 13 → upd (va_cpy (F 1) (F 1) (13 + 13 * a) 0 13) 533 (nI a) k = F 1 (13 + 13 * a + k) := by
            intro k hk2
            rw [pk_un (by omega), pk_cpy_in (by omega) (by omega)]
            rfl
          show evM (upd (va_cpy (F 1) (F 1) (13 + 13 * a) 0 13) 533 (nI a)) 0 (eN S) (a, (eE S).2)
          refine ⟨by show a ≤ 40; omega, by rw [Nat.zero_add]; exact pk_us, fun k hk2 => ⟨?_, ?_⟩, ?_, fun d hd => ?_⟩
          · show upd (va_cpy (F 1) (F 1) (13 + 13 * a) 0 13) 533 (nI a) (0 + k) = _
            rw [Nat.zero_add, hcp k (by omega)]
            have := (hv5.1 k hk2).1
            rw [Nat.zero_add] at this
            exact this
          · show upd (va_cpy (F 1) (F 1) (13 + 13 * a) 0 13) 533 (nI a) (0 + 6 + k) = _
            rw [show 0 + 6 + k = 6 + k by omega, hcp (6 + k) (by omega)]
            have := (hv5.1 k hk2).2
            rw [show 0 + 13 + 13 * a + 6 + k = 13 + 13 * a + (6 + k) by omega] at this
            exact this
          · show upd (va_cpy (F 1) (F 1) (13 + 13 * a) 0 13) 533 (nI a) (0 + 12) = _
            rw [show 0 + 12 = 12 by omega, hcp 12 (by omega)]
            have := hv5.2
            rw [Nat.zero_add] at this
            exact this
          · have hd2 : d < a := hd
            have hv6 := v5 d (by omega)
            have hout : ∀ j, 13 ≤ j → j < 533 → upd (va_cpy (F 1) (F 1) (13 + 13 * a) 0 13) 533 (nI a) j = F 1 j := by
              intro j h1 h2
              rw [pk_un (by omega), pk_cpy_out (by omega)]
            refine ⟨fun k hk2 => ?_, ?_⟩
            · rw [hout _ (by omega) (by omega), hout _ (by omega) (by omega)]
              exact hv6.1 k hk2
            · rw [hout _ (by omega) (by omega)]
              exact hv6.2
        · exact kept_M (I := I) (F := F) (S := S) ⟨g1, g2, g3, g4, g5, g6⟩ (fun j h1 h2 => by rw [va_up_self, pk_un (by omega), pk_cpy_out (by omega)])
      have hcr := c_M_copyRow I F S.2.2.2.2.2.2.1 S.2.2.2.2.2.2.2 (13 + 13 * a) 0 13 (by omega) (by omega) (by omega)
      have ei : nI 13 + nI 13 * nI a = nI (13 + 13 * a) := by rw [pk_mul, nI_add]
      rw [← ei] at hcr
      refine ⟨_, am_ev 3 (some .int) false [29] ok_M_undo am_mP_174 (by rw [am_m_174]) (by rw [am_m_174]) (fun h => by cases h) (Nat.le_of_ble_eq_true rfl) (fun Go hG => ?_), RM_of hx3⟩
      refine hG 200 _ _ _ _ _ _ ?_
      refine Exists.intro 533 ⟨by omega, rfl, ?_⟩
      refine Exists.intro 0 (Exists.intro _ (Exists.intro _ ⟨by decide, hc, ?_⟩))
      refine bn_t (by decide) ?_
      refine Exists.intro 533 ⟨by omega, rfl, ?_⟩
      show Go 29 [some (.ref 0), some (.int (nI a)), some (.int (F 1 533 - nI a))] [] (mH I F S.2.2.2.2.2.2.1 S.2.2.2.2.2.2.2) 0 0
      rw [hsub]
      refine hG 200 _ _ _ _ _ _ ?_
      refine br_f (nI_nle (by omega) (by omega)) ?_
      refine Exists.intro 0 (Exists.intro _ (Exists.intro _ ⟨by decide, hcr, ?_⟩))
      refine Exists.intro 533 ⟨by omega, rfl, ?_⟩
      exact ⟨rfl, rfl, rfl, rfl⟩

set_option maxRecDepth 100000 in
theorem pm_M_keep (S : Sta) (hp : List Am_C) (hRM : RM S hp) (k : Int32) : ∃ hp', Am_Ev false 4 0 0 175 [.ref 0, .int k] hp (some (.int (spKeep S k).1)) hp' ∧ RM (spKeep S k).2 hp' := by
  obtain ⟨I, F, rfl, hx⟩ := hRM
  obtain ⟨hs, hr, ht, hl⟩ := id hx
  obtain ⟨g1, g2, g3, g4, g5, g6⟩ := hs
  have hI : I 2 = nI (eN S) := g1
  have hn : eN S ≤ 6 := g2
  have hk : ∀ i, i < eN S → F 2 i = nI (eK S i) ∧ eK S i < 6 := g3
  have hE : evM (F 1) 0 (eN S) (eE S) := g4
  have hG5 : gdE (eN S) (eE S) := g5
  have hap : apart (eN S) (duE (eE S)) := hG5 _ (Nat.le_refl _)
  obtain ⟨v1, v2, v3, v4, v5⟩ := id hE
  have hw : ∀ k, k < eN S → F 1 (0 + k) = nI (duE (eE S) k) := fun k q => (v3 k q).1
  have hw2 : ∀ k, k < eN S → F 1 k = nI (duE (eE S) k) := fun k q => by have := hw k q; rw [Nat.zero_add] at this; exact this
  have hm33 : F 1 533 = nI (eE S).1 := by have := v2; rw [Nat.zero_add] at this; exact this
  have eSky : skyG (fun i => F 1 (0 + i)) (eN S) = skyS (eN S) (duE (eE S)) := skyG_congr hw
  have eDue : dueG (fun i => F 1 (0 + i)) (eN S) 0 = dueS (eN S) (duE (eE S)) := dueG_congr hw _ 0 (by omega)
  have eMay : ∀ z, mayG (fun i => F 1 (0 + i)) (F 2) (eN S) z = mayS (eN S) (eK S) (duE (eE S)) z := fun z => mayG_congr hw (fun k q => (hk k q).1) z
  unfold spKeep
  have hc := c_M_in (mH I F S.2.2.2.2.2.2.1 S.2.2.2.2.2.2.2) k (nI 0) (nI 2)
  cases ho : in3 k (nI 0) (nI 2) with
  | false =>
    rw [if_pos rfl]
    rw [ho] at hc
    refine ⟨_, am_ev 2 (some .int) false [] ok_M_keep am_mP_175 (by rw [am_m_175]) (by rw [am_m_175]) (fun h => by cases h) (Nat.le_of_ble_eq_true rfl) (fun Go hG => ?_), RM_of hx⟩
    refine hG 200 _ _ _ _ _ _ ?_
    refine Exists.intro 0 (Exists.intro _ (Exists.intro _ ⟨by decide, hc, ?_⟩))
    refine bn_f rfl ?_
    exact ⟨rfl, rfl, rfl, rfl⟩
  | true =>
    rw [if_neg (by decide)]
    rw [ho] at hc
    obtain ⟨a, -, ha, rfl⟩ := in3_nat (by decide) (by decide) ho
    rw [nat_nI (by omega)]
    by_cases h0 : eN S = 0
    · rw [if_pos h0]
      refine ⟨_, am_ev 2 (some .int) false [] ok_M_keep am_mP_175 (by rw [am_m_175]) (by rw [am_m_175]) (fun h => by cases h) (Nat.le_of_ble_eq_true rfl) (fun Go hG => ?_), RM_of hx⟩
      refine hG 200 _ _ _ _ _ _ ?_
      refine Exists.intro 0 (Exists.intro _ (Exists.intro _ ⟨by decide, hc, ?_⟩))
      refine bn_t (by decide) ?_
      refine bn_f (by rw [hI, h0]; rfl) ?_
      exact ⟨rfl, rfl, rfl, rfl⟩
    · rw [if_neg h0]
      have hz : ¬ I 2 = 0 := by rw [hI]; exact nI_ne0 (by omega) (by omega)
      have hcr := c_M_copyRow I F S.2.2.2.2.2.2.1 S.2.2.2.2.2.2.2 0 (534 * (a + 1)) 534 (by omega) (by omega) (by omega)
      have ei : nI 534 * (nI a + nI 1) = nI (534 * (a + 1)) := by rw [nI_s1, pk_mul]
      rw [← ei] at hcr
      have hlow : ∀ j, j < 534 → va_cpy (F 1) (F 1) 0 (534 * (a + 1)) 534 j = F 1 j := fun j hj => pk_cpy_out (by omega)
      have hx3 : RMx I (va_up (va_up F 1 (va_cpy (F 1) (F 1) 0 (534 * (a + 1)) 534)) 3 (upd (F 3) a (F 1 533))) (sK S (eN S, eK S, eE S, va_up (eP S) a (some (eE S)))) := by
        refine ⟨⟨g1, g2, g3, evM_congr hE hn (fun j h1 h2 => hlow j (by omega)), g5, fun q hq => ?_⟩, hr, ht, hl⟩
        show match va_up (eP S) a (some (eE S)) q with
          | none => upd (F 3) a (F 1 533) q = -nI 1
          | some E => upd (F 3) a (F 1 533) q = nI E.1 ∧ evM (va_cpy (F 1) (F 1) 0 (534 * (a + 1)) 534) (534 * (q + 1)) (eN S) E ∧ gdE (eN S) E
        by_cases hqa : q = a
        · subst hqa
          rw [va_up_self, pk_us]
          refine ⟨hm33, ?_, hG5⟩
          have hin : ∀ j, j < 534 → va_cpy (F 1) (F 1) 0 (534 * (q + 1)) 534 (534 * (q + 1) + j) = F 1 (0 + j) := by
            intro j hj
            rw [pk_cpy_in (by omega) (by omega), show 534 * (q + 1) + j - 534 * (q + 1) = j by omega]
          refine ⟨v1, by rw [hin _ (by omega)]; exact v2, fun k hk2 => ⟨by rw [hin _ (by omega)]; exact (v3 k hk2).1, by rw [show 534 * (q + 1) + 6 + k = 534 * (q + 1) + (6 + k) by omega, hin _ (by omega), show 0 + (6 + k) = 0 + 6 + k by omega]; exact (v3 k hk2).2⟩, by rw [hin _ (by omega)]; exact v4, fun d hd => ⟨fun k hk2 => ⟨?_, ?_⟩, ?_⟩⟩
          · rw [show 534 * (q + 1) + 13 + 13 * d + k = 534 * (q + 1) + (13 + 13 * d + k) by omega, hin _ (by omega), show 0 + (13 + 13 * d + k) = 0 + 13 + 13 * d + k by omega]
            exact ((v5 d hd).1 k hk2).1
          · rw [show 534 * (q + 1) + 13 + 13 * d + 6 + k = 534 * (q + 1) + (13 + 13 * d + 6 + k) by omega, hin _ (by omega), show 0 + (13 + 13 * d + 6 + k) = 0 + 13 + 13 * d + 6 + k by omega]
            exact ((v5 d hd).1 k hk2).2
          · rw [show 534 * (q + 1) + 13 + 13 * d + 12 = 534 * (q + 1) + (13 + 13 * d + 12) by omega, hin _ (by omega), show 0 + (13 + 13 * d + 12) = 0 + 13 + 13 * d + 12 by omega]
            exact (v5 d hd).2
        · rw [va_up_ne _ _ hqa, pk_un hqa]
          have g8 : match eP S q with
            | none => F 3 q = -nI 1
            | some E => F 3 q = nI E.1 ∧ evM (F 1) (534 * (q + 1)) (eN S) E ∧ gdE (eN S) E := g6 q hq
          cases he : eP S q with
          | none => rw [he] at g8; exact g8
          | some E2 =>
            rw [he] at g8
            obtain ⟨a1, a2, a3⟩ := g8
            exact ⟨a1, evM_congr a2 g2 (fun j h3 h4 => pk_cpy_out (by omega)), a3⟩
      refine ⟨_, am_ev 2 (some .int) false [] ok_M_keep am_mP_175 (by rw [am_m_175]) (by rw [am_m_175]) (fun h => by cases h) (Nat.le_of_ble_eq_true rfl) (fun Go hG => ?_), RM_of hx3⟩
      refine hG 200 _ _ _ _ _ _ ?_
      refine Exists.intro 0 (Exists.intro _ (Exists.intro _ ⟨by decide, hc, ?_⟩))
      refine bn_t (by decide) ?_
      refine bn_t hz ?_
      refine Exists.intro 0 (Exists.intro _ (Exists.intro _ ⟨by decide, hcr, ?_⟩))
      refine Exists.intro 533 ⟨by omega, rfl, ?_⟩
      refine Exists.intro a ⟨by omega, rfl, ?_⟩
      refine Exists.intro 533 ⟨by omega, rfl, ?_⟩
      refine ⟨?_, ?_, rfl, rfl⟩
      · show some (Value.int (va_cpy (F 1) (F 1) 0 (534 * (a + 1)) 534 533)) = _
        rw [hlow 533 (by omega), hm33]
      · show mH I (va_up (va_up F 1 (va_cpy (F 1) (F 1) 0 (534 * (a + 1)) 534)) 3 (upd (F 3) a (va_cpy (F 1) (F 1) 0 (534 * (a + 1)) 534 533))) S.2.2.2.2.2.2.1 S.2.2.2.2.2.2.2 = _
        rw [hlow 533 (by omega)]
        rfl

set_option maxRecDepth 100000 in
theorem pm_M_on (S : Sta) (hp : List Am_C) (hRM : RM S hp) (k : Int32) : ∃ hp', Am_Ev false 4 0 0 176 [.ref 0, .int k] hp (some (.int (spOn S k).1)) hp' ∧ RM (spOn S k).2 hp' := by
  obtain ⟨I, F, rfl, hx⟩ := hRM
  obtain ⟨hs, hr, ht, hl⟩ := id hx
  obtain ⟨g1, g2, g3, g4, g5, g6⟩ := hs
  have hI : I 2 = nI (eN S) := g1
  have hn : eN S ≤ 6 := g2
  have hk : ∀ i, i < eN S → F 2 i = nI (eK S i) ∧ eK S i < 6 := g3
  have hE : evM (F 1) 0 (eN S) (eE S) := g4
  have hG5 : gdE (eN S) (eE S) := g5
  have hap : apart (eN S) (duE (eE S)) := hG5 _ (Nat.le_refl _)
  obtain ⟨v1, v2, v3, v4, v5⟩ := id hE
  have hw : ∀ k, k < eN S → F 1 (0 + k) = nI (duE (eE S) k) := fun k q => (v3 k q).1
  have hw2 : ∀ k, k < eN S → F 1 k = nI (duE (eE S) k) := fun k q => by have := hw k q; rw [Nat.zero_add] at this; exact this
  have hm33 : F 1 533 = nI (eE S).1 := by have := v2; rw [Nat.zero_add] at this; exact this
  have eSky : skyG (fun i => F 1 (0 + i)) (eN S) = skyS (eN S) (duE (eE S)) := skyG_congr hw
  have eDue : dueG (fun i => F 1 (0 + i)) (eN S) 0 = dueS (eN S) (duE (eE S)) := dueG_congr hw _ 0 (by omega)
  have eMay : ∀ z, mayG (fun i => F 1 (0 + i)) (F 2) (eN S) z = mayS (eN S) (eK S) (duE (eE S)) z := fun z => mayG_congr hw (fun k q => (hk k q).1) z
  unfold spOn
  have hc := c_M_in (mH I F S.2.2.2.2.2.2.1 S.2.2.2.2.2.2.2) k (nI 0) (nI 2)
  cases ho : in3 k (nI 0) (nI 2) with
  | false =>
    rw [if_pos rfl]
    rw [ho] at hc
    refine ⟨_, am_ev 2 (some .int) false [] ok_M_on am_mP_176 (by rw [am_m_176]) (by rw [am_m_176]) (fun h => by cases h) (Nat.le_of_ble_eq_true rfl) (fun Go hG => ?_), RM_of hx⟩
    refine hG 200 _ _ _ _ _ _ ?_
    refine Exists.intro 0 (Exists.intro _ (Exists.intro _ ⟨by decide, hc, ?_⟩))
    refine bn_f rfl ?_
    exact ⟨rfl, rfl, rfl, rfl⟩
  | true =>
    rw [if_neg (by decide)]
    rw [ho] at hc
    obtain ⟨a, -, ha, rfl⟩ := in3_nat (by decide) (by decide) ho
    rw [nat_nI (by omega)]
    have g8 : match eP S a with
      | none => F 3 a = -nI 1
      | some E => F 3 a = nI E.1 ∧ evM (F 1) (534 * (a + 1)) (eN S) E ∧ gdE (eN S) E := g6 a (by omega)
    cases he : eP S a with
    | none =>
      rw [he] at g8
      refine ⟨_, am_ev 2 (some .int) false [] ok_M_on am_mP_176 (by rw [am_m_176]) (by rw [am_m_176]) (fun h => by cases h) (Nat.le_of_ble_eq_true rfl) (fun Go hG => ?_), RM_fnd hx (by decide)⟩
      refine hG 200 _ _ _ _ _ _ ?_
      refine Exists.intro 0 (Exists.intro _ (Exists.intro _ ⟨by decide, hc, ?_⟩))
      refine bn_t (by decide) ?_
      refine Exists.intro a ⟨by omega, rfl, ?_⟩
      refine br_f (by rw [g8]; decide) ?_
      refine Exists.intro 0 (Exists.intro _ (Exists.intro _ ⟨by decide, c_M_found I F S.2.2.2.2.2.2.1 S.2.2.2.2.2.2.2 1 (by decide), ?_⟩))
      exact ⟨rfl, rfl, rfl, rfl⟩
    | some E2 =>
      rw [he] at g8
      obtain ⟨a1, a2, a3⟩ := g8
      have a4 := a2.1
      have hcr := c_M_copyRow I F S.2.2.2.2.2.2.1 S.2.2.2.2.2.2.2 (534 * (a + 1)) 0 534 (by omega) (by omega) (by omega)
      have ei : nI 534 * (nI a + nI 1) = nI (534 * (a + 1)) := by rw [nI_s1, pk_mul]
      rw [← ei] at hcr
      have hin : ∀ j, j < 534 → va_cpy (F 1) (F 1) (534 * (a + 1)) 0 534 (0 + j) = F 1 (534 * (a + 1) + j) := by
        intro j hj
        rw [pk_cpy_in (by omega) (by omega), show 0 + j - 0 = j by omega]
      obtain ⟨w1, w2, w3, w4, w5⟩ := id a2
      have hx3 : RMx I (va_up F 1 (va_cpy (F 1) (F 1) (534 * (a + 1)) 0 534)) (sE S E2) := by
        refine ⟨⟨g1, g2, g3, ?_, a3, kept_M (I := I) (F := F) (S := S) ⟨g1, g2, g3, g4, g5, g6⟩ (fun j h1 h2 => pk_cpy_out (by omega))⟩, hr, ht, hl⟩
        show evM (va_cpy (F 1) (F 1) (534 * (a + 1)) 0 534) 0 (eN S) E2
        refine ⟨w1, by rw [hin _ (by omega)]; exact w2, fun k hk2 => ⟨by rw [hin _ (by omega)]; exact (w3 k hk2).1, by rw [show 0 + 6 + k = 0 + (6 + k) by omega, hin _ (by omega), show 534 * (a + 1) + (6 + k) = 534 * (a + 1) + 6 + k by omega]; exact (w3 k hk2).2⟩, by rw [hin _ (by omega)]; exact w4, fun d hd => ⟨fun k hk2 => ⟨?_, ?_⟩, ?_⟩⟩
        · rw [show 0 + 13 + 13 * d + k = 0 + (13 + 13 * d + k) by omega, hin _ (by omega), show 534 * (a + 1) + (13 + 13 * d + k) = 534 * (a + 1) + 13 + 13 * d + k by omega]
          exact ((w5 d hd).1 k hk2).1
        · rw [show 0 + 13 + 13 * d + 6 + k = 0 + (13 + 13 * d + 6 + k) by omega, hin _ (by omega), show 534 * (a + 1) + (13 + 13 * d + 6 + k) = 534 * (a + 1) + 13 + 13 * d + 6 + k by omega]
          exact ((w5 d hd).1 k hk2).2
        · rw [show 0 + 13 + 13 * d + 12 = 0 + (13 + 13 * d + 12) by omega, hin _ (by omega), show 534 * (a + 1) + (13 + 13 * d + 12) = 534 * (a + 1) + 13 + 13 * d + 12 by omega]
          exact (w5 d hd).2
      refine ⟨_, am_ev 2 (some .int) false [] ok_M_on am_mP_176 (by rw [am_m_176]) (by rw [am_m_176]) (fun h => by cases h) (Nat.le_of_ble_eq_true rfl) (fun Go hG => ?_), RM_of hx3⟩
      refine hG 200 _ _ _ _ _ _ ?_
      refine Exists.intro 0 (Exists.intro _ (Exists.intro _ ⟨by decide, hc, ?_⟩))
      refine bn_t (by decide) ?_
      refine Exists.intro a ⟨by omega, rfl, ?_⟩
      refine br_t (by rw [a1]; exact nI_pos' (by omega)) ?_
      refine Exists.intro 0 (Exists.intro _ (Exists.intro _ ⟨by decide, hcr, ?_⟩))
      refine Exists.intro 533 ⟨by omega, rfl, ?_⟩
      refine ⟨?_, rfl, rfl, rfl⟩
      have h5 := hin 533 (by omega)
      rw [Nat.zero_add] at h5
      show some (Value.int (va_cpy (F 1) (F 1) (534 * (a + 1)) 0 534 533)) = _
      rw [h5, w2]

