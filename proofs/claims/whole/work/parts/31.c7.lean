/-! ===== the class: undo, keep, on, lands, may ===== -/
theorem evC_congr {d b m : Int32} {tt da th bk tt' da' th' bk' : Nat → Int32} {n : Nat} {E : Evn} (h : evC d b m tt da th bk n E) (h1 : ∀ i, i < 6 → tt' i = tt i) (h2 : ∀ q, q < 40 → da' q = da q ∧ th' q = th q ∧ bk' q = bk q) : evC d b m tt' da' th' bk' n E := by
  obtain ⟨a1, a2, a3, a4, a5, a6, a7⟩ := h
  refine ⟨a1, a2, a3, a4, fun i hi => by rw [h1 i hi]; exact a5 i hi, a6, fun q hq => ?_⟩
  rw [(h2 q (by omega)).1, (h2 q (by omega)).2.1, (h2 q (by omega)).2.2]
  exact a7 q hq
theorem undB_S {d b m : Int32} {tt da th bk : Nat → Int32} {n : Nat} {E : Evn} (h : evC d b m tt da th bk n E) : ∀ (j q : Nat), j ≤ q → q ≤ E.1 → undB bk j q (nI (E.2.2.2 q)) = nI (E.2.2.2 (q - j))
  | 0, q, _, _ => rfl
  | j + 1, q, h1, h2 => by
    obtain ⟨-, ⟨bb, e1, e2⟩, -⟩ := h.2.2.2.2.2.2 (q - 1) (by omega)
    rw [show q - 1 + 1 = q by omega] at e2
    have ih := undB_S h j (q - 1) (by omega) (by omega)
    show undB bk j (q - 1) (nI (E.2.2.2 q) - bk (q - 1)) = _
    rw [e1, e2, pk_sub (by omega), show E.2.2.2 (q - 1) + bb - bb = E.2.2.2 (q - 1) by omega, ih, show q - 1 - j = q - (j + 1) by omega]
theorem undT_S {d b m : Int32} {tt da th bk : Nat → Int32} {n : Nat} {E : Evn} (h : evC d b m tt da th bk n E) (hn : n ≤ 6) : ∀ (j q : Nat) (t1 : Nat → Int32), j ≤ q → q ≤ E.1 → (∀ i, i < 6 → t1 i = nI (E.2.2.1 q i)) → ∀ i, i < 6 → undT th j q t1 i = nI (E.2.2.1 (q - j) i)
  | 0, q, t1, _, _, h3, i, hi => h3 i hi
  | j + 1, q, t1, h1, h2, h3, i, hi => by
    obtain ⟨-, -, e1⟩ := h.2.2.2.2.2.2 (q - 1) (by omega)
    rw [show q - 1 + 1 = q by omega] at e1
    show undT th j (q - 1) (if th (q - 1) = -nI 9 then t1 else upd t1 (nat (th (q - 1))) (t1 (nat (th (q - 1))) - nI 1)) i = _
    rw [show q - (j + 1) = q - 1 - j by omega]
    refine undT_S h hn j (q - 1) _ (by omega) (by omega) (fun k hk => ?_) i hi
    rcases e1 with ⟨e1, e2⟩ | ⟨z, hz, e1, e2⟩
    · rw [if_pos e1, h3 k hk, e2 k hk]
    · rw [if_neg (by rw [e1]; exact nI_m9 (by omega)), e1, nat_nI (by omega)]
      unfold upd
      by_cases hkz : k = z
      · rw [if_pos hkz, ← hkz, h3 k hk, e2 k hk, if_pos hkz, pk_sub (by omega)]
        rfl
      · rw [if_neg hkz, h3 k hk, e2 k hk, if_neg hkz]
        rfl

theorem pc_T_undo (S : Sta) (hp : List Am_C) (hRM : RC S hp) (t : Int32) : ∃ hp', Am_Ev false 6 0 0 67 [.ref 0, .int t] hp (some (.int (spUndo S t).1)) hp' ∧ RC (spUndo S t).2 hp' := by
  obtain ⟨I, F, rfl, hx⟩ := hRM
  obtain ⟨hs, hr, ht, hl⟩ := id hx
  obtain ⟨g1, g2, g3, g4, g5, g6⟩ := hs
  have hI : I 22 = nI (eN S) := g1
  have hn : eN S ≤ 6 := g2
  have hk : ∀ i, i < eN S → F 7 i = nI (eK S i) ∧ eK S i < 6 := g3
  have hE : evC (I 30) (I 31) (I 32) (F 9) (F 10) (F 11) (F 12) (eN S) (eE S) := g4
  have hG5 : gdE (eN S) (eE S) := g5
  have hap : apart (eN S) (duE (eE S)) := hG5 _ (Nat.le_refl _)
  obtain ⟨v1, v2, v3, v4, v5, v6, v7⟩ := id hE
  have h30 : I 30 = nI (pkN (duE (eE S)) (eN S)) := v3
  have hg : ∀ k, k < eN S → gP (I 30) k = gN (duE (eE S)) k := fun k hk2 => by rw [h30]; exact gP_S (le15_of hap) hn hk2
  have eDue : dueG (gP (I 30)) (eN S) 0 = dueS (eN S) (duE (eE S)) := dueG_congr hg _ 0 (by omega)
  have eMay : ∀ z, mayG (gP (I 30)) (F 7) (eN S) z = mayS (eN S) (eK S) (duE (eE S)) z := fun z => mayG_congr hg (fun k q => (hk k q).1) z
  unfold spUndo
  cases ho : in3 t (nI 0) (nI (eE S).1) with
  | false =>
    rw [if_pos rfl]
    refine ⟨_, am_ev 3 (some .int) false [27] ok_T_undo am_mP_67 (by rw [am_m_67]) (by rw [am_m_67]) (fun h => by cases h) (Nat.le_of_ble_eq_true rfl) (fun Go hG => ?_), RC_of hx⟩
    refine hG 200 _ _ _ _ _ _ ?_
    refine And.intro (fun h1 => ?_) (fun h1 => And.intro (fun h2 => ?_) (fun h2 => ?_))
    · exact ⟨rfl, rfl, rfl, rfl⟩
    · have : in3 t (nI 0) (nI (eE S).1) = true := by
        rw [v2] at h2
        unfold in3
        rw [decide_eq_true (show nI 0 ≤ t from Int32.not_lt.mp h1), decide_eq_true h2]
        rfl
      rw [ho] at this
      cases this
    · exact ⟨rfl, rfl, rfl, rfl⟩
  | true =>
    rw [if_neg (by decide)]
    obtain ⟨a, -, ha, rfl⟩ := in3_nat (by omega) (by decide) ho
    rw [nat_nI (by omega)]
    have hsub : I 32 - nI a = nI ((eE S).1 - a) := by rw [v2, pk_sub ha]
    have htb := c_E_takeBack (cH I F S.2.2.2.2.2.2.1 S.2.2.2.2.2.2.2) 8 (I 30) (I 31) (I 32) (F 9) (F 10) (F 11) (F 12) cH_ev (eE S).1 a v2 v1 ha (fun z hz => by
      rcases (v7 z hz).2.2 with ⟨q, -⟩ | ⟨y, hy, q, -⟩
      · exact Or.inl q
      · exact Or.inr ⟨y, by omega, q⟩)
    rw [cH_evW] at htb
    have hev : evC (if (eE S).1 - a = 0 then I 30 else F 10 a) (undB (F 12) ((eE S).1 - a) (eE S).1 (I 31)) (nI a) (undT (F 11) ((eE S).1 - a) (eE S).1 (F 9)) (F 10) (F 11) (F 12) (eN S) (a, (eE S).2) := by
      refine ⟨by show a ≤ 40; omega, rfl, ?_, ?_, fun i hi => ?_, fun q hq i h1 h2 => v6 q (by have : q ≤ a := hq; omega) i h1 h2, fun q hq => v7 q (by have : q < a := hq; omega)⟩
      · by_cases h0 : (eE S).1 - a = 0
        · rw [if_pos h0]
          have : a = (eE S).1 := by omega
          rw [this]
          exact v3
        · rw [if_neg h0]
          exact (v7 a (by omega)).1
      · have h9 := undB_S hE ((eE S).1 - a) (eE S).1 (by omega) (Nat.le_refl _)
        rw [v4, h9, show (eE S).1 - ((eE S).1 - a) = a by omega]
      · have h9 := undT_S hE hn ((eE S).1 - a) (eE S).1 (F 9) (by omega) (Nat.le_refl _) v5 i hi
        rw [h9, show (eE S).1 - ((eE S).1 - a) = a by omega]
    have hx2 := RCx_ev (E2 := (a, (eE S).2)) hx hev (fun q hq => hG5 q (by have : q ≤ a := hq; omega))
    refine ⟨_, am_ev 3 (some .int) false [27] ok_T_undo am_mP_67 (by rw [am_m_67]) (by rw [am_m_67]) (fun h => by cases h) (Nat.le_of_ble_eq_true rfl) (fun Go hG => ?_), RC_of hx2⟩
    refine hG 200 _ _ _ _ _ _ ?_
    refine br_f (nI_pos (by omega)) ?_
    refine br_t (by rw [v2]; exact nI_le ha (by omega)) ?_
    show Go 27 [some (.ref 0), some (.int (nI a)), some (.int (I 32 - nI a))] [] (cH I F S.2.2.2.2.2.2.1 S.2.2.2.2.2.2.2) 0 0
    rw [hsub]
    refine hG 200 _ _ _ _ _ _ ?_
    refine Exists.intro 0 (Exists.intro _ (Exists.intro _ ⟨by decide, htb, ?_⟩))
    exact ⟨rfl, rfl, rfl, rfl⟩

theorem RCx_kp {I : Nat → Int32} {F : Nat → Nat → Int32} {S : Sta} {d b m : Int32} {tt da th bk : Nat → Int32} {E2 : Evn} {k : Nat} (hk : k < 3) (hx : RCx I F S) (h : evC d b m tt da th bk (eN S) E2) (hg : gdE (eN S) E2) : RCx (kI I k d b m) (kF F k tt da th bk) (sK S (eN S, eK S, eE S, va_up (eP S) k (some E2))) := by
  obtain ⟨⟨g1, g2, g3, g4, g5, g6⟩, hr, ht, hl⟩ := hx
  refine ⟨⟨by rw [kI_ne (by omega)]; exact g1, g2, fun i hi => by rw [kF_ne (by omega)]; exact g3 i hi, ?_, g5, fun q hq => ?_⟩, rowC_congr hr (fun j hj => kI_ne (by omega)) (fun j hj => kF_ne (by omega)), txtC_congr ht (fun j hj => kI_ne (by omega)) (fun j hj => kF_ne (by omega)), by rw [kI_ne (by omega)]; exact hl.1, by rw [kI_ne (by omega)]; exact hl.2.1, fun f hf => by rw [kF_ne (by omega)]; exact hl.2.2 f hf⟩
  · rw [kI_ne (by omega), kI_ne (by omega), kI_ne (by omega), kF_ne (by omega), kF_ne (by omega), kF_ne (by omega), kF_ne (by omega)]
    exact g4
  · show match va_up (eP S) k (some E2) q with
      | none => kI I k d b m (42 + 3 * q) = -nI 1
      | some E => evC (kI I k d b m (40 + 3 * q)) (kI I k d b m (41 + 3 * q)) (kI I k d b m (42 + 3 * q)) (kF F k tt da th bk (39 + 5 * q)) (kF F k tt da th bk (40 + 5 * q)) (kF F k tt da th bk (41 + 5 * q)) (kF F k tt da th bk (42 + 5 * q)) (eN S) E ∧ gdE (eN S) E
    by_cases hqk : q = k
    · subst hqk
      rw [va_up_self]
      have i0 : kI I q d b m (40 + 3 * q) = d := by unfold kI; rw [pk_un (by omega), pk_un (by omega), pk_us]
      have i1 : kI I q d b m (41 + 3 * q) = b := by unfold kI; rw [pk_un (by omega), pk_us]
      have i2 : kI I q d b m (42 + 3 * q) = m := by unfold kI; rw [pk_us]
      have f0 : kF F q tt da th bk (39 + 5 * q) = tt := by unfold kF; rw [va_up_ne _ _ (by omega), va_up_ne _ _ (by omega), va_up_ne _ _ (by omega), va_up_self]
      have f1 : kF F q tt da th bk (40 + 5 * q) = da := by unfold kF; rw [va_up_ne _ _ (by omega), va_up_ne _ _ (by omega), va_up_self]
      have f2 : kF F q tt da th bk (41 + 5 * q) = th := by unfold kF; rw [va_up_ne _ _ (by omega), va_up_self]
      have f3 : kF F q tt da th bk (42 + 5 * q) = bk := by unfold kF; rw [va_up_self]
      rw [i0, i1, i2, f0, f1, f2, f3]
      exact ⟨h, hg⟩
    · rw [va_up_ne _ _ hqk, kI_ne (by omega), kI_ne (by omega), kI_ne (by omega), kF_ne (by omega), kF_ne (by omega), kF_ne (by omega), kF_ne (by omega)]
      exact g6 q hq
theorem cpyA {f g : Nat → Int32} {n i : Nat} (h : i < n) : va_cpy f g 0 0 n i = f i := by
  rw [pk_cpy_in (by omega) (by omega)]
  congr 1
  omega

theorem pc_T_keep (S : Sta) (hp : List Am_C) (hRM : RC S hp) (k : Int32) : ∃ hp', Am_Ev false 6 0 0 69 [.ref 0, .int k] hp (some (.int (spKeep S k).1)) hp' ∧ RC (spKeep S k).2 hp' := by
  obtain ⟨I, F, rfl, hx⟩ := hRM
  obtain ⟨hs, hr, ht, hl⟩ := id hx
  obtain ⟨g1, g2, g3, g4, g5, g6⟩ := hs
  have hI : I 22 = nI (eN S) := g1
  have hn : eN S ≤ 6 := g2
  have hk : ∀ i, i < eN S → F 7 i = nI (eK S i) ∧ eK S i < 6 := g3
  have hE : evC (I 30) (I 31) (I 32) (F 9) (F 10) (F 11) (F 12) (eN S) (eE S) := g4
  have hG5 : gdE (eN S) (eE S) := g5
  have hap : apart (eN S) (duE (eE S)) := hG5 _ (Nat.le_refl _)
  obtain ⟨v1, v2, v3, v4, v5, v6, v7⟩ := id hE
  have h30 : I 30 = nI (pkN (duE (eE S)) (eN S)) := v3
  have hg : ∀ k, k < eN S → gP (I 30) k = gN (duE (eE S)) k := fun k hk2 => by rw [h30]; exact gP_S (le15_of hap) hn hk2
  have eDue : dueG (gP (I 30)) (eN S) 0 = dueS (eN S) (duE (eE S)) := dueG_congr hg _ 0 (by omega)
  have eMay : ∀ z, mayG (gP (I 30)) (F 7) (eN S) z = mayS (eN S) (eK S) (duE (eE S)) z := fun z => mayG_congr hg (fun k q => (hk k q).1) z
  unfold spKeep
  have hc := c_T_isPlaceKept (cH I F S.2.2.2.2.2.2.1 S.2.2.2.2.2.2.2) k
  cases ho : in3 k (nI 0) (nI 2) with
  | false =>
    rw [if_pos rfl]
    rw [ho] at hc
    refine ⟨_, am_ev 2 (some .int) false [] ok_T_keep am_mP_69 (by rw [am_m_69]) (by rw [am_m_69]) (fun h => by cases h) (Nat.le_of_ble_eq_true rfl) (fun Go hG => ?_), RC_of hx⟩
    refine hG 200 _ _ _ _ _ _ ?_
    refine Exists.intro 0 (Exists.intro _ (Exists.intro _ ⟨by decide, hc, ?_⟩))
    refine bn_f rfl ?_
    exact ⟨rfl, rfl, rfl, rfl⟩
  | true =>
    rw [if_neg (by decide)]
    rw [ho] at hc
    obtain ⟨a, -, ha, rfl⟩ := in3_nat (by decide) (by decide) ho
    rw [nat_nI (by omega)]
    by_cases h0 : eN S = 0
    · rw [if_pos h0]
      refine ⟨_, am_ev 2 (some .int) false [] ok_T_keep am_mP_69 (by rw [am_m_69]) (by rw [am_m_69]) (fun h => by cases h) (Nat.le_of_ble_eq_true rfl) (fun Go hG => ?_), RC_of hx⟩
      refine hG 200 _ _ _ _ _ _ ?_
      refine Exists.intro 0 (Exists.intro _ (Exists.intro _ ⟨by decide, hc, ?_⟩))
      refine bn_t (by decide) ?_
      refine bn_f (by rw [hI, h0]; rfl) ?_
      exact ⟨rfl, rfl, rfl, rfl⟩
    · rw [if_neg h0]
      have hz : ¬ I 22 = 0 := by rw [hI]; exact nI_ne0 (by omega) (by omega)
      have htf := c_E_takeFrom (cH I F S.2.2.2.2.2.2.1 S.2.2.2.2.2.2.2) (38 + 5 * a) 8 _ _ _ _ _ _ _ _ _ _ _ _ _ _ (by omega) (cH_kp (by omega)) cH_ev
      rw [cH_kpW (by omega)] at htf
      have hx2 := RCx_kp (k := a) (by omega) hx (evC_congr (tt' := va_cpy (F 9) (F (39 + 5 * a)) 0 0 6) (da' := va_cpy (F 10) (F (40 + 5 * a)) 0 0 40) (th' := va_cpy (F 11) (F (41 + 5 * a)) 0 0 40) (bk' := va_cpy (F 12) (F (42 + 5 * a)) 0 0 40) hE (fun i hi => cpyA hi) (fun q hq => ⟨cpyA hq, cpyA hq, cpyA hq⟩)) hG5
      refine ⟨_, am_ev 2 (some .int) false [] ok_T_keep am_mP_69 (by rw [am_m_69]) (by rw [am_m_69]) (fun h => by cases h) (Nat.le_of_ble_eq_true rfl) (fun Go hG => ?_), RC_of hx2⟩
      refine hG 200 _ _ _ _ _ _ ?_
      refine Exists.intro 0 (Exists.intro _ (Exists.intro _ ⟨by decide, hc, ?_⟩))
      refine bn_t (by decide) ?_
      refine bn_t hz ?_
      refine Exists.intro a (Exists.intro (38 + 5 * a) ⟨by omega, rfl, rfE_at (by omega), ?_⟩)
      refine am_vt (cH_kp (by omega)).1 rfl ?_
      refine Exists.intro 1 (Exists.intro _ (Exists.intro _ ⟨by decide, htf, ?_⟩))
      refine ⟨?_, rfl, rfl, rfl⟩
      show some (Value.int (kI I a (I 30) (I 31) (I 32) 32)) = _
      rw [kI_ne (by omega), v2]

theorem pc_T_on (S : Sta) (hp : List Am_C) (hRM : RC S hp) (k : Int32) : ∃ hp', Am_Ev false 6 0 0 72 [.ref 0, .int k] hp (some (.int (spOn S k).1)) hp' ∧ RC (spOn S k).2 hp' := by
  obtain ⟨I, F, rfl, hx⟩ := hRM
  obtain ⟨hs, hr, ht, hl⟩ := id hx
  obtain ⟨g1, g2, g3, g4, g5, g6⟩ := hs
  have hI : I 22 = nI (eN S) := g1
  have hn : eN S ≤ 6 := g2
  have hk : ∀ i, i < eN S → F 7 i = nI (eK S i) ∧ eK S i < 6 := g3
  have hE : evC (I 30) (I 31) (I 32) (F 9) (F 10) (F 11) (F 12) (eN S) (eE S) := g4
  have hG5 : gdE (eN S) (eE S) := g5
  have hap : apart (eN S) (duE (eE S)) := hG5 _ (Nat.le_refl _)
  obtain ⟨v1, v2, v3, v4, v5, v6, v7⟩ := id hE
  have h30 : I 30 = nI (pkN (duE (eE S)) (eN S)) := v3
  have hg : ∀ k, k < eN S → gP (I 30) k = gN (duE (eE S)) k := fun k hk2 => by rw [h30]; exact gP_S (le15_of hap) hn hk2
  have eDue : dueG (gP (I 30)) (eN S) 0 = dueS (eN S) (duE (eE S)) := dueG_congr hg _ 0 (by omega)
  have eMay : ∀ z, mayG (gP (I 30)) (F 7) (eN S) z = mayS (eN S) (eK S) (duE (eE S)) z := fun z => mayG_congr hg (fun k q => (hk k q).1) z
  unfold spOn
  have hc := c_T_isPlaceKept (cH I F S.2.2.2.2.2.2.1 S.2.2.2.2.2.2.2) k
  cases ho : in3 k (nI 0) (nI 2) with
  | false =>
    rw [if_pos rfl]
    rw [ho] at hc
    refine ⟨_, am_ev 2 (some .int) false [] ok_T_on am_mP_72 (by rw [am_m_72]) (by rw [am_m_72]) (fun h => by cases h) (Nat.le_of_ble_eq_true rfl) (fun Go hG => ?_), RC_of hx⟩
    refine hG 200 _ _ _ _ _ _ ?_
    refine Exists.intro 0 (Exists.intro _ (Exists.intro _ ⟨by decide, hc, ?_⟩))
    refine bn_f rfl ?_
    exact ⟨rfl, rfl, rfl, rfl⟩
  | true =>
    rw [if_neg (by decide)]
    rw [ho] at hc
    obtain ⟨a, -, ha, rfl⟩ := in3_nat (by decide) (by decide) ho
    rw [nat_nI (by omega)]
    have hfg := c_E_isForgotten (cH I F S.2.2.2.2.2.2.1 S.2.2.2.2.2.2.2) (38 + 5 * a) _ _ _ _ _ _ _ (cH_kp (by omega))
    have g8 : match eP S a with
      | none => I (42 + 3 * a) = -nI 1
      | some E => evC (I (40 + 3 * a)) (I (41 + 3 * a)) (I (42 + 3 * a)) (F (39 + 5 * a)) (F (40 + 5 * a)) (F (41 + 5 * a)) (F (42 + 5 * a)) (eN S) E ∧ gdE (eN S) E := g6 a (by omega)
    cases he : eP S a with
    | none =>
      rw [he] at g8
      rw [decide_eq_true (show I (42 + 3 * a) < 0 by rw [g8]; decide)] at hfg
      refine ⟨_, am_ev 2 (some .int) false [] ok_T_on am_mP_72 (by rw [am_m_72]) (by rw [am_m_72]) (fun h => by cases h) (Nat.le_of_ble_eq_true rfl) (fun Go hG => ?_), RC_fnd hx (by decide)⟩
      refine hG 200 _ _ _ _ _ _ ?_
      refine Exists.intro 0 (Exists.intro _ (Exists.intro _ ⟨by decide, hc, ?_⟩))
      refine bn_t (by decide) ?_
      refine Exists.intro a (Exists.intro (38 + 5 * a) ⟨by omega, rfl, rfE_at (by omega), ?_⟩)
      refine am_vt (cH_kp (by omega)).1 rfl ?_
      refine Exists.intro 0 (Exists.intro _ (Exists.intro _ ⟨by decide, hfg, ?_⟩))
      refine br_f (by decide) ?_
      refine Exists.intro 0 (Exists.intro _ (Exists.intro _ ⟨by decide, c_T_found I F S.2.2.2.2.2.2.1 S.2.2.2.2.2.2.2 1 (by decide), ?_⟩))
      exact ⟨rfl, rfl, rfl, rfl⟩
    | some E2 =>
      rw [he] at g8
      obtain ⟨a2, a3⟩ := g8
      have a4 := a2.1
      have a5 := a2.2.1
      rw [decide_eq_false (show ¬ I (42 + 3 * a) < 0 by rw [a5]; exact nI_pos (by omega))] at hfg
      have htf := c_E_takeFrom (cH I F S.2.2.2.2.2.2.1 S.2.2.2.2.2.2.2) 8 (38 + 5 * a) _ _ _ _ _ _ _ _ _ _ _ _ _ _ (by omega) cH_ev (cH_kp (by omega))
      rw [cH_evW] at htf
      have hx2 := RCx_ev (E2 := E2) hx (evC_congr (tt' := va_cpy (F (39 + 5 * a)) (F 9) 0 0 6) (da' := va_cpy (F (40 + 5 * a)) (F 10) 0 0 40) (th' := va_cpy (F (41 + 5 * a)) (F 11) 0 0 40) (bk' := va_cpy (F (42 + 5 * a)) (F 12) 0 0 40) a2 (fun i hi => cpyA hi) (fun q hq => ⟨cpyA hq, cpyA hq, cpyA hq⟩)) a3
      refine ⟨_, am_ev 2 (some .int) false [] ok_T_on am_mP_72 (by rw [am_m_72]) (by rw [am_m_72]) (fun h => by cases h) (Nat.le_of_ble_eq_true rfl) (fun Go hG => ?_), RC_of hx2⟩
      refine hG 200 _ _ _ _ _ _ ?_
      refine Exists.intro 0 (Exists.intro _ (Exists.intro _ ⟨by decide, hc, ?_⟩))
      refine bn_t (by decide) ?_
      refine Exists.intro a (Exists.intro (38 + 5 * a) ⟨by omega, rfl, rfE_at (by omega), ?_⟩)
      refine am_vt (cH_kp (by omega)).1 rfl ?_
      refine Exists.intro 0 (Exists.intro _ (Exists.intro _ ⟨by decide, hfg, ?_⟩))
      refine br_t rfl ?_
      refine Exists.intro a (Exists.intro (38 + 5 * a) ⟨by omega, rfl, rfE_at (by omega), ?_⟩)
      refine Exists.intro 1 (Exists.intro _ (Exists.intro _ ⟨by decide, htf, ?_⟩))
      exact ⟨by show some (Value.int (I (42 + 3 * a))) = _; rw [a5], rfl, rfl, rfl⟩

theorem pc_T_lands (S : Sta) (hp : List Am_C) (hRM : RC S hp) (i h : Int32) : ∃ hp', Am_Ev false 6 0 0 73 [.ref 0, .int i, .int h] hp (some (.int (spLands S i h).1)) hp' ∧ RC (spLands S i h).2 hp' := by
  obtain ⟨I, F, rfl, hx⟩ := hRM
  obtain ⟨hs, hr, ht, hl⟩ := id hx
  obtain ⟨g1, g2, g3, g4, g5, g6⟩ := hs
  have hI : I 22 = nI (eN S) := g1
  have hn : eN S ≤ 6 := g2
  have hk : ∀ i, i < eN S → F 7 i = nI (eK S i) ∧ eK S i < 6 := g3
  have hE : evC (I 30) (I 31) (I 32) (F 9) (F 10) (F 11) (F 12) (eN S) (eE S) := g4
  have hG5 : gdE (eN S) (eE S) := g5
  have hap : apart (eN S) (duE (eE S)) := hG5 _ (Nat.le_refl _)
  obtain ⟨v1, v2, v3, v4, v5, v6, v7⟩ := id hE
  have h30 : I 30 = nI (pkN (duE (eE S)) (eN S)) := v3
  have hg : ∀ k, k < eN S → gP (I 30) k = gN (duE (eE S)) k := fun k hk2 => by rw [h30]; exact gP_S (le15_of hap) hn hk2
  have eDue : dueG (gP (I 30)) (eN S) 0 = dueS (eN S) (duE (eE S)) := dueG_congr hg _ 0 (by omega)
  have eMay : ∀ z, mayG (gP (I 30)) (F 7) (eN S) z = mayS (eN S) (eK S) (duE (eE S)) z := fun z => mayG_congr hg (fun k q => (hk k q).1) z
  unfold spLands
  have hc1 := c_T_isThing I F S.2.2.2.2.2.2.1 S.2.2.2.2.2.2.2 (eN S) hI hn i
  cases ho : okI S i with
  | false =>
    rw [if_pos rfl]
    rw [show in3 i (nI 0) (nI (eN S) - nI 1) = false from ho] at hc1
    refine ⟨_, am_ev 3 (some .int) false [] ok_T_lands am_mP_73 (by rw [am_m_73]) (by rw [am_m_73]) (fun h => by cases h) (Nat.le_of_ble_eq_true rfl) (fun Go hG => ?_), RC_of hx⟩
    refine hG 200 _ _ _ _ _ _ ?_
    refine Exists.intro 0 (Exists.intro _ (Exists.intro _ ⟨by decide, hc1, ?_⟩))
    refine br_t rfl ?_
    exact ⟨rfl, rfl, rfl, rfl⟩
  | true =>
    rw [if_neg (by decide)]
    rw [show in3 i (nI 0) (nI (eN S) - nI 1) = true from ho] at hc1
    obtain ⟨q, hq, rfl⟩ := in3_nat2 (k := eN S) (by omega) rfl ho
    rw [nat_nI (by omega)]
    have hc2 := c_T_isHeight (cH I F S.2.2.2.2.2.2.1 S.2.2.2.2.2.2.2) h
    cases ho2 : okH h with
    | false =>
      rw [if_pos rfl]
      rw [show in3 h (nI 1) (nI 7) = false from ho2] at hc2
      refine ⟨_, am_ev 3 (some .int) false [] ok_T_lands am_mP_73 (by rw [am_m_73]) (by rw [am_m_73]) (fun h => by cases h) (Nat.le_of_ble_eq_true rfl) (fun Go hG => ?_), RC_of hx⟩
      refine hG 200 _ _ _ _ _ _ ?_
      refine Exists.intro 0 (Exists.intro _ (Exists.intro _ ⟨by decide, hc1, ?_⟩))
      refine br_f (by decide) ?_
      refine Exists.intro 0 (Exists.intro _ (Exists.intro _ ⟨by decide, hc2, ?_⟩))
      refine bn_f rfl ?_
      exact ⟨rfl, rfl, rfl, rfl⟩
    | true =>
      rw [if_neg (by decide)]
      rw [show in3 h (nI 1) (nI 7) = true from ho2] at hc2
      obtain ⟨z, hz1, hz2, rfl⟩ := in3_nat (by decide) (by decide) ho2
      have hc3 := c_K_flight (cH I F S.2.2.2.2.2.2.1 S.2.2.2.2.2.2.2) (eK S q) z (hk q hq).2 ⟨hz1, hz2⟩
      rw [← (hk q hq).1] at hc3
      refine ⟨_, am_ev 3 (some .int) false [] ok_T_lands am_mP_73 (by rw [am_m_73]) (by rw [am_m_73]) (fun h => by cases h) (Nat.le_of_ble_eq_true rfl) (fun Go hG => ?_), RC_of hx⟩
      refine hG 200 _ _ _ _ _ _ ?_
      refine Exists.intro 0 (Exists.intro _ (Exists.intro _ ⟨by decide, hc1, ?_⟩))
      refine br_f (by decide) ?_
      refine Exists.intro 0 (Exists.intro _ (Exists.intro _ ⟨by decide, hc2, ?_⟩))
      refine bn_t (by decide) ?_
      refine Exists.intro q ⟨by omega, rfl, ?_⟩
      refine Exists.intro 1 (Exists.intro _ (Exists.intro _ ⟨by decide, hc3, ?_⟩))
      exact ⟨by rw [(hk q hq).1], rfl, rfl, rfl⟩

theorem pc_T_may (S : Sta) (hp : List Am_C) (hRM : RC S hp)  : ∃ hp', Am_Ev false 6 0 0 74 [.ref 0] hp (some (.int (spMay S).1)) hp' ∧ RC (spMay S).2 hp' := by
  obtain ⟨I, F, rfl, hx⟩ := hRM
  obtain ⟨hs, hr, ht, hl⟩ := id hx
  obtain ⟨g1, g2, g3, g4, g5, g6⟩ := hs
  have hI : I 22 = nI (eN S) := g1
  have hn : eN S ≤ 6 := g2
  have hk : ∀ i, i < eN S → F 7 i = nI (eK S i) ∧ eK S i < 6 := g3
  have hE : evC (I 30) (I 31) (I 32) (F 9) (F 10) (F 11) (F 12) (eN S) (eE S) := g4
  have hG5 : gdE (eN S) (eE S) := g5
  have hap : apart (eN S) (duE (eE S)) := hG5 _ (Nat.le_refl _)
  obtain ⟨v1, v2, v3, v4, v5, v6, v7⟩ := id hE
  have h30 : I 30 = nI (pkN (duE (eE S)) (eN S)) := v3
  have hg : ∀ k, k < eN S → gP (I 30) k = gN (duE (eE S)) k := fun k hk2 => by rw [h30]; exact gP_S (le15_of hap) hn hk2
  have eDue : dueG (gP (I 30)) (eN S) 0 = dueS (eN S) (duE (eE S)) := dueG_congr hg _ 0 (by omega)
  have eMay : ∀ z, mayG (gP (I 30)) (F 7) (eN S) z = mayS (eN S) (eK S) (duE (eE S)) z := fun z => mayG_congr hg (fun k q => (hk k q).1) z
  unfold spMay
  by_cases h0 : eN S = 0
  · rw [if_pos h0]
    refine ⟨_, am_ev 2 (some .int) false [] ok_T_may am_mP_74 (by rw [am_m_74]) (by rw [am_m_74]) (fun h => by cases h) (Nat.le_of_ble_eq_true rfl) (fun Go hG => ?_), RC_of hx⟩
    refine hG 200 _ _ _ _ _ _ ?_
    refine bn_f (by rw [hI, h0]; rfl) ?_
    exact ⟨rfl, rfl, rfl, rfl⟩
  · rw [if_neg h0]
    have hz : ¬ I 22 = 0 := by rw [hI]; exact nI_ne0 (by omega) (by omega)
    have hdc := c_P_dueNow (cH I F S.2.2.2.2.2.2.1 S.2.2.2.2.2.2.2) 6 7 (eN S) (by show some _ = some _; rw [hI]) hn (I 30)
    rw [eDue] at hdc
    by_cases hd : dueS (eN S) (duE (eE S)) < eN S
    · rw [if_pos hd]
      rw [dueR_yes hd] at hdc
      have hh := c_P_heightsNow (cH (upd I 10 (nI (dueS (eN S) (duE (eE S))))) F S.2.2.2.2.2.2.1 S.2.2.2.2.2.2.2) 6 7 (eN S) (by show some _ = some _; rw [show upd I 10 (nI (dueS (eN S) (duE (eE S)))) 22 = I 22 from rfl, hI]) hn (eK S) (F 7) rfl hk (I 30)
      rw [hgtG_congr eMay 7] at hh
      refine ⟨_, am_ev 2 (some .int) false [] ok_T_may am_mP_74 (by rw [am_m_74]) (by rw [am_m_74]) (fun h => by cases h) (Nat.le_of_ble_eq_true rfl) (fun Go hG => ?_), RC_tell hx _⟩
      refine hG 200 _ _ _ _ _ _ ?_
      refine bn_t hz ?_
      refine Exists.intro 1 (Exists.intro _ (Exists.intro _ ⟨by decide, hdc, ?_⟩))
      refine bn_t (nI_m9 (by omega)) ?_
      refine Exists.intro 0 (Exists.intro _ (Exists.intro _ ⟨by decide, c_T_tell I F S.2.2.2.2.2.2.1 S.2.2.2.2.2.2.2 _, ?_⟩))
      refine Exists.intro 2 (Exists.intro _ (Exists.intro _ ⟨by decide, hh, ?_⟩))
      exact ⟨rfl, rfl, rfl, rfl⟩
    · rw [if_neg hd]
      rw [dueR_no hd] at hdc
      refine ⟨_, am_ev 2 (some .int) false [] ok_T_may am_mP_74 (by rw [am_m_74]) (by rw [am_m_74]) (fun h => by cases h) (Nat.le_of_ble_eq_true rfl) (fun Go hG => ?_), RC_of hx⟩
      refine hG 200 _ _ _ _ _ _ ?_
      refine bn_t hz ?_
      refine Exists.intro 1 (Exists.intro _ (Exists.intro _ ⟨by decide, hdc, ?_⟩))
      refine bn_f rfl ?_
      exact ⟨rfl, rfl, rfl, rfl⟩

