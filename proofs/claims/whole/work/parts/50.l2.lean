/-! ===== the class: lots ===== -/
theorem RCx_rest {I : Nat → Int32} {F : Nat → Nat → Int32} {S : Sta} (hx : RCx I F S) (hlt : (eE S).1 < 40) (hpos : ∀ k, k < (eN S) → 1 ≤ (duE (eE S)) k) : RCx (eI I (nI (pkN (latS 1 (duE (eE S))) (eN S))) (I 31 + nI 1) (I 32 + nI 1)) (eF F (F 9) (upd (F 10) (eE S).1 (I 30)) (upd (F 11) (eE S).1 (-nI 9)) (upd (F 12) (eE S).1 (nI 1))) (sE S (restE (eE S))) := by
  obtain ⟨hs, hr, ht, hl⟩ := id hx
  obtain ⟨g1, g2, g3, g4, g5, g6⟩ := hs
  have hI : I 22 = nI (eN S) := g1
  have hn : eN S ≤ 6 := g2
  have hk : ∀ i, i < eN S → F 7 i = nI (eK S i) ∧ eK S i < 6 := g3
  have hE : evC (I 30) (I 31) (I 32) (F 9) (F 10) (F 11) (F 12) (eN S) (eE S) := g4
  have hG5 : gdE (eN S) (eE S) := g5
  have hap : apart (eN S) (duE (eE S)) := hG5 _ (Nat.le_refl _)
  obtain ⟨v1, v2, v3, v4, v5, v6, v7⟩ := id hE
  have h30 : I 30 = nI (pkN (duE (eE S)) (eN S)) := v3
  have hg : ∀ k, k < eN S → gP (I 30) k = gN (duE (eE S)) k := fun k hk2 => by rw [h30]; exact gP_S (le15_of hap) hn hk2
  have eDue : dueG (gP (I 30)) (eN S) 0 = dueS (eN S) (duE (eE S)) := dueG_congr hg _ 0 (by omega)
  have eMay : ∀ z, mayG (gP (I 30)) (F 7) (eN S) z = mayS (eN S) (eK S) (duE (eE S)) z := fun z => mayG_congr hg (fun k q => (hk k q).1) z
  exact RCx_ev (E2 := restE (eE S)) hx (evC_push (du' := latS 1 (duE (eE S))) (th' := thE (eE S)) (bb := 1) (tt' := F 9) (t := -nI 9) hE hlt rfl rfl rfl v5 (fun i h1 h2 => v6 _ (Nat.le_refl _) i h1 h2) (Or.inl ⟨rfl, fun i _ => rfl⟩)) (gdE_push hG5 (apart_lat hap hpos))
theorem RCx_exch {I : Nat → Int32} {F : Nat → Nat → Int32} {S : Sta} (hx : RCx I F S) (hlt : (eE S).1 < 40) {a b : Nat} (ha : a < (eN S)) (hb : b < (eN S)) : RCx (eI I (nI (pkN (swpS (duE (eE S)) a b) (eN S))) (I 31 + nI 0) (I 32 + nI 1)) (eF F (F 9) (upd (F 10) (eE S).1 (I 30)) (upd (F 11) (eE S).1 (-nI 9)) (upd (F 12) (eE S).1 (nI 0))) (sE S (exchE (eE S) a b)) := by
  obtain ⟨hs, hr, ht, hl⟩ := id hx
  obtain ⟨g1, g2, g3, g4, g5, g6⟩ := hs
  have hI : I 22 = nI (eN S) := g1
  have hn : eN S ≤ 6 := g2
  have hk : ∀ i, i < eN S → F 7 i = nI (eK S i) ∧ eK S i < 6 := g3
  have hE : evC (I 30) (I 31) (I 32) (F 9) (F 10) (F 11) (F 12) (eN S) (eE S) := g4
  have hG5 : gdE (eN S) (eE S) := g5
  have hap : apart (eN S) (duE (eE S)) := hG5 _ (Nat.le_refl _)
  obtain ⟨v1, v2, v3, v4, v5, v6, v7⟩ := id hE
  have h30 : I 30 = nI (pkN (duE (eE S)) (eN S)) := v3
  have hg : ∀ k, k < eN S → gP (I 30) k = gN (duE (eE S)) k := fun k hk2 => by rw [h30]; exact gP_S (le15_of hap) hn hk2
  have eDue : dueG (gP (I 30)) (eN S) 0 = dueS (eN S) (duE (eE S)) := dueG_congr hg _ 0 (by omega)
  have eMay : ∀ z, mayG (gP (I 30)) (F 7) (eN S) z = mayS (eN S) (eK S) (duE (eE S)) z := fun z => mayG_congr hg (fun k q => (hk k q).1) z
  exact RCx_ev (E2 := exchE (eE S) a b) hx (evC_push (du' := swpS (duE (eE S)) a b) (th' := thE (eE S)) (bb := 0) (tt' := F 9) (t := -nI 9) hE hlt rfl rfl rfl v5 (fun i h1 h2 => v6 _ (Nat.le_refl _) i h1 h2) (Or.inl ⟨rfl, fun i _ => rfl⟩)) (gdE_push hG5 (apart_swp hap ha hb))
theorem RCx_none {I : Nat → Int32} {F : Nat → Nat → Int32} {S : Sta} (hx : RCx I F S) (hlt : (eE S).1 < 40) : RCx (eI I (nI (pkN (duE (eE S)) (eN S))) (I 31 + nI 0) (I 32 + nI 1)) (eF F (F 9) (upd (F 10) (eE S).1 (I 30)) (upd (F 11) (eE S).1 (-nI 9)) (upd (F 12) (eE S).1 (nI 0))) (sE S (noneE (eE S))) := by
  obtain ⟨hs, hr, ht, hl⟩ := id hx
  obtain ⟨g1, g2, g3, g4, g5, g6⟩ := hs
  have hI : I 22 = nI (eN S) := g1
  have hn : eN S ≤ 6 := g2
  have hk : ∀ i, i < eN S → F 7 i = nI (eK S i) ∧ eK S i < 6 := g3
  have hE : evC (I 30) (I 31) (I 32) (F 9) (F 10) (F 11) (F 12) (eN S) (eE S) := g4
  have hG5 : gdE (eN S) (eE S) := g5
  have hap : apart (eN S) (duE (eE S)) := hG5 _ (Nat.le_refl _)
  obtain ⟨v1, v2, v3, v4, v5, v6, v7⟩ := id hE
  have h30 : I 30 = nI (pkN (duE (eE S)) (eN S)) := v3
  have hg : ∀ k, k < eN S → gP (I 30) k = gN (duE (eE S)) k := fun k hk2 => by rw [h30]; exact gP_S (le15_of hap) hn hk2
  have eDue : dueG (gP (I 30)) (eN S) 0 = dueS (eN S) (duE (eE S)) := dueG_congr hg _ 0 (by omega)
  have eMay : ∀ z, mayG (gP (I 30)) (F 7) (eN S) z = mayS (eN S) (eK S) (duE (eE S)) z := fun z => mayG_congr hg (fun k q => (hk k q).1) z
  exact RCx_ev (E2 := noneE (eE S)) hx (evC_push (du' := (duE (eE S))) (th' := thE (eE S)) (bb := 0) (tt' := F 9) (t := -nI 9) hE hlt rfl rfl rfl v5 (fun i h1 h2 => v6 _ (Nat.le_refl _) i h1 h2) (Or.inl ⟨rfl, fun i _ => rfl⟩)) (gdE_push hG5 hap)
theorem RCx_toss {I : Nat → Int32} {F : Nat → Nat → Int32} {S : Sta} (hx : RCx I F S) (hlt : (eE S).1 < 40) {q : Nat} (hq : 1 ≤ q ∧ q ≤ 7) (hm : mayS (eN S) (eK S) (duE (eE S)) (nI q) = true) : RCx (eI I (nI (pkN (tosS (eN S) (eK S) (duE (eE S)) q) (eN S))) (I 31 + nI 1) (I 32 + nI 1)) (eF F (upd (F 9) (dueS (eN S) (duE (eE S))) (F 9 (dueS (eN S) (duE (eE S))) + nI 1)) (upd (F 10) (eE S).1 (I 30)) (upd (F 11) (eE S).1 (nI (dueS (eN S) (duE (eE S))))) (upd (F 12) (eE S).1 (nI 1))) (sE S (tossE (eN S) (eK S) (eE S) q)) := by
  obtain ⟨hs, hr, ht, hl⟩ := id hx
  obtain ⟨g1, g2, g3, g4, g5, g6⟩ := hs
  have hI : I 22 = nI (eN S) := g1
  have hn : eN S ≤ 6 := g2
  have hk : ∀ i, i < eN S → F 7 i = nI (eK S i) ∧ eK S i < 6 := g3
  have hE : evC (I 30) (I 31) (I 32) (F 9) (F 10) (F 11) (F 12) (eN S) (eE S) := g4
  have hG5 : gdE (eN S) (eE S) := g5
  have hap : apart (eN S) (duE (eE S)) := hG5 _ (Nat.le_refl _)
  obtain ⟨v1, v2, v3, v4, v5, v6, v7⟩ := id hE
  have h30 : I 30 = nI (pkN (duE (eE S)) (eN S)) := v3
  have hg : ∀ k, k < eN S → gP (I 30) k = gN (duE (eE S)) k := fun k hk2 => by rw [h30]; exact gP_S (le15_of hap) hn hk2
  have eDue : dueG (gP (I 30)) (eN S) 0 = dueS (eN S) (duE (eE S)) := dueG_congr hg _ 0 (by omega)
  have eMay : ∀ z, mayG (gP (I 30)) (F 7) (eN S) z = mayS (eN S) (eK S) (duE (eE S)) z := fun z => mayG_congr hg (fun k q => (hk k q).1) z
  obtain ⟨hi, hv, hf⟩ := (mayS_iff hap.1 (fun i q => (hk i q).2) hq).mp hm
  have ap3 := apart_tos hap (fun i q => (hk i q).2) hq hm
  refine RCx_ev (E2 := tossE (eN S) (eK S) (eE S) q) hx (evC_push (du' := tosS (eN S) (eK S) (duE (eE S)) q) (th' := incS (thE (eE S)) (dueS (eN S) (duE (eE S)))) (bb := 1) (tt' := (upd (F 9) (dueS (eN S) (duE (eE S))) (F 9 (dueS (eN S) (duE (eE S))) + nI 1))) (t := nI (dueS (eN S) (duE (eE S)))) hE hlt rfl rfl rfl (fun i hi2 => ?_) (fun i h1 h2 => ?_) (Or.inr ⟨_, hi, rfl, fun i _ => rfl⟩)) (gdE_push hG5 ap3)
  · unfold incS upd
    by_cases hid : i = dueS (eN S) (duE (eE S))
    · rw [if_pos hid, if_pos hid, ← hid, v5 i hi2, nI_s1]
      rfl
    · rw [if_neg hid, if_neg hid, v5 i hi2]
      rfl
  · unfold incS
    rw [if_neg (by omega)]
    exact v6 _ (Nat.le_refl _) i h1 h2

theorem y_throwFrom {I : Nat → Int32} {F : Nat → Nat → Int32} {S : Sta} (hx : RCx I F S) (u v : Int64) (h0 : ¬ eN S = 0) (hlt : (eE S).1 < 40) (l : Nat) : ∃ I' F', Am_Ev false 4 0 0 118 [.ref 0, .int (nI (l % 7))] (cH I F u v) none (cH I' F' u v) ∧ RCx I' F' (sE S (if lotH (eN S) (eK S) (eE S) l = 0 then noneE (eE S) else tossE (eN S) (eK S) (eE S) (lotH (eN S) (eK S) (eE S) l))) := by
  obtain ⟨hs, hr, ht, hl⟩ := id hx
  obtain ⟨g1, g2, g3, g4, g5, g6⟩ := hs
  have hI : I 22 = nI (eN S) := g1
  have hn : eN S ≤ 6 := g2
  have hk : ∀ i, i < eN S → F 7 i = nI (eK S i) ∧ eK S i < 6 := g3
  have hE : evC (I 30) (I 31) (I 32) (F 9) (F 10) (F 11) (F 12) (eN S) (eE S) := g4
  have hG5 : gdE (eN S) (eE S) := g5
  have hap : apart (eN S) (duE (eE S)) := hG5 _ (Nat.le_refl _)
  obtain ⟨v1, v2, v3, v4, v5, v6, v7⟩ := id hE
  have h30 : I 30 = nI (pkN (duE (eE S)) (eN S)) := v3
  have hg : ∀ k, k < eN S → gP (I 30) k = gN (duE (eE S)) k := fun k hk2 => by rw [h30]; exact gP_S (le15_of hap) hn hk2
  have eDue : dueG (gP (I 30)) (eN S) 0 = dueS (eN S) (duE (eE S)) := dueG_congr hg _ 0 (by omega)
  have eMay : ∀ z, mayG (gP (I 30)) (F 7) (eN S) z = mayS (eN S) (eK S) (duE (eE S)) z := fun z => mayG_congr hg (fun k q => (hk k q).1) z
  have hb := CBs_of hx h0
  have hR : fsH (fun h => mayS (eN S) (eK S) (duE (eE S)) (nI h)) (l % 7) 7 0 = lotH (eN S) (eK S) (eE S) l := rfl
  rcases fsH_ok (p := fun h => mayS (eN S) (eK S) (duE (eE S)) (nI h)) (st := l % 7) 7 0 with hz | ⟨y1, y2, y3⟩
  · have hz' : lotH (eN S) (eK S) (eE S) l = 0 := hz
    rw [if_pos hz']
    have hen := c_E_enter (cH I F u v) 8 (I 30) (I 31) (I 32) (F 9) (F 10) (F 11) (F 12) cH_ev (eE S).1 (I 30) (-nI 9) (nI 0) v2 hlt (Or.inl rfl)
    rw [if_pos rfl, cH_evW] at hen
    have hxn := RCx_none hx hlt
    rw [← h30] at hxn
    refine ⟨_, _, am_ev 4 none false [2] ok_T_enterThrowFrom am_mP_118 (by rw [am_m_118]) (by rw [am_m_118]) (fun h => by cases h) (Nat.le_of_ble_eq_true rfl) (fun Go hG => ?_), hxn⟩
    have L : ∀ (j k : Nat), k + j = 7 → fsH (fun h => mayS (eN S) (eK S) (duE (eE S)) (nI h)) (l % 7) j k = 0 → ∀ x : Option Value, Go 2 [some (.ref 0), some (.int (nI (l % 7))), some (.int (nI k)), x] [] (cH I F u v) 0 0 := by
      intro j
      induction j with
      | zero =>
        intro k hk2 _ x
        refine hG 200 _ _ _ _ _ _ ?_
        refine br_t (nI_le (by omega) (by omega)) ?_
        refine Exists.intro 1 (Exists.intro _ (Exists.intro _ ⟨by decide, hen, ?_⟩))
        exact ⟨rfl, rfl, rfl, rfl⟩
      | succ j ih =>
            intro k hk2 hf x
            have hmc := y_may hb u v hap ((l % 7 + k) % 7 + 1) (by omega)
            rw [← h30] at hmc
            unfold fsH at hf
            by_cases hp : mayS (eN S) (eK S) (duE (eE S)) (nI ((l % 7 + k) % 7 + 1)) = true
            · rw [if_pos hp] at hf
              omega
            rw [if_neg hp] at hf
            have h9 := ih (k + 1) (by omega) hf (some (.int (nI ((l % 7 + k) % 7 + 1))))
            rw [← nI_s1 k, ← nI_s1 ((l % 7 + k) % 7)] at h9
            rw [show mayS (eN S) (eK S) (duE (eE S)) (nI ((l % 7 + k) % 7 + 1)) = false by cases q : mayS (eN S) (eK S) (duE (eE S)) (nI ((l % 7 + k) % 7 + 1)) with | false => rfl | true => exact absurd q hp, ← nI_s1 ((l % 7 + k) % 7)] at hmc
            refine hG 200 _ _ _ _ _ _ ?_
            refine br_f (nI_ge (by omega) (by omega)) ?_
            refine And.intro (by decide) ?_
            rw [nI_add (l % 7) k, pk_rem (a := l % 7 + k) (d := 7) (by omega) (by omega) (by omega)]
            refine Exists.intro 2 (Exists.intro _ (Exists.intro _ ⟨by decide, hmc, ?_⟩))
            refine br_t rfl ?_
            exact h9
    refine hG 200 _ _ _ _ _ _ ?_
    exact L 7 0 (by omega) hz none
  · have hz' : ¬ lotH (eN S) (eK S) (eE S) l = 0 := by rw [← hR]; omega
    rw [if_neg hz']
    rw [hR] at y1 y2 y3
    have hto := c_T_enterThrow I F u v (eN S) (eE S).1 (duE (eE S)) hI hn hap h30 v2 hlt (eK S) hk (lotH (eN S) (eK S) (eE S) l) ⟨y1, y2⟩ y3
    have hxt := RCx_toss hx hlt ⟨y1, y2⟩ y3
    refine ⟨_, _, am_ev 4 none false [2] ok_T_enterThrowFrom am_mP_118 (by rw [am_m_118]) (by rw [am_m_118]) (fun h => by cases h) (Nat.le_of_ble_eq_true rfl) (fun Go hG => ?_), hxt⟩
    have L : ∀ (j k : Nat), k + j = 7 → fsH (fun h => mayS (eN S) (eK S) (duE (eE S)) (nI h)) (l % 7) j k = lotH (eN S) (eK S) (eE S) l → ∀ x : Option Value, Go 2 [some (.ref 0), some (.int (nI (l % 7))), some (.int (nI k)), x] [] (cH I F u v) 0 0 := by
      intro j
      induction j with
      | zero =>
        intro k hk2 hf x
        exact absurd hf.symm hz'
      | succ j ih =>
            intro k hk2 hf x
            have hmc := y_may hb u v hap ((l % 7 + k) % 7 + 1) (by omega)
            rw [← h30] at hmc
            unfold fsH at hf
            by_cases hp : mayS (eN S) (eK S) (duE (eE S)) (nI ((l % 7 + k) % 7 + 1)) = true
            · rw [if_pos hp] at hf
              rw [hp, ← nI_s1 ((l % 7 + k) % 7)] at hmc
              rw [← hf] at hto
              rw [← hf] at hG
              have hto2 : ∀ x, x = nI ((l % 7 + k) % 7 + 1) → Am_Ev false 3 0 0 56 [.ref 0, .int x] (cH I F u v) none (cH (eI I (nI (pkN (tosS (eN S) (eK S) (duE (eE S)) ((l % 7 + k) % 7 + 1)) (eN S))) (I 31 + nI 1) (I 32 + nI 1)) (eF F (upd (F 9) (dueS (eN S) (duE (eE S))) (F 9 (dueS (eN S) (duE (eE S))) + nI 1)) (upd (F 10) (eE S).1 (I 30)) (upd (F 11) (eE S).1 (nI (dueS (eN S) (duE (eE S))))) (upd (F 12) (eE S).1 (nI 1))) u v) := fun x ex => by rw [ex]; exact hto
              refine hG 200 _ _ _ _ _ _ ?_
              refine br_f (nI_ge (by omega) (by omega)) ?_
              refine And.intro (by decide) ?_
              rw [nI_add (l % 7) k, pk_rem (a := l % 7 + k) (d := 7) (by omega) (by omega) (by omega)]
              refine Exists.intro 2 (Exists.intro _ (Exists.intro _ ⟨by decide, hmc, ?_⟩))
              refine br_f (by decide) ?_
              refine Exists.intro 3 (Exists.intro _ (Exists.intro _ ⟨by decide, hto2 _ (nI_s1 _), ?_⟩))
              exact ⟨rfl, rfl, rfl, rfl⟩
            rw [if_neg hp] at hf
            have h9 := ih (k + 1) (by omega) hf (some (.int (nI ((l % 7 + k) % 7 + 1))))
            rw [← nI_s1 k, ← nI_s1 ((l % 7 + k) % 7)] at h9
            rw [show mayS (eN S) (eK S) (duE (eE S)) (nI ((l % 7 + k) % 7 + 1)) = false by cases q : mayS (eN S) (eK S) (duE (eE S)) (nI ((l % 7 + k) % 7 + 1)) with | false => rfl | true => exact absurd q hp, ← nI_s1 ((l % 7 + k) % 7)] at hmc
            refine hG 200 _ _ _ _ _ _ ?_
            refine br_f (nI_ge (by omega) (by omega)) ?_
            refine And.intro (by decide) ?_
            rw [nI_add (l % 7) k, pk_rem (a := l % 7 + k) (d := 7) (by omega) (by omega) (by omega)]
            refine Exists.intro 2 (Exists.intro _ (Exists.intro _ ⟨by decide, hmc, ?_⟩))
            refine br_t rfl ?_
            exact h9
    refine hG 200 _ _ _ _ _ _ ?_
    exact L 7 0 (by omega) hR none
theorem y_lot {I : Nat → Int32} {F : Nat → Nat → Int32} {S : Sta} (hx : RCx I F S) (u v : Int64) (h0 : ¬ eN S = 0) (hlt : (eE S).1 < 40) (l : Nat) (hl2 : l < 2 ^ 31) : ∃ I' F', Am_Ev false 5 0 0 117 [.ref 0, .int (nI l)] (cH I F u v) none (cH I' F' u v) ∧ RCx I' F' (sE S (lotE (eN S) (eK S) (eE S) l)) := by
  obtain ⟨hs, hr, ht, hl⟩ := id hx
  obtain ⟨g1, g2, g3, g4, g5, g6⟩ := hs
  have hI : I 22 = nI (eN S) := g1
  have hn : eN S ≤ 6 := g2
  have hk : ∀ i, i < eN S → F 7 i = nI (eK S i) ∧ eK S i < 6 := g3
  have hE : evC (I 30) (I 31) (I 32) (F 9) (F 10) (F 11) (F 12) (eN S) (eE S) := g4
  have hG5 : gdE (eN S) (eE S) := g5
  have hap : apart (eN S) (duE (eE S)) := hG5 _ (Nat.le_refl _)
  obtain ⟨v1, v2, v3, v4, v5, v6, v7⟩ := id hE
  have h30 : I 30 = nI (pkN (duE (eE S)) (eN S)) := v3
  have hg : ∀ k, k < eN S → gP (I 30) k = gN (duE (eE S)) k := fun k hk2 => by rw [h30]; exact gP_S (le15_of hap) hn hk2
  have eDue : dueG (gP (I 30)) (eN S) 0 = dueS (eN S) (duE (eE S)) := dueG_congr hg _ 0 (by omega)
  have eMay : ∀ z, mayG (gP (I 30)) (F 7) (eN S) z = mayS (eN S) (eK S) (duE (eE S)) z := fun z => mayG_congr hg (fun k q => (hk k q).1) z
  have hb := CBs_of hx h0
  have hdc := y_due hb u v hap
  rw [← h30] at hdc
  unfold lotE
  by_cases hdu : dueS (eN S) (duE (eE S)) < (eN S)
  · rw [if_pos hdu]
    rw [dueR_yes hdu] at hdc
    by_cases h7 : l / 8 % 8 = 7
    · rw [if_pos h7]
      have hlm : l % eN S < eN S := Nat.mod_lt _ (by omega)
      have hex := c_T_enterExchange I F u v (eN S) (eE S).1 (duE (eE S)) hI hn hap h30 v2 hlt (dueS (eN S) (duE (eE S))) (l % eN S) hdu hlm
      refine ⟨_, _, am_ev 3 none false [] ok_T_enterByLot am_mP_117 (by rw [am_m_117]) (by rw [am_m_117]) (fun h => by cases h) (Nat.le_of_ble_eq_true rfl) (fun Go hG => ?_), RCx_exch hx hlt hdu hlm⟩
      refine hG 200 _ _ _ _ _ _ ?_
      refine Exists.intro 1 (Exists.intro _ (Exists.intro _ ⟨by decide, hdc, ?_⟩))
      refine bn_t (nI_m9 (by omega)) ?_
      refine And.intro (by decide) ?_
      refine And.intro (by decide) ?_
      rw [pk_div (a := l) (d := 8) (by omega) (by omega) (by omega), pk_rem (a := l / 8) (d := 8) (by omega) (by omega) (by omega), h7]
      refine bn_f rfl ?_
      refine And.intro (by rw [hI]; exact fun q => h0 ((nI_z (by omega)).mp q)) ?_
      rw [hI, pk_rem (a := l) (d := eN S) (by omega) (by omega) (by omega)]
      refine Exists.intro 2 (Exists.intro _ (Exists.intro _ ⟨by decide, hex, ?_⟩))
      exact ⟨rfl, rfl, rfl, rfl⟩
    · rw [if_neg h7]
      have hne7 : ¬ nI (l / 8 % 8) = nI 7 := fun q => h7 ((nI_eqd (by omega) (by omega)).mp q)
      obtain ⟨I', F', hc, hx'⟩ := y_throwFrom hx u v h0 hlt l
      refine ⟨I', F', am_ev 3 none false [] ok_T_enterByLot am_mP_117 (by rw [am_m_117]) (by rw [am_m_117]) (fun h => by cases h) (Nat.le_of_ble_eq_true rfl) (fun Go hG => ?_), hx'⟩
      refine hG 200 _ _ _ _ _ _ ?_
      refine Exists.intro 1 (Exists.intro _ (Exists.intro _ ⟨by decide, hdc, ?_⟩))
      refine bn_t (nI_m9 (by omega)) ?_
      refine And.intro (by decide) ?_
      refine And.intro (by decide) ?_
      rw [pk_div (a := l) (d := 8) (by omega) (by omega) (by omega), pk_rem (a := l / 8) (d := 8) (by omega) (by omega) (by omega)]
      refine bn_t hne7 ?_
      refine And.intro (by decide) ?_
      rw [pk_rem (a := l) (d := 7) (by omega) (by omega) (by omega)]
      refine Exists.intro 4 (Exists.intro _ (Exists.intro _ ⟨by decide, hc, ?_⟩))
      exact ⟨rfl, rfl, rfl, rfl⟩
  · rw [if_neg hdu]
    rw [dueR_no hdu] at hdc
    have hre := c_T_enterRest I F u v (eN S) (eE S).1 (duE (eE S)) hI hn hap h30 v2 hlt (dueS_pos hdu)
    refine ⟨_, _, am_ev 3 none false [] ok_T_enterByLot am_mP_117 (by rw [am_m_117]) (by rw [am_m_117]) (fun h => by cases h) (Nat.le_of_ble_eq_true rfl) (fun Go hG => ?_), RCx_rest hx hlt (dueS_pos hdu)⟩
    refine hG 200 _ _ _ _ _ _ ?_
    refine Exists.intro 1 (Exists.intro _ (Exists.intro _ ⟨by decide, hdc, ?_⟩))
    refine bn_f rfl ?_
    refine Exists.intro 2 (Exists.intro _ (Exists.intro _ ⟨by decide, hre, ?_⟩))
    exact ⟨rfl, rfl, rfl, rfl⟩

theorem l_T_lots {S : Sta} (u v : Int64) (h0 : ¬ eN S = 0) (c : Nat) (s : Int32) (hc : c ≤ 20) : ∀ (j k l : Nat) (E : Evn) (I : Nat → Int32) (F : Nat → Nat → Int32), k + j = c → E.1 + j ≤ 40 → l < 2 ^ 31 → RCx I F (sE S E) → ∃ I' F', RCx I' F' (sE S (lotsE (eN S) (eK S) j l E)) ∧ Rch cd_T_lots [61] 6 (some .int) 61 [some (.ref 0), some (.int (nI c)), some (.int s), some (.long (lN l)), none, some (.int (nI k))] [] (cH I F u v) (some (.int (skyS (eN S) (duE (lotsE (eN S) (eK S) j l E))))) (cH I' F' u v) := by
  intro j
  induction j with
  | zero =>
    intro k l E I F hk hE hl hx
    have hap : apart (eN S) (duE E) := hx.1.2.2.2.2.1 _ (Nat.le_refl _)
    have hs := c_T_skyNow I F u v (eN S) (duE E) hx.1.1 hx.1.2.1 (le15_of hap) hx.1.2.2.2.1.2.2.1
    refine ⟨I, F, hx, fun Go hG => ?_⟩
    refine hG 200 _ _ _ _ _ _ ?_
    refine br_t (nI_le (by omega) (by omega)) ?_
    refine Exists.intro 2 (Exists.intro _ (Exists.intro _ ⟨by decide, hs, ?_⟩))
    exact ⟨rfl, rfl, rfl, rfl⟩
  | succ j ih =>
    intro k l E I F hk hE hl hx
    obtain ⟨I2, F2, hc2, hx2⟩ := y_lot hx u v h0 (by show E.1 < 40; omega) (nxL l) (by have := nxL_lt l; omega)
    have hx2' : RCx I2 F2 (sE S (lotE (eN S) (eK S) E (nxL l))) := hx2
    obtain ⟨I3, F3, hx3, hR⟩ := ih (k + 1) (nxL l) (lotE (eN S) (eK S) E (nxL l)) I2 F2 (by omega) (by rw [lotE_1]; omega) (by have := nxL_lt l; omega) hx2'
    refine ⟨I3, F3, hx3, fun Go hG => ?_⟩
    have h9 := hR Go hG
    rw [← nI_s1 k, ← nxL_L hl] at h9
    rw [← lN_i, ← nxL_L hl] at hc2
    refine hG 200 _ _ _ _ _ _ ?_
    refine br_f (nI_ge (by omega) (by omega)) ?_
    refine And.intro (by decide) ?_
    refine Exists.intro 5 (Exists.intro _ (Exists.intro _ ⟨by decide, hc2, ?_⟩))
    exact h9

theorem pc_T_lots (S : Sta) (hp : List Am_C) (hRM : RC S hp) (n s : Int32) : ∃ hp', Am_Ev false 6 0 0 116 [.ref 0, .int n, .int s] hp (some (.int (spLots S n s).1)) hp' ∧ RC (spLots S n s).2 hp' := by
  obtain ⟨I, F, rfl, hx⟩ := hRM
  obtain ⟨hs, hr, ht, hl⟩ := id hx
  obtain ⟨g1, g2, g3, g4, g5, g6⟩ := hs
  have hI : I 22 = nI (eN S) := g1
  have hn : eN S ≤ 6 := g2
  unfold spLots
  by_cases hn0 : eN S = 0
  · rw [if_pos hn0]
    refine ⟨_, am_ev 6 (some .int) false [61] ok_T_lots am_mP_116 (by rw [am_m_116]) (by rw [am_m_116]) (fun h => by cases h) (Nat.le_of_ble_eq_true rfl) (fun Go hG => ?_), RC_of hx⟩
    refine hG 200 _ _ _ _ _ _ ?_
    refine bn_f (by rw [hI, hn0]; rfl) ?_
    exact ⟨rfl, rfl, rfl, rfl⟩
  rw [if_neg hn0]
  have hI0 : ¬ I 22 = 0 := by rw [hI]; exact fun q => hn0 ((nI_z (by omega)).mp q)
  cases ho1 : in3 n (nI 1) (nI 20) with
  | false =>
    rw [if_pos rfl]
    have ho1' := ho1
    unfold in3 at ho1'
    refine ⟨_, am_ev 6 (some .int) false [61] ok_T_lots am_mP_116 (by rw [am_m_116]) (by rw [am_m_116]) (fun h => by cases h) (Nat.le_of_ble_eq_true rfl) (fun Go hG => ?_), RC_of hx⟩
    refine hG 200 _ _ _ _ _ _ ?_
    refine bn_t hI0 ?_
    refine And.intro (fun h1 => ?_) (fun h1 => And.intro (fun h2 => ?_) (fun h2 => ?_))
    · exact ⟨rfl, rfl, rfl, rfl⟩
    · exact ⟨rfl, rfl, rfl, rfl⟩
    · rw [decide_eq_true (Int32.not_lt.mp h1), decide_eq_true (Int32.not_lt.mp h2)] at ho1'
      cases ho1'
  | true =>
    rw [if_neg (by decide)]
    obtain ⟨c, hc1a, hc1b, rfl⟩ := in3_nat (by decide) (by decide) ho1
    rw [nat_nI (by omega)]
    cases ho2 : in3 s (nI 1) (nI 2147483646) with
    | false =>
      rw [if_pos rfl]
      refine ⟨_, am_ev 6 (some .int) false [61] ok_T_lots am_mP_116 (by rw [am_m_116]) (by rw [am_m_116]) (fun h => by cases h) (Nat.le_of_ble_eq_true rfl) (fun Go hG => ?_), RC_of hx⟩
      refine hG 200 _ _ _ _ _ _ ?_
      refine bn_t hI0 ?_
      refine br_f (nI_nlt (by omega) (by omega)) ?_
      refine br_f (nI_nlt (by omega) (by omega)) ?_
      refine And.intro (fun h1 => ?_) (fun h1 => And.intro (fun h2 => ?_) (fun h2 => ?_))
      · exact ⟨rfl, rfl, rfl, rfl⟩
      · have h9 := in3_true (x := s) (a := 1) (b := 2147483646) (by decide) (by decide) (by have : ¬ s.toInt < ((1 : Nat) : Int) := fun q => h1 ((ltN (by decide)).mpr q); omega) (by have := (ltN (a := 2147483647) (by decide)).mp h2; omega)
        rw [ho2] at h9
        cases h9
      · exact ⟨rfl, rfl, rfl, rfl⟩
    | true =>
      rw [if_neg (by decide)]
      obtain ⟨l, hl1, hl2, rfl⟩ := in3_nat (by decide) (by decide) ho2
      rw [nat_nI (by omega)]
      have hm33 : I 32 = nI (eE S).1 := g4.2.1
      have hm40 : (eE S).1 ≤ 40 := g4.1
      have hsum : I 32 + nI c = nI ((eE S).1 + c) := by rw [hm33, nI_add]
      by_cases h40 : 40 < (eE S).1 + c
      · rw [if_pos h40]
        refine ⟨_, am_ev 6 (some .int) false [61] ok_T_lots am_mP_116 (by rw [am_m_116]) (by rw [am_m_116]) (fun h => by cases h) (Nat.le_of_ble_eq_true rfl) (fun Go hG => ?_), RC_of hx⟩
        refine hG 200 _ _ _ _ _ _ ?_
        refine bn_t hI0 ?_
        refine br_f (nI_nlt (by omega) (by omega)) ?_
        refine br_f (nI_nlt (by omega) (by omega)) ?_
        refine br_f (nI_nlt (by omega) (by omega)) ?_
        refine br_t (nI_lt (by omega) (by omega)) ?_
        refine br_f (by rw [hsum]; exact nI_ge h40 (by omega)) ?_
        exact ⟨rfl, rfl, rfl, rfl⟩
      · rw [if_neg h40]
        obtain ⟨I', F', hx', hR⟩ := l_T_lots (S := S) S.2.2.2.2.2.2.1 S.2.2.2.2.2.2.2 hn0 c (nI l) hc1b c 0 l (eE S) I F (by omega) (by omega) (by omega) hx
        refine ⟨_, am_ev 6 (some .int) false [61] ok_T_lots am_mP_116 (by rw [am_m_116]) (by rw [am_m_116]) (fun h => by cases h) (Nat.le_of_ble_eq_true rfl) (fun Go hG => ?_), RC_of hx'⟩
        have h9 := hR Go hG
        rw [← nI_l (n := l) (by omega)] at h9
        refine hG 200 _ _ _ _ _ _ ?_
        refine bn_t hI0 ?_
        refine br_f (nI_nlt (by omega) (by omega)) ?_
        refine br_f (nI_nlt (by omega) (by omega)) ?_
        refine br_f (nI_nlt (by omega) (by omega)) ?_
        refine br_t (nI_lt (by omega) (by omega)) ?_
        refine br_t (by rw [hsum]; exact nI_le (by omega) (by omega)) ?_
        exact h9

