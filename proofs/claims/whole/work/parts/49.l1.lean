/-! ===== lots: what they come to; the reference ===== -/
def fsH (p : Nat → Bool) (st : Nat) : Nat → Nat → Nat
  | 0, _ => 0
  | j + 1, k => if p ((st + k) % 7 + 1) = true then (st + k) % 7 + 1 else fsH p st j (k + 1)
theorem fsH_ok {p : Nat → Bool} {st : Nat} : ∀ (j k : Nat), fsH p st j k = 0 ∨ (1 ≤ fsH p st j k ∧ fsH p st j k ≤ 7 ∧ p (fsH p st j k) = true)
  | 0, _ => Or.inl rfl
  | j + 1, k => by
    unfold fsH
    by_cases h : p ((st + k) % 7 + 1) = true
    · rw [if_pos h]
      exact Or.inr ⟨by omega, by omega, h⟩
    · rw [if_neg h]
      exact fsH_ok j (k + 1)
def lotH (n : Nat) (kd : Nat → Nat) (E : Evn) (l : Nat) : Nat := fsH (fun h => mayS n kd (duE E) (nI h)) (l % 7) 7 0
def lotE (n : Nat) (kd : Nat → Nat) (E : Evn) (l : Nat) : Evn := if dueS n (duE E) < n then (if l / 8 % 8 = 7 then exchE E (dueS n (duE E)) (l % n) else if lotH n kd E l = 0 then noneE E else tossE n kd E (lotH n kd E l)) else restE E
def nxL (l : Nat) : Nat := l * 48271 % 2147483647
def lotsE (n : Nat) (kd : Nat → Nat) : Nat → Nat → Evn → Evn
  | 0, _, E => E
  | c + 1, l, E => lotsE n kd c (nxL l) (lotE n kd E (nxL l))
theorem nxL_lt (l : Nat) : nxL l < 2147483647 := Nat.mod_lt _ (by decide)
theorem nxL_L {l : Nat} (h : l < 2 ^ 31) : lN l * lN 48271 - lN l * lN 48271 / lN 2147483647 * lN 2147483647 = lN (nxL l) := by
  rw [lN_mul]
  exact pk_lRem (by omega) (by omega) (by omega)
def spLots (S : Sta) (n s : Int32) : Int32 × Sta := if eN S = 0 then (-nI 4, S) else if in3 n (nI 1) (nI 20) = false then (-nI 1, S) else if in3 s (nI 1) (nI 2147483646) = false then (-nI 1, S) else if 40 < (eE S).1 + nat n then (-nI 2, S) else (skyS (eN S) (duE (lotsE (eN S) (eK S) (nat n) (nat s) (eE S))), sE S (lotsE (eN S) (eK S) (nat n) (nat s) (eE S)))
theorem lotE_1 (n : Nat) (kd : Nat → Nat) (E : Evn) (l : Nat) : (lotE n kd E l).1 = E.1 + 1 := by
  unfold lotE
  repeat' split
  all_goals rfl

theorem RMx_rest {I : Nat → Int32} {F : Nat → Nat → Int32} {S : Sta} (hx : RMx I F S) (h0 : ¬ eN S = 0) (hlt : (eE S).1 < 40) (hpos : ∀ k, k < eN S → 1 ≤ duE (eE S) k) : RMx I (va_up F 1 (latF (remW (F 1) (eE S).1) 0 (eN S))) (sE S (restE (eE S))) := by
  obtain ⟨hI, hn, hn0, hk, hd, hap⟩ := MBs_of hx h0
  obtain ⟨⟨g1, g2, g3, ⟨v1, v2, v3, v4, v5⟩, g5, g6⟩, hr, ht, hl⟩ := id hx
  refine skyM_push hx hlt (fun j hj => latF_out hn (by omega)) (fun k hk2 => ⟨?_, ?_⟩) ?_ (apart_lat hap hpos)
  · have h6 := latF_at (w := (remW (F 1) (eE S).1)) (x := 0) hk2 hn
    rw [Nat.zero_add] at h6
    rw [h6, remW_lo (by omega), hd k hk2, pk_sub (hpos k hk2)]
    rfl
  · have h6 := latF_th (w := (remW (F 1) (eE S).1)) (x := 0) (n := eN S) (k := k) (by omega) hn
    rw [Nat.zero_add] at h6
    rw [h6, remW_lo (by omega)]
    have h7 := (v3 k hk2).2
    rw [Nat.zero_add] at h7
    exact h7
  · have h6 := latF_bt (w := (remW (F 1) (eE S).1)) (x := 0) (n := eN S) hn
    rw [Nat.zero_add] at h6
    rw [h6, remW_lo (by omega)]
    have h7 := v4
    rw [Nat.zero_add] at h7
    rw [h7, nI_s1]
    rfl
theorem RMx_none {I : Nat → Int32} {F : Nat → Nat → Int32} {S : Sta} (hx : RMx I F S) (h0 : ¬ eN S = 0) (hlt : (eE S).1 < 40) : RMx I (va_up F 1 (remW (F 1) (eE S).1)) (sE S (noneE (eE S))) := by
  obtain ⟨hI, hn, hn0, hk, hd, hap⟩ := MBs_of hx h0
  obtain ⟨⟨g1, g2, g3, ⟨v1, v2, v3, v4, v5⟩, g5, g6⟩, hr, ht, hl⟩ := id hx
  refine skyM_push hx hlt (fun j hj => rfl) (fun k hk2 => ⟨?_, ?_⟩) ?_ hap
  · rw [remW_lo (by omega)]; exact hd k hk2
  · rw [remW_lo (by omega)]
    have h7 := (v3 k hk2).2
    rw [Nat.zero_add] at h7
    exact h7
  · rw [remW_lo (by omega)]
    have h7 := v4
    rw [Nat.zero_add] at h7
    exact h7
theorem RMx_exch {I : Nat → Int32} {F : Nat → Nat → Int32} {S : Sta} (hx : RMx I F S) (h0 : ¬ eN S = 0) (hlt : (eE S).1 < 40) {a b : Nat} (ha : a < eN S) (hb : b < eN S) : RMx I (va_up F 1 (upd (upd (remW (F 1) (eE S).1) a ((remW (F 1) (eE S).1) b)) b ((remW (F 1) (eE S).1) a))) (sE S (exchE (eE S) a b)) := by
  obtain ⟨hI, hn, hn0, hk, hd, hap⟩ := MBs_of hx h0
  obtain ⟨⟨g1, g2, g3, ⟨v1, v2, v3, v4, v5⟩, g5, g6⟩, hr, ht, hl⟩ := id hx
  refine skyM_push hx hlt (fun q hq => by rw [pk_un (by omega), pk_un (by omega)]) (fun k hk2 => ⟨?_, ?_⟩) ?_ (apart_swp hap ha hb)
  · rw [remW_lo (show a < 13 by omega), remW_lo (show b < 13 by omega), hd a ha, hd b hb]
    unfold upd swpS setS
    by_cases h1 : k = b
    · rw [if_pos h1, if_pos h1]
    · rw [if_neg h1, if_neg h1]
      by_cases h2 : k = a
      · rw [if_pos h2, if_pos h2]
      · rw [if_neg h2, if_neg h2, remW_lo (by omega)]
        exact hd k hk2
  · rw [pk_un (by omega), pk_un (by omega), remW_lo (by omega)]
    have h7 := (v3 k hk2).2
    rw [Nat.zero_add] at h7
    exact h7
  · rw [pk_un (by omega), pk_un (by omega), remW_lo (by omega)]
    have h7 := v4
    rw [Nat.zero_add] at h7
    exact h7
theorem RMx_toss {I : Nat → Int32} {F : Nat → Nat → Int32} {S : Sta} (hx : RMx I F S) (h0 : ¬ eN S = 0) (hlt : (eE S).1 < 40) {q : Nat} (hq : 1 ≤ q ∧ q ≤ 7) (hm : mayS (eN S) (eK S) (duE (eE S)) (nI q) = true) : RMx I (va_up F 1 (tosW (remW (F 1) (eE S).1) (F 2) 0 (eN S) (dueS (eN S) (duE (eE S))) (nI q))) (sE S (tossE (eN S) (eK S) (eE S) q)) := by
  obtain ⟨hI, hn, hn0, hk, hd, hap⟩ := MBs_of hx h0
  obtain ⟨⟨g1, g2, g3, ⟨v1, v2, v3, v4, v5⟩, g5, g6⟩, hr, ht, hl⟩ := id hx
  obtain ⟨hi, hv, hf⟩ := (mayS_iff hap.1 (fun i q => (hk i q).2) hq).mp hm
  obtain ⟨ap1, ap2⟩ := tos_pos hap (fun i q => (hk i q).2) hq hm
  refine skyM_push hx hlt (fun j hj => tosW_out hn hi (by omega)) (fun k hk2 => ⟨?_, ?_⟩) ?_ (apart_tos hap (fun i q => (hk i q).2) hq hm)
  · have := tosW_S (w := (remW (F 1) (eE S).1)) (x := 0) (fun k q => by rw [Nat.zero_add, remW_lo (by omega)]; exact hd k q) (hk _ hi).1 hn hi (hk _ hi).2 hq hv ap2 k hk2
    rw [Nat.zero_add] at this
    exact this
  · have h6 := tosW_th (w := (remW (F 1) (eE S).1)) (kf := F 2) (x := 0) (h := nI q) (k := k) (by omega) hn hi
    rw [Nat.zero_add] at h6
    rw [h6, remW_lo (by omega)]
    have h7 := (v3 k hk2).2
    rw [Nat.zero_add] at h7
    rw [h7]
    unfold incS
    by_cases hki : k = dueS (eN S) (duE (eE S))
    · rw [if_pos hki, if_pos hki, nI_s1]
      rfl
    · rw [if_neg hki, if_neg hki]
      rfl
  · have h6 := tosW_bt (w := (remW (F 1) (eE S).1)) (kf := F 2) (x := 0) (h := nI q) hn hi
    rw [Nat.zero_add] at h6
    rw [h6, remW_lo (by omega)]
    have h7 := v4
    rw [Nat.zero_add] at h7
    rw [h7, nI_s1]
    rfl

theorem x_lot {I : Nat → Int32} {F : Nat → Nat → Int32} {S : Sta} (hx : RMx I F S) (u v : Int64) (h0 : ¬ eN S = 0) (hlt : (eE S).1 < 40) (l : Nat) (hl : l < 2 ^ 31) : ∃ w2, Am_Ev false 2 0 0 212 [.ref 0, .int (nI l)] (mH I (va_up F 1 (remW (F 1) (eE S).1)) u v) none (mH I (va_up F 1 w2) u v) ∧ RMx I (va_up F 1 w2) (sE S (lotE (eN S) (eK S) (eE S) l)) := by
  have hb := MBs_of hx h0
  obtain ⟨hI, hn, hn0, hk, hd, hap⟩ := id hb
  have hbr : MBs I (va_up F 1 (remW (F 1) (eE S).1)) (eN S) (eK S) (duE (eE S)) := ⟨hI, hn, hn0, hk, fun k q => by show (remW (F 1) (eE S).1) k = _; rw [remW_lo (by omega)]; exact hd k q, hap⟩
  have hdc := c_M_dueAt I (va_up F 1 (remW (F 1) (eE S).1)) u v (eN S) 0 hI hn (by omega)
  rw [dueG_congr (h := gN (duE (eE S))) (fun k q => by rw [Nat.zero_add]; exact hbr.2.2.2.2.1 k q) (eN S) 0 (by omega), show dueG (gN (duE (eE S))) (eN S) 0 = dueS (eN S) (duE (eE S)) from rfl] at hdc
  unfold lotE
  by_cases hdu : dueS (eN S) (duE (eE S)) < eN S
  · rw [if_pos hdu]
    rw [dueR_yes hdu] at hdc
    by_cases h7 : l / 8 % 8 = 7
    · rw [if_pos h7]
      have hlm : l % eN S < eN S := Nat.mod_lt _ hn0
      have hsw := c_M_swap I (va_up F 1 (remW (F 1) (eE S).1)) u v (dueS (eN S) (duE (eE S))) (l % eN S) (by omega) (by omega)
      rw [va_up_up, va_up_self] at hsw
      refine ⟨_, am_ev 5 none false [48] ok_M_doByLot am_mP_212 (by rw [am_m_212]) (by rw [am_m_212]) (fun h => by cases h) (Nat.le_of_ble_eq_true rfl) (fun Go hG => ?_), RMx_exch hx h0 hlt hdu hlm⟩
      refine hG 200 _ _ _ _ _ _ ?_
      refine Exists.intro 0 (Exists.intro _ (Exists.intro _ ⟨by decide, hdc, ?_⟩))
      refine bn_t (nI_m9 (by omega)) ?_
      refine And.intro (by decide) ?_
      refine And.intro (by decide) ?_
      rw [pk_div (a := l) (d := 8) (by omega) (by omega) (by omega), pk_rem (a := l / 8) (d := 8) (by omega) (by omega) (by omega), h7]
      refine bn_f rfl ?_
      refine And.intro (by rw [hI]; exact fun q => h0 ((nI_z (by omega)).mp q)) ?_
      rw [hI, pk_rem (a := l) (d := eN S) (by omega) (by omega) (by omega)]
      refine Exists.intro 0 (Exists.intro _ (Exists.intro _ ⟨by decide, hsw, ?_⟩))
      exact ⟨rfl, rfl, rfl, rfl⟩
    · rw [if_neg h7]
      have hne7 : ¬ nI (l / 8 % 8) = nI 7 := fun q => h7 ((nI_eqd (by omega) (by omega)).mp q)
      have hR : fsH (fun h => mayS (eN S) (eK S) (duE (eE S)) (nI h)) (l % 7) 7 0 = lotH (eN S) (eK S) (eE S) l := rfl
      rcases fsH_ok (p := fun h => mayS (eN S) (eK S) (duE (eE S)) (nI h)) (st := l % 7) 7 0 with hz | ⟨y1, y2, y3⟩
      · have hz' : lotH (eN S) (eK S) (eE S) l = 0 := hz
        rw [if_pos hz']
        refine ⟨_, am_ev 5 none false [48] ok_M_doByLot am_mP_212 (by rw [am_m_212]) (by rw [am_m_212]) (fun h => by cases h) (Nat.le_of_ble_eq_true rfl) (fun Go hG => ?_), RMx_none hx h0 hlt⟩
        have L : ∀ (j k : Nat), k + j = 7 → fsH (fun h => mayS (eN S) (eK S) (duE (eE S)) (nI h)) (l % 7) j k = 0 → ∀ x : Option Value, Go 48 [some (.ref 0), some (.int (nI l)), some (.int (nI (dueS (eN S) (duE (eE S))))), some (.int (nI k)), x] [] (mH I (va_up F 1 (remW (F 1) (eE S).1)) u v) 0 0 := by
          intro j
          induction j with
          | zero =>
            intro k hk2 _ x
            refine hG 200 _ _ _ _ _ _ ?_
            refine br_t (nI_le (by omega) (by omega)) ?_
            exact ⟨rfl, rfl, rfl, rfl⟩
          | succ j ih =>
            intro k hk2 hf x
            have hmc := x_may0 hbr u v (w := (remW (F 1) (eE S).1)) (fun _ _ => rfl) (nI ((l % 7 + k) % 7 + 1))
            rw [va_up_up] at hmc
            unfold fsH at hf
            by_cases hp : mayS (eN S) (eK S) (duE (eE S)) (nI ((l % 7 + k) % 7 + 1)) = true
            · rw [if_pos hp] at hf
              omega
            rw [if_neg hp] at hf
            have h9 := ih (k + 1) (by omega) hf (some (.int (nI ((l % 7 + k) % 7 + 1))))
            rw [← nI_s1 k, ← nI_s1 ((l % 7 + k) % 7)] at h9
            rw [show mayS (eN S) (eK S) (duE (eE S)) (nI ((l % 7 + k) % 7 + 1)) = false by cases q : mayS (eN S) (eK S) (duE (eE S)) (nI ((l % 7 + k) % 7 + 1)) with | false => rfl | true => exact absurd q hp, ← nI_s1 ((l % 7 + k) % 7)] at hmc
            refine hG 200 _ _ _ _ _ _ ?_
            refine br_f (nI_ge (by omega) (by omega)) ?_
            refine And.intro (by decide) ?_
            refine And.intro (by decide) ?_
            rw [pk_rem (a := l) (d := 7) (by omega) (by omega) (by omega), nI_add (l % 7) k, pk_rem (a := l % 7 + k) (d := 7) (by omega) (by omega) (by omega)]
            refine Exists.intro 1 (Exists.intro _ (Exists.intro _ ⟨by decide, hmc, ?_⟩))
            refine br_t rfl ?_
            exact h9
        refine hG 200 _ _ _ _ _ _ ?_
        refine Exists.intro 0 (Exists.intro _ (Exists.intro _ ⟨by decide, hdc, ?_⟩))
        refine bn_t (nI_m9 (by omega)) ?_
        refine And.intro (by decide) ?_
        refine And.intro (by decide) ?_
        rw [pk_div (a := l) (d := 8) (by omega) (by omega) (by omega), pk_rem (a := l / 8) (d := 8) (by omega) (by omega) (by omega)]
        refine bn_t hne7 ?_
        exact L 7 0 (by omega) hz none
      · have hz' : ¬ lotH (eN S) (eK S) (eE S) l = 0 := by rw [← hR]; omega
        rw [if_neg hz']
        rw [hR] at y1 y2 y3
        have hto := c_M_tossAt I (va_up F 1 (remW (F 1) (eE S).1)) u v (eN S) 0 (dueS (eN S) (duE (eE S))) (nI (lotH (eN S) (eK S) (eE S) l)) hI hn (by omega) (dueG_congr (fun k q => by rw [Nat.zero_add]; exact hbr.2.2.2.2.1 k q) _ 0 (by omega)) hdu
        rw [va_up_up, va_up_self] at hto
        refine ⟨_, am_ev 5 none false [48] ok_M_doByLot am_mP_212 (by rw [am_m_212]) (by rw [am_m_212]) (fun h => by cases h) (Nat.le_of_ble_eq_true rfl) (fun Go hG => ?_), RMx_toss hx h0 hlt ⟨y1, y2⟩ y3⟩
        have L : ∀ (j k : Nat), k + j = 7 → fsH (fun h => mayS (eN S) (eK S) (duE (eE S)) (nI h)) (l % 7) j k = lotH (eN S) (eK S) (eE S) l → ∀ x : Option Value, Go 48 [some (.ref 0), some (.int (nI l)), some (.int (nI (dueS (eN S) (duE (eE S))))), some (.int (nI k)), x] [] (mH I (va_up F 1 (remW (F 1) (eE S).1)) u v) 0 0 := by
          intro j
          induction j with
          | zero =>
            intro k hk2 hf x
            exact absurd hf.symm hz'
          | succ j ih =>
            intro k hk2 hf x
            have hmc := x_may0 hbr u v (w := (remW (F 1) (eE S).1)) (fun _ _ => rfl) (nI ((l % 7 + k) % 7 + 1))
            rw [va_up_up] at hmc
            unfold fsH at hf
            by_cases hp : mayS (eN S) (eK S) (duE (eE S)) (nI ((l % 7 + k) % 7 + 1)) = true
            · rw [if_pos hp] at hf
              rw [hp, ← nI_s1 ((l % 7 + k) % 7)] at hmc
              rw [← hf, ← nI_s1 ((l % 7 + k) % 7)] at hto
              rw [← hf, ← nI_s1 ((l % 7 + k) % 7)] at hG
              refine hG 200 _ _ _ _ _ _ ?_
              refine br_f (nI_ge (by omega) (by omega)) ?_
              refine And.intro (by decide) ?_
              refine And.intro (by decide) ?_
              rw [pk_rem (a := l) (d := 7) (by omega) (by omega) (by omega), nI_add (l % 7) k, pk_rem (a := l % 7 + k) (d := 7) (by omega) (by omega) (by omega)]
              refine Exists.intro 1 (Exists.intro _ (Exists.intro _ ⟨by decide, hmc, ?_⟩))
              refine br_f (by decide) ?_
              refine Exists.intro 1 (Exists.intro _ (Exists.intro _ ⟨by decide, hto, ?_⟩))
              exact ⟨rfl, rfl, rfl, rfl⟩
            rw [if_neg hp] at hf
            have h9 := ih (k + 1) (by omega) hf (some (.int (nI ((l % 7 + k) % 7 + 1))))
            rw [← nI_s1 k, ← nI_s1 ((l % 7 + k) % 7)] at h9
            rw [show mayS (eN S) (eK S) (duE (eE S)) (nI ((l % 7 + k) % 7 + 1)) = false by cases q : mayS (eN S) (eK S) (duE (eE S)) (nI ((l % 7 + k) % 7 + 1)) with | false => rfl | true => exact absurd q hp, ← nI_s1 ((l % 7 + k) % 7)] at hmc
            refine hG 200 _ _ _ _ _ _ ?_
            refine br_f (nI_ge (by omega) (by omega)) ?_
            refine And.intro (by decide) ?_
            refine And.intro (by decide) ?_
            rw [pk_rem (a := l) (d := 7) (by omega) (by omega) (by omega), nI_add (l % 7) k, pk_rem (a := l % 7 + k) (d := 7) (by omega) (by omega) (by omega)]
            refine Exists.intro 1 (Exists.intro _ (Exists.intro _ ⟨by decide, hmc, ?_⟩))
            refine br_t rfl ?_
            exact h9
        refine hG 200 _ _ _ _ _ _ ?_
        refine Exists.intro 0 (Exists.intro _ (Exists.intro _ ⟨by decide, hdc, ?_⟩))
        refine bn_t (nI_m9 (by omega)) ?_
        refine And.intro (by decide) ?_
        refine And.intro (by decide) ?_
        rw [pk_div (a := l) (d := 8) (by omega) (by omega) (by omega), pk_rem (a := l / 8) (d := 8) (by omega) (by omega) (by omega)]
        refine bn_t hne7 ?_
        exact L 7 0 (by omega) hR none
  · rw [if_neg hdu]
    rw [dueR_no hdu] at hdc
    have hla := c_M_later I (va_up F 1 (remW (F 1) (eE S).1)) u v (eN S) 0 hI hn (by omega)
    rw [va_up_up, va_up_self] at hla
    refine ⟨_, am_ev 5 none false [48] ok_M_doByLot am_mP_212 (by rw [am_m_212]) (by rw [am_m_212]) (fun h => by cases h) (Nat.le_of_ble_eq_true rfl) (fun Go hG => ?_), RMx_rest hx h0 hlt (dueS_pos hdu)⟩
    refine hG 200 _ _ _ _ _ _ ?_
    refine Exists.intro 0 (Exists.intro _ (Exists.intro _ ⟨by decide, hdc, ?_⟩))
    refine bn_f rfl ?_
    refine Exists.intro 0 (Exists.intro _ (Exists.intro _ ⟨by decide, hla, ?_⟩))
    exact ⟨rfl, rfl, rfl, rfl⟩

theorem l_M_lots {I : Nat → Int32} {F : Nat → Nat → Int32} {S : Sta} (u v : Int64) (h0 : ¬ eN S = 0) (c : Nat) (s : Int32) (hc : c ≤ 20) : ∀ (j k l : Nat) (E : Evn) (w : Nat → Int32), k + j = c → E.1 + j ≤ 40 → l < 2 ^ 31 → RMx I (va_up F 1 w) (sE S E) → ∃ w', RMx I (va_up F 1 w') (sE S (lotsE (eN S) (eK S) j l E)) ∧ Rch cd_M_lots [56] 4 (some .int) 56 [some (.ref 0), some (.int (nI c)), some (.int s), some (.long (lN l)), none, some (.int (nI k))] [] (mH I (va_up F 1 w) u v) (some (.int (skyS (eN S) (duE (lotsE (eN S) (eK S) j l E))))) (mH I (va_up F 1 w') u v) := by
  intro j
  induction j with
  | zero =>
    intro k l E w hk hE hl hx
    have hb := MBs_of (S := sE S E) hx h0
    have hs := c_M_skyAt I (va_up F 1 w) u v (eN S) 0 hb.1 hb.2.1 (by omega)
    rw [skyG_congr (h := gN (duE E)) (fun k q => by rw [Nat.zero_add]; exact hb.2.2.2.2.1 k q)] at hs
    refine ⟨w, hx, fun Go hG => ?_⟩
    refine hG 200 _ _ _ _ _ _ ?_
    refine br_t (nI_le (by omega) (by omega)) ?_
    refine Exists.intro 0 (Exists.intro _ (Exists.intro _ ⟨by decide, hs, ?_⟩))
    exact ⟨rfl, rfl, rfl, rfl⟩
  | succ j ih =>
    intro k l E w hk hE hl hx
    have hm33 : va_up F 1 w 1 533 = nI E.1 := by
      have := hx.1.2.2.2.1.2.1
      rw [Nat.zero_add] at this
      exact this
    have hr1 := c_M_remember I (va_up F 1 w) u v E.1 hm33 (by omega)
    obtain ⟨w2, hc2, hx2⟩ := x_lot hx u v h0 (by show E.1 < 40; omega) (nxL l) (by have := nxL_lt l; omega)
    rw [va_up_up] at hr1
    rw [va_up_up, va_up_up] at hc2
    rw [va_up_up] at hx2
    have hx2' : RMx I (va_up F 1 w2) (sE S (lotE (eN S) (eK S) E (nxL l))) := hx2
    obtain ⟨w3, hx3, hR⟩ := ih (k + 1) (nxL l) (lotE (eN S) (eK S) E (nxL l)) w2 (by omega) (by rw [lotE_1]; omega) (by have := nxL_lt l; omega) hx2'
    refine ⟨w3, hx3, fun Go hG => ?_⟩
    have h9 := hR Go hG
    rw [← nI_s1 k, ← nxL_L hl] at h9
    rw [← lN_i, ← nxL_L hl] at hc2
    refine hG 200 _ _ _ _ _ _ ?_
    refine br_f (nI_ge (by omega) (by omega)) ?_
    refine And.intro (by decide) ?_
    refine Exists.intro 1 (Exists.intro _ (Exists.intro _ ⟨by decide, hr1, ?_⟩))
    refine Exists.intro 2 (Exists.intro _ (Exists.intro _ ⟨by decide, hc2, ?_⟩))
    exact h9

theorem pm_M_lots (S : Sta) (hp : List Am_C) (hRM : RM S hp) (n s : Int32) : ∃ hp', Am_Ev false 4 0 0 211 [.ref 0, .int n, .int s] hp (some (.int (spLots S n s).1)) hp' ∧ RM (spLots S n s).2 hp' := by
  obtain ⟨I, F, rfl, hx⟩ := hRM
  obtain ⟨hs, hr, ht, hl⟩ := id hx
  obtain ⟨g1, g2, g3, g4, g5, g6⟩ := hs
  have hI : I 2 = nI (eN S) := g1
  have hn : eN S ≤ 6 := g2
  unfold spLots
  by_cases hn0 : eN S = 0
  · rw [if_pos hn0]
    refine ⟨_, am_ev 6 (some .int) false [56] ok_M_lots am_mP_211 (by rw [am_m_211]) (by rw [am_m_211]) (fun h => by cases h) (Nat.le_of_ble_eq_true rfl) (fun Go hG => ?_), RM_of hx⟩
    refine hG 200 _ _ _ _ _ _ ?_
    refine bn_f (by rw [hI, hn0]; rfl) ?_
    exact ⟨rfl, rfl, rfl, rfl⟩
  rw [if_neg hn0]
  have hI0 : ¬ I 2 = 0 := by rw [hI]; exact fun q => hn0 ((nI_z (by omega)).mp q)
  have hc1 := c_M_in (mH I F S.2.2.2.2.2.2.1 S.2.2.2.2.2.2.2) n (nI 1) (nI 20)
  have hc2 := c_M_in (mH I F S.2.2.2.2.2.2.1 S.2.2.2.2.2.2.2) s (nI 1) (nI 2147483646)
  cases ho1 : in3 n (nI 1) (nI 20) with
  | false =>
    rw [if_pos rfl]
    rw [ho1] at hc1
    refine ⟨_, am_ev 6 (some .int) false [56] ok_M_lots am_mP_211 (by rw [am_m_211]) (by rw [am_m_211]) (fun h => by cases h) (Nat.le_of_ble_eq_true rfl) (fun Go hG => ?_), RM_of hx⟩
    refine hG 200 _ _ _ _ _ _ ?_
    refine bn_t hI0 ?_
    refine Exists.intro 0 (Exists.intro _ (Exists.intro _ ⟨by decide, hc1, ?_⟩))
    refine br_t rfl ?_
    exact ⟨rfl, rfl, rfl, rfl⟩
  | true =>
    rw [if_neg (by decide)]
    rw [ho1] at hc1
    cases ho2 : in3 s (nI 1) (nI 2147483646) with
    | false =>
      rw [if_pos rfl]
      rw [ho2] at hc2
      refine ⟨_, am_ev 6 (some .int) false [56] ok_M_lots am_mP_211 (by rw [am_m_211]) (by rw [am_m_211]) (fun h => by cases h) (Nat.le_of_ble_eq_true rfl) (fun Go hG => ?_), RM_of hx⟩
      refine hG 200 _ _ _ _ _ _ ?_
      refine bn_t hI0 ?_
      refine Exists.intro 0 (Exists.intro _ (Exists.intro _ ⟨by decide, hc1, ?_⟩))
      refine br_f (by decide) ?_
      refine Exists.intro 0 (Exists.intro _ (Exists.intro _ ⟨by decide, hc2, ?_⟩))
      refine bn_f rfl ?_
      exact ⟨rfl, rfl, rfl, rfl⟩
    | true =>
      rw [if_neg (by decide)]
      rw [ho2] at hc2
      obtain ⟨c, hc1a, hc1b, rfl⟩ := in3_nat (by decide) (by decide) ho1
      obtain ⟨l, hl1, hl2, rfl⟩ := in3_nat (by decide) (by decide) ho2
      rw [nat_nI (by omega), nat_nI (by omega)]
      have hm33 : F 1 533 = nI (eE S).1 := by have := g4.2.1; rw [Nat.zero_add] at this; exact this
      have hm40 : (eE S).1 ≤ 40 := g4.1
      have hsum : F 1 533 + nI c = nI ((eE S).1 + c) := by rw [hm33, nI_add]
      by_cases h40 : 40 < (eE S).1 + c
      · rw [if_pos h40]
        refine ⟨_, am_ev 6 (some .int) false [56] ok_M_lots am_mP_211 (by rw [am_m_211]) (by rw [am_m_211]) (fun h => by cases h) (Nat.le_of_ble_eq_true rfl) (fun Go hG => ?_), RM_of hx⟩
        refine hG 200 _ _ _ _ _ _ ?_
        refine bn_t hI0 ?_
        refine Exists.intro 0 (Exists.intro _ (Exists.intro _ ⟨by decide, hc1, ?_⟩))
        refine br_f (by decide) ?_
        refine Exists.intro 0 (Exists.intro _ (Exists.intro _ ⟨by decide, hc2, ?_⟩))
        refine bn_t (by decide) ?_
        refine Exists.intro 533 ⟨by omega, rfl, ?_⟩
        refine br_f (by rw [hsum]; exact nI_ge h40 (by omega)) ?_
        exact ⟨rfl, rfl, rfl, rfl⟩
      · rw [if_neg h40]
        obtain ⟨w', hx', hR⟩ := l_M_lots (I := I) (F := F) (S := S) S.2.2.2.2.2.2.1 S.2.2.2.2.2.2.2 hn0 c (nI l) hc1b c 0 l (eE S) (F 1) (by omega) (by omega) (by omega) (by rw [va_up_same]; exact hx)
        rw [va_up_same] at hR
        refine ⟨_, am_ev 6 (some .int) false [56] ok_M_lots am_mP_211 (by rw [am_m_211]) (by rw [am_m_211]) (fun h => by cases h) (Nat.le_of_ble_eq_true rfl) (fun Go hG => ?_), RM_of hx'⟩
        have h9 := hR Go hG
        rw [← nI_l (n := l) (by omega)] at h9
        refine hG 200 _ _ _ _ _ _ ?_
        refine bn_t hI0 ?_
        refine Exists.intro 0 (Exists.intro _ (Exists.intro _ ⟨by decide, hc1, ?_⟩))
        refine br_f (by decide) ?_
        refine Exists.intro 0 (Exists.intro _ (Exists.intro _ ⟨by decide, hc2, ?_⟩))
        refine bn_t (by decide) ?_
        refine Exists.intro 533 ⟨by omega, rfl, ?_⟩
        refine br_t (by rw [hsum]; exact nI_le (by omega) (by omega)) ?_
        exact h9

