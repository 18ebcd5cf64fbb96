/-! ===== the class: ways ===== -/
theorem y_waysTo {I : Nat → Int32} {F : Nat → Nat → Int32} {n : Nat} {kd : Nat → Nat} (hb : CBs I F n kd) (u v : Int64) (sky : Int32) : ∀ (j : Nat) (d : Nat → Nat), j ≤ 4 → apart n d → Am_Ev false (3 + j) 0 0 92 [.ref 14, .int (nI (pkN d n)), .int sky, .int (nI j)] (cH I F u v) (some (.long (lN (wyS n kd sky j d)))) (cH I F u v) := by
  have hkd : kdok n kd := fun i q => (hb.2.2.2 i q).2
  intro j
  induction j with
  | zero =>
    intro d hj ha
    have e : wyS n kd sky 0 d = if skyS n d = sky then 1 else 0 := rfl
    refine am_ev 9 (some .long) false [49] ok_O_waysTo am_mP_92 (by rw [am_m_92]) (by rw [am_m_92]) (fun h => by cases h) (Nat.le_of_ble_eq_true rfl) (fun Go hG => ?_)
    refine hG 200 _ _ _ _ _ _ ?_
    refine br_f (by decide) ?_
    refine Exists.intro (1) (Exists.intro _ (Exists.intro _ ⟨by omega, y_sky hb u v ha, ?_⟩))
    refine And.intro (fun h1 => ?_) (fun h1 => ?_)
    · exact ⟨by rw [e, if_neg h1], rfl, rfl, rfl⟩
    · exact ⟨by rw [e, if_pos h1], rfl, rfl, rfl⟩
  | succ j ihj =>
    intro d hj ha
    have har := apart_rst ha
    have ej : nI (j + 1) - nI 1 = nI j := pk_sub (by omega)
    have e : wyS n kd sky (j + 1) d = sumN (fun a => if mayS n kd (rstS n d) (nI (a + 1)) = true then wyS n kd sky j (tosS n kd (rstS n d) (a + 1)) else 0) 7 := rfl
    rw [e]
    refine am_ev 9 (some .long) false [49] ok_O_waysTo am_mP_92 (by rw [am_m_92]) (by rw [am_m_92]) (fun h => by cases h) (Nat.le_of_ble_eq_true rfl) (fun Go hG => ?_)
    have L : ∀ (i a : Nat), a + i = 7 → Go 49 [some (.ref 14), some (.int (nI (pkN d n))), some (.int sky), some (.int (nI (j + 1))), some (.int (nI (pkN (rstS n d) n))), some (.int (hgtS n kd (rstS n d))), some (.long (lN (sumN (fun a => if mayS n kd (rstS n d) (nI (a + 1)) = true then wyS n kd sky j (tosS n kd (rstS n d) (a + 1)) else 0) a))), none, some (.int (nI (a + 1)))] [] (cH I F u v) 0 0 := by
      intro i
      induction i with
      | zero =>
        intro a ha7
        refine hG 200 _ _ _ _ _ _ ?_
        refine br_t (nI_lt (by omega) (by omega)) ?_
        exact ⟨by rw [show a = 7 by omega], rfl, rfl, rfl⟩
      | succ i ih =>
        intro a ha7
        have h9 := ih (a + 1) (by omega)
        have e2 : sumN (fun a => if mayS n kd (rstS n d) (nI (a + 1)) = true then wyS n kd sky j (tosS n kd (rstS n d) (a + 1)) else 0) (a + 1) = sumN (fun a => if mayS n kd (rstS n d) (nI (a + 1)) = true then wyS n kd sky j (tosS n kd (rstS n d) (a + 1)) else 0) a + (fun a => if mayS n kd (rstS n d) (nI (a + 1)) = true then wyS n kd sky j (tosS n kd (rstS n d) (a + 1)) else 0) a := rfl
        rw [e2, ← nI_s1 (a + 1)] at h9
        refine hG 200 _ _ _ _ _ _ ?_
        refine br_f (nI_nlt (by omega) (by omega)) ?_
        rcases bit_hgt (p := mayS n kd (rstS n d)) (h := a + 1) (by omega) with ⟨m1, m2⟩ | ⟨m1, m2⟩
        · dsimp only at h9
          rw [if_neg (c := mayS n kd (rstS n d) (nI (a + 1)) = true) (by rw [m2]; decide), Nat.add_zero] at h9
          refine br_t m1 ?_
          exact h9
        · dsimp only at h9
          rw [if_pos (c := mayS n kd (rstS n d) (nI (a + 1)) = true) m2, ← lN_add] at h9
          have hct := y_thrown hb u v har (a + 1) (by omega) m2
          have hrec := ihj (tosS n kd (rstS n d) (a + 1)) (by omega) (apart_tos har hkd (by omega) m2)
          rw [← ej] at hrec
          refine br_f m1 ?_
          refine Exists.intro (2) (Exists.intro _ (Exists.intro _ ⟨by omega, hct, ?_⟩))
          refine Exists.intro (3 + j) (Exists.intro _ (Exists.intro _ ⟨by omega, hrec, ?_⟩))
          exact h9
    refine hG 200 _ _ _ _ _ _ ?_
    refine br_t (show nI 0 < nI (j + 1) from nI_lt (by omega) (by omega)) ?_
    refine Exists.intro (2) (Exists.intro _ (Exists.intro _ ⟨by omega, y_rested hb u v ha, ?_⟩))
    refine Exists.intro (2) (Exists.intro _ (Exists.intro _ ⟨by omega, y_heights hb u v har, ?_⟩))
    exact L 7 0 (by omega)
theorem cmpL {s : Nat} (hs : s < 2 ^ 62) : (0 < s → ¬ lg_cmp (lN s) (lN 0) ≤ 0) ∧ (s = 0 → lg_cmp (lN s) (lN 0) ≤ 0) := by
  refine ⟨fun h => Int32.not_le.mpr ((lg_cmp_gt _ _).mpr ((pk_lLT (a := 0) (by omega) (by omega)).mpr h)), fun h => ?_⟩
  rw [h]
  decide

theorem y_waysBack {I : Nat → Int32} {F : Nat → Nat → Int32} {n : Nat} {kd : Nat → Nat} (hb : CBs I F n kd) (u v : Int64) {d : Nat → Nat} (ha : apart n d) (q : Nat) (hq : q ≤ 3) : Am_Ev false 8 0 0 91 [.ref 14, .int (nI (pkN d n)), .int (nI (q + 1))] (cH I F u v) (some (.long (lN (wyS n kd (skyS n d) (q + 1) d)))) (cH (upd I 24 (hgtG (wyP n kd (skyS n d) q d) 7)) F u v) := by
  have hkd : kdok n kd := fun i q => (hb.2.2.2 i q).2
  have har := apart_rst ha
  have ej : nI (q + 1) - nI 1 = nI q := pk_sub (by omega)
  have hq7 := pw74 (q := q) (by omega)
  have e : wyS n kd (skyS n d) (q + 1) d = sumN (fun a => if mayS n kd (rstS n d) (nI (a + 1)) = true then wyS n kd (skyS n d) q (tosS n kd (rstS n d) (a + 1)) else 0) 7 := rfl
  rw [e]
  refine am_ev 11 (some .long) false [41] ok_O_waysBack am_mP_91 (by rw [am_m_91]) (by rw [am_m_91]) (fun h => by cases h) (Nat.le_of_ble_eq_true rfl) (fun Go hG => ?_)
  have L : ∀ (i a : Nat) (x y : Option Value), a + i = 7 → Go 41 [some (.ref 14), some (.int (nI (pkN d n))), some (.int (nI (q + 1))), some (.int (skyS n d)), some (.int (nI (pkN (rstS n d) n))), some (.int (hgtS n kd (rstS n d))), some (.long (lN (sumN (fun a => if mayS n kd (rstS n d) (nI (a + 1)) = true then wyS n kd (skyS n d) q (tosS n kd (rstS n d) (a + 1)) else 0) a))), none, some (.int (nI (a + 1))), x, y] [] (cH (upd I 24 (hgtG (wyP n kd (skyS n d) q d) a)) F u v) 0 0 := by
    intro i
    induction i with
    | zero =>
      intro a x y ha7
      refine hG 200 _ _ _ _ _ _ ?_
      refine br_t (nI_lt (by omega) (by omega)) ?_
      rw [show a = 7 by omega]
      exact ⟨rfl, rfl, rfl, rfl⟩
    | succ i ih =>
      intro a x y ha7
      have e2 : sumN (fun a => if mayS n kd (rstS n d) (nI (a + 1)) = true then wyS n kd (skyS n d) q (tosS n kd (rstS n d) (a + 1)) else 0) (a + 1) = sumN (fun a => if mayS n kd (rstS n d) (nI (a + 1)) = true then wyS n kd (skyS n d) q (tosS n kd (rstS n d) (a + 1)) else 0) a + (fun a => if mayS n kd (rstS n d) (nI (a + 1)) = true then wyS n kd (skyS n d) q (tosS n kd (rstS n d) (a + 1)) else 0) a := rfl
      have hb2 : CBs (upd I 24 (hgtG (wyP n kd (skyS n d) q d) a)) F n kd := hb
      refine hG 200 _ _ _ _ _ _ ?_
      refine br_f (nI_nlt (by omega) (by omega)) ?_
      rcases bit_hgt (p := mayS n kd (rstS n d)) (h := a + 1) (by omega) with ⟨m1, m2⟩ | ⟨m1, m2⟩
      · have h9 := ih (a + 1) x y (by omega)
        rw [e2, ← nI_s1 (a + 1), hgtG_f (p := (wyP n kd (skyS n d) q d)) (by unfold wyP; rw [m2]; rfl), or0] at h9
        dsimp only at h9
        rw [if_neg (c := mayS n kd (rstS n d) (nI (a + 1)) = true) (by rw [m2]; decide), Nat.add_zero] at h9
        refine br_t m1 ?_
        exact h9
      · have hwl := wy_le (n := n) (kd := kd) (sky := skyS n d) q (tosS n kd (rstS n d) (a + 1))
        have hct := y_thrown hb2 u v har (a + 1) (by omega) m2
        have hrec := y_waysTo hb2 u v (skyS n d) q (tosS n kd (rstS n d) (a + 1)) (by omega) (apart_tos har hkd (by omega) m2)
        rw [← ej] at hrec
        have h9 := ih (a + 1) (some (.long (lN (wyS n kd (skyS n d) q (tosS n kd (rstS n d) (a + 1)))))) none (by omega)
        rw [e2, ← nI_s1 (a + 1)] at h9
        dsimp only at h9
        rw [if_pos (c := mayS n kd (rstS n d) (nI (a + 1)) = true) m2, ← lN_add] at h9
        refine br_f m1 ?_
        refine Exists.intro (2) (Exists.intro _ (Exists.intro _ ⟨by omega, hct, ?_⟩))
        refine Exists.intro (3 + q) (Exists.intro _ (Exists.intro _ ⟨by omega, hrec, ?_⟩))
        by_cases h0 : wyS n kd (skyS n d) q (tosS n kd (rstS n d) (a + 1)) = 0
        · rw [hgtG_f (p := (wyP n kd (skyS n d) q d)) (by unfold wyP; rw [m2, nat_nI (by omega), h0]; rfl)] at h9
          refine br_t ((cmpL (by omega)).2 h0) ?_
          exact h9
        · rw [hgtG_t (p := (wyP n kd (skyS n d) q d)) (by unfold wyP; rw [m2, nat_nI (by omega), decide_eq_true (by omega)]; rfl)] at h9
          refine br_f ((cmpL (by omega)).1 (by omega)) ?_
          exact h9
  refine hG 200 _ _ _ _ _ _ ?_
  refine Exists.intro 1 (Exists.intro _ (Exists.intro _ ⟨by decide, y_sky hb u v ha, ?_⟩))
  refine Exists.intro 2 (Exists.intro _ (Exists.intro _ ⟨by decide, y_rested hb u v ha, ?_⟩))
  refine Exists.intro 2 (Exists.intro _ (Exists.intro _ ⟨by decide, y_heights hb u v har, ?_⟩))
  exact L 7 0 none none (by omega)
theorem RCx_24 {I : Nat → Int32} {F : Nat → Nat → Int32} {S : Sta} (hx : RCx I F S) (y : Int32) : RCx (upd I 24 y) F S := by
  have h := RCx_try hx (I 23) y (F 15)
  rw [va_up_same] at h
  have e : upd (upd I 23 (I 23)) 24 y = upd I 24 y := by
    funext q
    unfold upd
    split
    · rfl
    · split
      · rename_i e; rw [e]
      · rfl
  rw [e] at h
  exact h

theorem pc_T_ways (S : Sta) (hp : List Am_C) (hRM : RC S hp) (q : Int32) : ∃ hp', Am_Ev false 9 0 0 90 [.ref 0, .int q] hp (some (.int (spWays S q).1)) hp' ∧ RC (spWays S q).2 hp' := by
  obtain ⟨I, F, rfl, hx⟩ := hRM
  obtain ⟨hs, hr, ht, hl⟩ := id hx
  have hI : I 22 = nI (eN S) := hs.1
  have hn : eN S ≤ 6 := hs.2.1
  unfold spWays
  by_cases hn0 : eN S = 0
  · rw [if_pos hn0]
    refine ⟨_, am_ev 2 (some .int) false [] ok_T_ways am_mP_90 (by rw [am_m_90]) (by rw [am_m_90]) (fun h => by cases h) (Nat.le_of_ble_eq_true rfl) (fun Go hG => ?_), RC_of hx⟩
    refine hG 200 _ _ _ _ _ _ ?_
    refine bn_f (by rw [hI, hn0]; rfl) ?_
    exact ⟨rfl, rfl, rfl, rfl⟩
  · rw [if_neg hn0]
    have hI0 : ¬ I 22 = 0 := by rw [hI]; exact fun q => hn0 ((nI_z (by omega)).mp q)
    have hb := CBs_of hx hn0
    have hap : apart (eN S) (duE (eE S)) := hs.2.2.2.2.1 _ (Nat.le_refl _)
    have h30 : I 30 = nI (pkN (duE (eE S)) (eN S)) := hs.2.2.2.1.2.2.1
    cases ho : in3 q (nI 1) (nI 4) with
    | false =>
      rw [if_pos rfl]
      refine ⟨_, am_ev 2 (some .int) false [] ok_T_ways am_mP_90 (by rw [am_m_90]) (by rw [am_m_90]) (fun h => by cases h) (Nat.le_of_ble_eq_true rfl) (fun Go hG => ?_), RC_of hx⟩
      refine hG 200 _ _ _ _ _ _ ?_
      refine bn_t hI0 ?_
      refine And.intro (fun h1 => ?_) (fun h1 => And.intro (fun h2 => ?_) (fun h2 => ?_))
      · exact ⟨rfl, rfl, rfl, rfl⟩
      · unfold in3 at ho
        rw [decide_eq_true (show nI 1 ≤ q from Int32.not_lt.mp h1), decide_eq_true h2] at ho
        cases ho
      · exact ⟨rfl, rfl, rfl, rfl⟩
    | true =>
      rw [if_neg (by decide)]
      obtain ⟨j, h1, hj, rfl⟩ := in3_nat (by decide) (by decide) ho
      rw [nat_nI (by omega)]
      obtain ⟨k, rfl⟩ : ∃ k, j = k + 1 := ⟨j - 1, by omega⟩
      rw [show k + 1 - 1 = k from rfl]
      have hwb := y_waysBack hb S.2.2.2.2.2.2.1 S.2.2.2.2.2.2.2 hap k (by omega)
      rw [← h30] at hwb
      have hwl := wy_le (n := eN S) (kd := eK S) (sky := skyS (eN S) (duE (eE S))) (k + 1) (duE (eE S))
      have hq7 := pw74 (q := k + 1) hj
      generalize hW : wyS (eN S) (eK S) (skyS (eN S) (duE (eE S))) (k + 1) (duE (eE S)) = W at hwb hwl ⊢
      generalize hP : hgtG (wyP (eN S) (eK S) (skyS (eN S) (duE (eE S))) k (duE (eE S))) 7 = P at hwb ⊢
      have htr := c_T_tellRatio (upd I 24 P) F S.2.2.2.2.2.2.1 S.2.2.2.2.2.2.2 W 1 (by omega) (by omega) (by omega)
      rw [Nat.gcd_one_right, Nat.div_one, Nat.div_one] at htr
      refine ⟨_, am_ev 2 (some .int) false [] ok_T_ways am_mP_90 (by rw [am_m_90]) (by rw [am_m_90]) (fun h => by cases h) (Nat.le_of_ble_eq_true rfl) (fun Go hG => ?_), RC_up (RCx_24 hx P) (lN W) (lN 1) P⟩
      refine hG 200 _ _ _ _ _ _ ?_
      refine bn_t hI0 ?_
      refine br_f (nI_nlt (by omega) (by omega)) ?_
      refine br_t (nI_le (by omega) (by omega)) ?_
      refine Exists.intro 8 (Exists.intro _ (Exists.intro _ ⟨by decide, hwb, ?_⟩))
      refine Exists.intro 1 (Exists.intro _ (Exists.intro _ ⟨by decide, htr, ?_⟩))
      refine Exists.intro 0 (Exists.intro _ (Exists.intro _ ⟨by decide, c_T_tell (upd I 24 P) F (lN W) (lN 1) P, ?_⟩))
      exact ⟨rfl, rfl, rfl, rfl⟩

