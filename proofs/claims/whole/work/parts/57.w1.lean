/-! ===== ways ===== -/
theorem sumN_cg {g h : Nat → Nat} : ∀ n, (∀ k, k < n → g k = h k) → sumN g n = sumN h n
  | 0, _ => rfl
  | n + 1, e => by unfold sumN; rw [sumN_cg n (fun k hk => e k (by omega)), e n (by omega)]
theorem sumN_app (g : Nat → Nat) (a : Nat) : ∀ b, sumN g (a + b) = sumN g a + sumN (fun c => g (a + c)) b
  | 0 => rfl
  | b + 1 => by
    show sumN g (a + b) + g (a + b) = sumN g a + (sumN (fun c => g (a + c)) b + g (a + b))
    rw [sumN_app g a b, Nat.add_assoc]
theorem sumN_blk (g : Nat → Nat) (B : Nat) : ∀ m, sumN g (m * B) = sumN (fun a => sumN (fun c => g (B * a + c)) B) m
  | 0 => by rw [Nat.zero_mul]; rfl
  | m + 1 => by
    rw [Nat.succ_mul, sumN_app, sumN_blk g B m]
    show _ = sumN _ m + sumN (fun c => g (B * m + c)) B
    rw [Nat.mul_comm m B]
theorem sumN_pos {g : Nat → Nat} : ∀ {m : Nat}, 0 < sumN g m ↔ ∃ k, k < m ∧ 0 < g k
  | 0 => ⟨fun h => absurd h (Nat.lt_irrefl 0), fun ⟨k, hk, _⟩ => absurd hk (Nat.not_lt_zero _)⟩
  | m + 1 => by
    have ih := sumN_pos (g := g) (m := m)
    show 0 < sumN g m + g m ↔ _
    constructor
    · intro h
      by_cases h1 : 0 < sumN g m
      · obtain ⟨k, hk, e⟩ := ih.mp h1
        exact ⟨k, by omega, e⟩
      · exact ⟨m, by omega, by omega⟩
    · rintro ⟨k, hk, e⟩
      by_cases q : k = m
      · rw [q] at e; omega
      · have := ih.mpr ⟨k, by omega, e⟩; omega
theorem sumN_le {g : Nat → Nat} (h : ∀ k, g k ≤ 1) : ∀ m, sumN g m ≤ m
  | 0 => Nat.le_refl _
  | m + 1 => by
    have := sumN_le h m
    have := h m
    show sumN g m + g m ≤ m + 1
    omega
def wyS (n : Nat) (kd : Nat → Nat) (sky : Int32) : Nat → (Nat → Nat) → Nat
  | 0, d => if skyS n d = sky then 1 else 0
  | q + 1, d => sumN (fun a => if mayS n kd (rstS n d) (nI (a + 1)) = true then wyS n kd sky q (tosS n kd (rstS n d) (a + 1)) else 0) 7
def gwB (n : Nat) (kd : Nat → Nat) (sky : Int32) (q : Nat) (d : Nat → Nat) (c : Nat) : Bool := decide ((ctS n kd q c d).1 = q) && decide (skyS n (ctS n kd q c d).2 = sky)
theorem gwB_s {n : Nat} {kd d : Nat → Nat} {sky : Int32} {q a c : Nat} (ha : a < 7) (hc : c < 7 ^ q) : gwB n kd sky (q + 1) d (7 ^ q * a + c) = (mayS n kd (rstS n d) (nI (a + 1)) && gwB n kd sky q (tosS n kd (rstS n d) (a + 1)) c) := by
  unfold gwB
  rw [ctS_s ha hc]
  by_cases hm : mayS n kd (rstS n d) (nI (a + 1)) = true
  · rw [if_pos hm, hm, Bool.true_and]
    congr 1
    exact decide_eq_decide.mpr (by constructor <;> (intro h; have h' := h; dsimp only at h' ⊢; omega))
  · rw [if_neg hm]
    rw [show mayS n kd (rstS n d) (nI (a + 1)) = false by cases h : mayS n kd (rstS n d) (nI (a + 1)) with | false => rfl | true => exact absurd h hm, Bool.false_and, decide_eq_false (by show ¬ 0 = q + 1; omega), Bool.false_and]
theorem wy_sum {n : Nat} {kd : Nat → Nat} {sky : Int32} : ∀ (q : Nat) (d : Nat → Nat), sumN (fun c => (gwB n kd sky q d c).toNat) (7 ^ q) = wyS n kd sky q d
  | 0, d => by
    have e : gwB n kd sky 0 d 0 = decide (skyS n d = sky) := rfl
    show 0 + (gwB n kd sky 0 d 0).toNat = if skyS n d = sky then 1 else 0
    rw [e]
    by_cases h : skyS n d = sky
    · rw [if_pos h, decide_eq_true h]; rfl
    · rw [if_neg h, decide_eq_false h]; rfl
  | q + 1, d => by
    rw [show 7 ^ (q + 1) = 7 * 7 ^ q by rw [Nat.pow_succ, Nat.mul_comm], sumN_blk]
    unfold wyS
    refine sumN_cg 7 (fun a ha => ?_)
    rw [sumN_cg (h := fun c => if mayS n kd (rstS n d) (nI (a + 1)) = true then (gwB n kd sky q (tosS n kd (rstS n d) (a + 1)) c).toNat else 0) (7 ^ q) (fun c hc => by
      rw [gwB_s ha hc]
      by_cases hm : mayS n kd (rstS n d) (nI (a + 1)) = true
      · rw [if_pos hm, hm, Bool.true_and]
      · rw [if_neg hm, show mayS n kd (rstS n d) (nI (a + 1)) = false by cases h : mayS n kd (rstS n d) (nI (a + 1)) with | false => rfl | true => exact absurd h hm, Bool.false_and]
        rfl)]
    by_cases hm : mayS n kd (rstS n d) (nI (a + 1)) = true
    · simp only [if_pos hm]
      exact wy_sum q _
    · simp only [if_neg hm]
      exact sumN_0 _
theorem wy_le {n : Nat} {kd : Nat → Nat} {sky : Int32} (q : Nat) (d : Nat → Nat) : wyS n kd sky q d ≤ 7 ^ q := by
  rw [← wy_sum]
  exact sumN_le (fun k => by cases gwB n kd sky q d k <;> decide) _
def frN (n : Nat) (kd : Nat → Nat) (sky : Int32) (q : Nat) (d : Nat → Nat) : Nat → Nat
  | 0 => 0
  | c + 1 => frN n kd sky q d c ||| (if gwB n kd sky q d c = true then 2 ^ fg q c 0 else 0)
theorem frN_bit {n : Nat} {kd : Nat → Nat} {sky : Int32} {q : Nat} {d : Nat → Nat} {l : Nat} : ∀ {m : Nat}, (frN n kd sky q d m).testBit l = true ↔ ∃ c, c < m ∧ gwB n kd sky q d c = true ∧ fg q c 0 = l
  | 0 => by
    show (0 : Nat).testBit l = true ↔ _
    rw [Nat.zero_testBit]
    exact ⟨fun h => (by cases h), fun ⟨c, hc, _⟩ => absurd hc (Nat.not_lt_zero _)⟩
  | m + 1 => by
    have ih := frN_bit (n := n) (kd := kd) (sky := sky) (q := q) (d := d) (l := l) (m := m)
    show (frN n kd sky q d m ||| (if gwB n kd sky q d m = true then 2 ^ fg q m 0 else 0)).testBit l = true ↔ _
    rw [Nat.testBit_or, Bool.or_eq_true, ih]
    constructor
    · rintro (⟨c, hc, e⟩ | h)
      · exact ⟨c, by omega, e⟩
      · by_cases hg : gwB n kd sky q d m = true
        · rw [if_pos hg, Nat.testBit_two_pow] at h
          exact ⟨m, by omega, hg, of_decide_eq_true h⟩
        · rw [if_neg hg, Nat.zero_testBit] at h
          cases h
    · rintro ⟨c, hc, hg, e⟩
      by_cases hq : c = m
      · subst hq
        right
        rw [if_pos hg, Nat.testBit_two_pow]
        exact decide_eq_true e
      · exact Or.inl ⟨c, by omega, hg, e⟩
def wyP (n : Nat) (kd : Nat → Nat) (sky : Int32) (q : Nat) (d : Nat → Nat) (z : Int32) : Bool := mayS n kd (rstS n d) z && decide (0 < wyS n kd sky q (tosS n kd (rstS n d) (nat z)))
theorem fr_hg {n : Nat} {kd : Nat → Nat} {sky : Int32} (q : Nat) (d : Nat → Nat) : frN n kd sky (q + 1) d (7 ^ (q + 1)) = hgN (wyP n kd sky q d) 7 := by
  apply Nat.eq_of_testBit_eq
  intro l
  rw [hgN_bit]
  have hp : 0 < 7 ^ q := Nat.pow_pos (by decide)
  have key : (frN n kd sky (q + 1) d (7 ^ (q + 1))).testBit l = true ↔ (decide (1 ≤ l ∧ l ≤ 7) && wyP n kd sky q d (nI l)) = true := by
    rw [frN_bit, Bool.and_eq_true, decide_eq_true_eq]
    constructor
    · rintro ⟨c, hc, hg, e⟩
      have hc7 : c / 7 ^ q < 7 := by
        rw [Nat.pow_succ, Nat.mul_comm] at hc
        exact (Nat.div_lt_iff_lt_mul hp).mpr hc
      have hm := Nat.mod_lt c hp
      have ec := Nat.div_add_mod c (7 ^ q)
      rw [← ec, fg_0 hc7 hm] at e
      rw [← ec, gwB_s hc7 hm, Bool.and_eq_true] at hg
      subst e
      refine ⟨⟨Nat.succ_le_succ (Nat.zero_le _), hc7⟩, ?_⟩
      unfold wyP
      rw [hg.1, Bool.true_and, nat_nI (Nat.lt_of_le_of_lt (show c / 7 ^ q + 1 ≤ 7 from hc7) (by decide))]
      refine decide_eq_true ?_
      rw [← wy_sum]
      exact sumN_pos.mpr ⟨c % 7 ^ q, hm, by rw [hg.2]; decide⟩
    · rintro ⟨hl, hw⟩
      unfold wyP at hw
      rw [Bool.and_eq_true, nat_nI (by omega), decide_eq_true_eq, ← wy_sum] at hw
      obtain ⟨c, hc, hg⟩ := sumN_pos.mp hw.2
      have hg' : gwB n kd sky q (tosS n kd (rstS n d) l) c = true := by
        cases z : gwB n kd sky q (tosS n kd (rstS n d) l) c with
        | true => rfl
        | false => rw [z] at hg; exact absurd hg (by decide)
      refine ⟨7 ^ q * (l - 1) + c, ?_, ?_, ?_⟩
      · have h1 : 7 ^ q * (l - 1) ≤ 7 ^ q * 6 := Nat.mul_le_mul_left _ (by omega)
        rw [Nat.pow_succ]
        omega
      · rw [gwB_s (by omega) hc, show l - 1 + 1 = l by omega, hw.1, hg']
        rfl
      · rw [fg_0 (by omega) hc]
        omega
  cases h1 : (frN n kd sky (q + 1) d (7 ^ (q + 1))).testBit l with
  | true => exact (key.mp h1).symm
  | false =>
    cases h2 : (decide (1 ≤ l ∧ l ≤ 7) && wyP n kd sky q d (nI l)) with
    | false => rfl
    | true => rw [key.mpr h2] at h1; cases h1
theorem RM_up {I : Nat → Int32} {F : Nat → Nat → Int32} {S : Sta} (h : RMx I F S) (a b : Int64) (x : Int32) : RM (tellS (upS S a b) x) (mH (upd I 8 x) F a b) := by
  obtain ⟨hs, hr, ht, h8, h11, h12⟩ := h
  exact ⟨_, _, rfl, hs, hr, ht, rfl, h11, h12⟩
theorem RC_up {I : Nat → Int32} {F : Nat → Nat → Int32} {S : Sta} (h : RCx I F S) (a b : Int64) (x : Int32) : RC (tellS (upS S a b) x) (cH (upd I 10 x) F a b) := by
  obtain ⟨I2, F2, e, h2⟩ := RC_tell (S := upS S a b) h x
  exact ⟨I2, F2, e, h2⟩
def spWays (S : Sta) (q : Int32) : Int32 × Sta := if eN S = 0 then (-nI 4, S) else if in3 q (nI 1) (nI 4) = false then (-nI 1, S) else (nI 1, tellS (upS S (lN (wyS (eN S) (eK S) (skyS (eN S) (duE (eE S))) (nat q) (duE (eE S)))) (lN 1)) (hgtG (wyP (eN S) (eK S) (skyS (eN S) (duE (eE S))) (nat q - 1) (duE (eE S))) 7))

theorem x_sky0 {I : Nat → Int32} {F : Nat → Nat → Int32} {n : Nat} {kd du : Nat → Nat} (hb : MBs I F n kd du) (u v : Int64) {w : Nat → Int32} (hl : ∀ j, j < 2136 → w j = F 1 j) : Am_Ev false 0 0 0 165 [.ref 0, .int (nI 0)] (mH I (va_up F 1 w) u v) (some (.int (skyS n du))) (mH I (va_up F 1 w) u v) := by
  have h := c_M_skyAt I (va_up F 1 w) u v n 0 hb.1 hb.2.1 (by omega)
  have hn6 := hb.2.1
  rw [skyG_congr (g := fun i => va_up F 1 w 1 (0 + i)) (h := gN du) (fun k hk => by show w (0 + k) = _; rw [Nat.zero_add, hl k (by omega)]; exact hb.2.2.2.2.1 k hk)] at h
  exact h
theorem l_M_ways {I : Nat → Int32} {F : Nat → Nat → Int32} {n : Nat} {kd du : Nat → Nat} (hb : MBs I F n kd du) (u v : Int64) (q : Nat) (hq : q ≤ 4) (hq1 : 1 ≤ q) : ∀ (j c : Nat) (w : Nat → Int32), c + j = 7 ^ q → (∀ i, i < 2136 → w i = F 1 i) → ∃ w', (∀ i, i < 2136 → w' i = F 1 i) ∧ Rch cd_M_ways [28] 4 (some .int) 28 [some (.ref 0), some (.int (nI q)), some (.int (nI (sumN (fun c => (gwB n kd (skyS n du) q du c).toNat) c))), some (.int (nI (frN n kd (skyS n du) q du c))), some (.int (nI c))] [] (mH I (va_up F 1 w) u v) (some (.int (nI 1))) (mH (upd I 8 (nI (frN n kd (skyS n du) q du (7 ^ q)))) (va_up F 1 w') (lN (sumN (fun c => (gwB n kd (skyS n du) q du c).toNat) (7 ^ q))) (lN 1)) := by
  have hq7 := pw74 hq
  intro j
  induction j with
  | zero =>
    intro c w hcj hl
    refine ⟨w, hl, fun Go hG => ?_⟩
    have hsl : sumN (fun c => (gwB n kd (skyS n du) q du c).toNat) c ≤ c := sumN_le (fun k => by cases gwB n kd (skyS n du) q du k <;> decide) _
    have e1 : c = 7 ^ q := by omega
    rw [← e1, ← nI_l (n := sumN (fun c => (gwB n kd (skyS n du) q du c).toNat) c) (by omega)] at hG
    refine hG 200 _ _ _ _ _ _ ?_
    refine Exists.intro 0 (Exists.intro _ (Exists.intro _ ⟨by decide, c_M_power _ q (by omega), ?_⟩))
    refine br_t (nI_le (by omega) (by omega)) ?_
    refine Exists.intro 0 (Exists.intro _ (Exists.intro _ ⟨by decide, c_M_tell I (va_up F 1 w) _ _ _, ?_⟩))
    exact ⟨rfl, rfl, rfl, rfl⟩
  | succ j ih =>
    intro c w hcj hl
    have hpw := c_M_power (mH I (va_up F 1 w) u v) q (by omega)
    obtain ⟨w1, hw1, hcan⟩ := x_can hb u v hl c q hq (by omega)
    have hs1 := x_sky hb u v hw1
    have hs0 := x_sky0 hb u v hw1.2
    obtain ⟨w2, hl2, hR⟩ := ih (c + 1) w1 (by omega) hw1.2
    have hfc := c_M_figure (mH I (va_up F 1 w1) u v) c q 0 (by omega) (by omega) (by omega)
    have hfg := fg_ok q c 0
    refine ⟨w2, hl2, fun Go hG => ?_⟩
    have h9 := hR Go hG
    have e1 : sumN (fun c => (gwB n kd (skyS n du) q du c).toNat) (c + 1) = sumN (fun c => (gwB n kd (skyS n du) q du c).toNat) c + (gwB n kd (skyS n du) q du c).toNat := rfl
    have e2 : frN n kd (skyS n du) q du (c + 1) = frN n kd (skyS n du) q du c ||| (if gwB n kd (skyS n du) q du c = true then 2 ^ fg q c 0 else 0) := rfl
    rw [e1, e2, ← nI_s1 c] at h9
    by_cases h1 : (ctS n kd q c du).1 = q
    · rw [decide_eq_true h1] at hcan
      by_cases h2 : skyS n (ctS n kd q c du).2 = skyS n du
      · have hg : gwB n kd (skyS n du) q du c = true := by unfold gwB; rw [decide_eq_true h1, decide_eq_true h2]; rfl
        rw [hg, if_pos rfl, show (true).toNat = 1 from rfl, ← nI_s1 (sumN (fun c => (gwB n kd (skyS n du) q du c).toNat) c), ← nI_or, ← nI_one_shl (by omega)] at h9
        refine hG 200 _ _ _ _ _ _ ?_
        refine Exists.intro 0 (Exists.intro _ (Exists.intro _ ⟨by decide, hpw, ?_⟩))
        refine br_f (nI_ge (by omega) (by omega)) ?_
        refine Exists.intro 2 (Exists.intro _ (Exists.intro _ ⟨by decide, hcan, ?_⟩))
        refine br_f (by decide) ?_
        refine Exists.intro 0 (Exists.intro _ (Exists.intro _ ⟨by decide, hs1, ?_⟩))
        refine Exists.intro 0 (Exists.intro _ (Exists.intro _ ⟨by decide, hs0, ?_⟩))
        refine bn_f h2 ?_
        refine Exists.intro 1 (Exists.intro _ (Exists.intro _ ⟨by decide, hfc, ?_⟩))
        exact h9
      · have hg : gwB n kd (skyS n du) q du c = false := by unfold gwB; rw [decide_eq_false h2, Bool.and_false]
        rw [hg, if_neg (by decide), show (false).toNat = 0 from rfl, Nat.add_zero, Nat.or_zero] at h9
        refine hG 200 _ _ _ _ _ _ ?_
        refine Exists.intro 0 (Exists.intro _ (Exists.intro _ ⟨by decide, hpw, ?_⟩))
        refine br_f (nI_ge (by omega) (by omega)) ?_
        refine Exists.intro 2 (Exists.intro _ (Exists.intro _ ⟨by decide, hcan, ?_⟩))
        refine br_f (by decide) ?_
        refine Exists.intro 0 (Exists.intro _ (Exists.intro _ ⟨by decide, hs1, ?_⟩))
        refine Exists.intro 0 (Exists.intro _ (Exists.intro _ ⟨by decide, hs0, ?_⟩))
        refine bn_t h2 ?_
        exact h9
    · rw [decide_eq_false h1] at hcan
      have hg : gwB n kd (skyS n du) q du c = false := by unfold gwB; rw [decide_eq_false h1]; rfl
      rw [hg, if_neg (by decide), show (false).toNat = 0 from rfl, Nat.add_zero, Nat.or_zero] at h9
      refine hG 200 _ _ _ _ _ _ ?_
      refine Exists.intro 0 (Exists.intro _ (Exists.intro _ ⟨by decide, hpw, ?_⟩))
      refine br_f (nI_ge (by omega) (by omega)) ?_
      refine Exists.intro 2 (Exists.intro _ (Exists.intro _ ⟨by decide, hcan, ?_⟩))
      refine br_t rfl ?_
      exact h9

theorem pm_M_ways (S : Sta) (hp : List Am_C) (hRM : RM S hp) (q : Int32) : ∃ hp', Am_Ev false 4 0 0 192 [.ref 0, .int q] hp (some (.int (spWays S q).1)) hp' ∧ RM (spWays S q).2 hp' := by
  obtain ⟨I, F, rfl, hx⟩ := hRM
  obtain ⟨hs, hr, ht, hl⟩ := id hx
  obtain ⟨g1, g2, g3, g4, g5, g6⟩ := hs
  have hI : I 2 = nI (eN S) := g1
  have hn : eN S ≤ 6 := g2
  unfold spWays
  by_cases hn0 : eN S = 0
  · rw [if_pos hn0]
    refine ⟨_, am_ev 5 (some .int) false [28] ok_M_ways am_mP_192 (by rw [am_m_192]) (by rw [am_m_192]) (fun h => by cases h) (Nat.le_of_ble_eq_true rfl) (fun Go hG => ?_), RM_of hx⟩
    refine hG 200 _ _ _ _ _ _ ?_
    refine bn_f (by rw [hI, hn0]; rfl) ?_
    exact ⟨rfl, rfl, rfl, rfl⟩
  · rw [if_neg hn0]
    have hI0 : ¬ I 2 = 0 := by rw [hI]; exact fun q => hn0 ((nI_z (by omega)).mp q)
    have hb := MBs_of hx hn0
    have hin := c_M_in (mH I F S.2.2.2.2.2.2.1 S.2.2.2.2.2.2.2) q (nI 1) (nI 4)
    cases ho : in3 q (nI 1) (nI 4) with
    | false =>
      rw [if_pos rfl]
      rw [ho] at hin
      refine ⟨_, am_ev 5 (some .int) false [28] ok_M_ways am_mP_192 (by rw [am_m_192]) (by rw [am_m_192]) (fun h => by cases h) (Nat.le_of_ble_eq_true rfl) (fun Go hG => ?_), RM_of hx⟩
      refine hG 200 _ _ _ _ _ _ ?_
      refine bn_t hI0 ?_
      refine Exists.intro 0 (Exists.intro _ (Exists.intro _ ⟨by decide, hin, ?_⟩))
      refine bn_f rfl ?_
      exact ⟨rfl, rfl, rfl, rfl⟩
    | true =>
      rw [if_neg (by decide)]
      rw [ho] at hin
      obtain ⟨j, h1, hj, rfl⟩ := in3_nat (by decide) (by decide) ho
      rw [nat_nI (by omega)]
      obtain ⟨k, rfl⟩ : ∃ k, j = k + 1 := ⟨j - 1, by omega⟩
      obtain ⟨w', hl', hR⟩ := l_M_ways hb S.2.2.2.2.2.2.1 S.2.2.2.2.2.2.2 (k + 1) hj h1 (7 ^ (k + 1)) 0 (F 1) (by omega) (fun _ _ => rfl)
      rw [va_up_same, wy_sum, fr_hg, ← hgtG_N (by omega)] at hR
      rw [show k + 1 - 1 = k from rfl]
      refine ⟨_, am_ev 5 (some .int) false [28] ok_M_ways am_mP_192 (by rw [am_m_192]) (by rw [am_m_192]) (fun h => by cases h) (Nat.le_of_ble_eq_true rfl) (fun Go hG => ?_), RM_up (RMx_try hx hl') _ _ _⟩
      refine hG 200 _ _ _ _ _ _ ?_
      refine bn_t hI0 ?_
      refine Exists.intro 0 (Exists.intro _ (Exists.intro _ ⟨by decide, hin, ?_⟩))
      refine bn_t (by decide) ?_
      exact hR Go hG

