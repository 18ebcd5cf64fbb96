/-! ===== copy, on both sides ===== -/
theorem c_M_isPart (I : Nat → Int32) (F : Nat → Nat → Int32) (u v : Int64) (r : Nat) (hr : r < 6) (i n : Int32) : Am_Ev false 0 0 0 142 [.ref 0, .int (nI r), .int i, .int n] (mH I F u v) (some (.int (b2 (prtB (F 5 r) i n)))) (mH I F u v) := by
  refine am_ev 4 (some .boolean) false [] ok_M_isPart am_mP_142 (by rw [am_m_142]) (by rw [am_m_142]) (fun h => by cases h) (Nat.le_of_ble_eq_true rfl) ?_
  intro Go hG
  refine hG 200 _ _ _ _ _ _ ?_
  refine And.intro (fun h1 => ?_) (fun h1 => And.intro (fun h2 => ?_) (fun h2 => ?_))
  · exact ⟨Or.inl rfl, by unfold prtB; rw [decide_eq_false (Int32.not_le.mpr h1)]; rfl, rfl, rfl, rfl⟩
  · exact ⟨Or.inl rfl, by unfold prtB; rw [decide_eq_true (Int32.not_lt.mp h1), decide_eq_false (Int32.not_le.mpr h2)]; rfl, rfl, rfl, rfl⟩
  · refine Exists.intro r ⟨hr, rfl, ?_⟩
    refine And.intro (fun h3 => ?_) (fun h3 => ?_)
    · exact ⟨Or.inl rfl, by unfold prtB; rw [decide_eq_true (Int32.not_lt.mp h1), decide_eq_true (Int32.not_lt.mp h2), decide_eq_false (Int32.not_le.mpr h3)]; rfl, rfl, rfl, rfl⟩
    · exact ⟨Or.inr rfl, by unfold prtB; rw [decide_eq_true (Int32.not_lt.mp h1), decide_eq_true (Int32.not_lt.mp h2), decide_eq_true (Int32.not_lt.mp h3)]; rfl, rfl, rfl, rfl⟩

theorem prtB_nat {k : Nat} {i n : Int32} (hk : k ≤ 40) (hn : ¬ n < 0) (h : prtB (nI k) i n = true) : ∃ a m, i = nI a ∧ n = nI m ∧ a + m ≤ k := by
  unfold prtB at h
  simp only [Bool.and_eq_true, decide_eq_true_eq] at h
  obtain ⟨m, hm, rfl⟩ := nI_of hn
  obtain ⟨a, ha, rfl⟩ := nI_of (Int32.not_lt.mpr h.1)
  have hm2 : m ≤ 40 := (nI_leI hm (by decide)).mp h.2.1
  have h3 := h.2.2
  rw [Int32.le_iff_toInt_le, pk_sub_toInt (by omega) (by omega), nI_toInt ha] at h3
  exact ⟨a, m, rfl, rfl, by omega⟩
theorem hpr_prt {k : Nat} {i n : Int32} (hk : k ≤ 40) (hn : ¬ n < 0) : hprI (nI k) i n = prtB (nI k) i n := by
  obtain ⟨m, hm, rfl⟩ := nI_of hn
  unfold hprI prtB
  rw [decide_eq_true hn, Bool.true_and]
  rw [show decide (¬ i < 0) = decide (0 ≤ i) from decide_eq_decide.mpr Int32.not_lt]
  by_cases hi : 0 ≤ i
  · rw [decide_eq_true hi, Bool.true_and, Bool.true_and]
    by_cases h40 : m ≤ 40
    · rw [decide_eq_true (show nI m ≤ nI 40 from nI_le h40 (by decide)), Bool.true_and]
      by_cases hmk : m ≤ k
      · rw [decide_eq_true (show nI m ≤ nI k from nI_le hmk (by omega)), Bool.true_and]
      · rw [decide_eq_false (show ¬ nI m ≤ nI k from nI_ge (by omega) (by omega)), Bool.false_and]
        symm
        apply decide_eq_false
        rw [Int32.le_iff_toInt_le, pk_sub_toInt (by omega) (by omega)]
        have h0 := (Int32.le_iff_toInt_le).mp hi
        have h1 : (0 : Int32).toInt = 0 := rfl
        omega
    · rw [decide_eq_false (show ¬ nI m ≤ nI 40 from nI_ge (by omega) (by omega)), Bool.false_and, decide_eq_false (show ¬ nI m ≤ nI k from nI_ge (by omega) (by omega)), Bool.false_and]
  · rw [decide_eq_false hi, Bool.false_and, Bool.false_and]
theorem cpy_rel {S : Sta} {r t i j n kr kt : Nat} {a b : Nat} {f : Nat → Int32} (hr : ∀ q, q < kr → f (40 * r + q) = S.2.1.2 r q) (ha : f (40 * a + b) = S.2.1.2 a b) (hi : i + n ≤ kr) (hj : j + n ≤ 40) (hb : b < 40) : va_cpy f f (40 * r + i) (40 * t + j) n (40 * a + b) = cpy2 S.2.1.2 r i t j n a b := by
  unfold va_cpy cpy2
  by_cases h : a = t ∧ j ≤ b ∧ b < j + n
  · rw [if_pos h, if_pos (by omega)]
    rw [show 40 * r + i + (40 * a + b - (40 * t + j)) = 40 * r + (i + (b - j)) by omega]
    exact hr _ (by omega)
  · rw [if_neg h, if_neg (by omega)]
    exact ha

theorem cpy0 {f g : Nat → Int32} {x y : Nat} : va_cpy f g x y 0 = g := by
  funext j
  unfold va_cpy
  rw [if_neg (by omega)]

theorem pm_M_copy (S : Sta) (hp : List Am_C) (h : RM S hp) (r i t j n : Int32) : ∃ hp', Am_Ev false 4 0 0 141 [.ref 0, .int r, .int i, .int t, .int j, .int n] hp (some (.int (spCopy S r i t j n).1)) hp' ∧ RM (spCopy S r i t j n).2 hp' := by
  obtain ⟨I, F, rfl, hx⟩ := h
  obtain ⟨hs, hr, ht, hl⟩ := id hx
  unfold spCopy
  cases ho : okR r with
  | false =>
    rw [if_pos rfl]
    have hc1 := c_M_isRow (mH I F S.2.2.2.2.2.2.1 S.2.2.2.2.2.2.2) r
    rw [show in3 r (nI 0) (nI 5) = false from ho] at hc1
    refine ⟨_, am_ev 9 (some .int) false [96, 101] ok_M_copy am_mP_141 (by rw [am_m_141]) (by rw [am_m_141]) (fun h => by cases h) (Nat.le_of_ble_eq_true rfl) (fun Go hG => ?_), RM_of hx⟩
    refine hG 200 _ _ _ _ _ _ ?_
    refine Exists.intro 1 (Exists.intro _ (Exists.intro _ ⟨by decide, hc1, ?_⟩))
    refine br_t rfl ?_
    exact ⟨rfl, rfl, rfl, rfl⟩
  | true =>
    rw [if_neg (by decide)]
    obtain ⟨a, -, ha, rfl⟩ := in3_nat (by decide) (by decide) ho
    rw [nat_nI (by omega)]
    have hc1 := c_M_isRow (mH I F S.2.2.2.2.2.2.1 S.2.2.2.2.2.2.2) (nI a)
    rw [in3_nI (by omega) (by omega) ha] at hc1
    cases ho2 : okR t with
    | false =>
      rw [if_pos rfl]
      have hc2 := c_M_isRow (mH I F S.2.2.2.2.2.2.1 S.2.2.2.2.2.2.2) t
      rw [show in3 t (nI 0) (nI 5) = false from ho2] at hc2
      refine ⟨_, am_ev 9 (some .int) false [96, 101] ok_M_copy am_mP_141 (by rw [am_m_141]) (by rw [am_m_141]) (fun h => by cases h) (Nat.le_of_ble_eq_true rfl) (fun Go hG => ?_), RM_of hx⟩
      refine hG 200 _ _ _ _ _ _ ?_
      refine Exists.intro 1 (Exists.intro _ (Exists.intro _ ⟨by decide, hc1, ?_⟩))
      refine br_f (by decide) ?_
      refine Exists.intro 1 (Exists.intro _ (Exists.intro _ ⟨by decide, hc2, ?_⟩))
      refine bn_f rfl ?_
      exact ⟨rfl, rfl, rfl, rfl⟩
    | true =>
      rw [if_neg (by decide)]
      obtain ⟨b, -, hb, rfl⟩ := in3_nat (by decide) (by decide) ho2
      rw [nat_nI (by omega)]
      have hc2 := c_M_isRow (mH I F S.2.2.2.2.2.2.1 S.2.2.2.2.2.2.2) (nI b)
      rw [in3_nI (by omega) (by omega) hb] at hc2
      by_cases h3 : n < 0
      · rw [if_pos h3]
        refine ⟨_, am_ev 9 (some .int) false [96, 101] ok_M_copy am_mP_141 (by rw [am_m_141]) (by rw [am_m_141]) (fun h => by cases h) (Nat.le_of_ble_eq_true rfl) (fun Go hG => ?_), RM_fnd hx (by decide)⟩
        refine hG 200 _ _ _ _ _ _ ?_
        refine Exists.intro 1 (Exists.intro _ (Exists.intro _ ⟨by decide, hc1, ?_⟩))
        refine br_f (by decide) ?_
        refine Exists.intro 1 (Exists.intro _ (Exists.intro _ ⟨by decide, hc2, ?_⟩))
        refine bn_t (by decide) ?_
        refine br_f (Int32.not_le.mpr h3) ?_
        refine Exists.intro 0 (Exists.intro _ (Exists.intro _ ⟨by decide, c_M_found I F S.2.2.2.2.2.2.1 S.2.2.2.2.2.2.2 5 (by decide), ?_⟩))
        exact ⟨rfl, rfl, rfl, rfl⟩
      · rw [if_neg h3]
        obtain ⟨r1, r2, r3⟩ := hr a (by omega)
        obtain ⟨t1, t2, t3⟩ := hr b (by omega)
        have hs1 : F 5 a = rz S a := r1
        have hs2 : F 5 b = rz S b := t1
        by_cases g1 : rz S a < 0
        · rw [if_pos g1]
          
          refine ⟨_, am_ev 9 (some .int) false [96, 101] ok_M_copy am_mP_141 (by rw [am_m_141]) (by rw [am_m_141]) (fun h => by cases h) (Nat.le_of_ble_eq_true rfl) (fun Go hG => ?_), RM_fnd hx (by decide)⟩
          refine hG 200 _ _ _ _ _ _ ?_
          refine Exists.intro 1 (Exists.intro _ (Exists.intro _ ⟨by decide, hc1, ?_⟩))
          refine br_f (by decide) ?_
          refine Exists.intro 1 (Exists.intro _ (Exists.intro _ ⟨by decide, hc2, ?_⟩))
          refine bn_t (by decide) ?_
          refine br_t (Int32.not_lt.mp h3) ?_
          refine Exists.intro a ⟨by omega, rfl, ?_⟩
          refine br_t (by rw [hs1]; exact g1) ?_
          refine Exists.intro 0 (Exists.intro _ (Exists.intro _ ⟨by decide, c_M_found I F S.2.2.2.2.2.2.1 S.2.2.2.2.2.2.2 1 (by decide), ?_⟩))
          exact ⟨rfl, rfl, rfl, rfl⟩
        · rw [if_neg g1]
          
          by_cases g2 : rz S b < 0
          · rw [if_pos g2]
            
            refine ⟨_, am_ev 9 (some .int) false [96, 101] ok_M_copy am_mP_141 (by rw [am_m_141]) (by rw [am_m_141]) (fun h => by cases h) (Nat.le_of_ble_eq_true rfl) (fun Go hG => ?_), RM_fnd hx (by decide)⟩
            refine hG 200 _ _ _ _ _ _ ?_
            refine Exists.intro 1 (Exists.intro _ (Exists.intro _ ⟨by decide, hc1, ?_⟩))
            refine br_f (by decide) ?_
            refine Exists.intro 1 (Exists.intro _ (Exists.intro _ ⟨by decide, hc2, ?_⟩))
            refine bn_t (by decide) ?_
            refine br_t (Int32.not_lt.mp h3) ?_
            refine Exists.intro a ⟨by omega, rfl, ?_⟩
            refine br_f (by rw [hs1]; exact g1) ?_
            refine Exists.intro b ⟨by omega, rfl, ?_⟩
            refine br_f (by rw [hs2]; exact Int32.not_le.mpr g2) ?_
            refine Exists.intro 0 (Exists.intro _ (Exists.intro _ ⟨by decide, c_M_found I F S.2.2.2.2.2.2.1 S.2.2.2.2.2.2.2 1 (by decide), ?_⟩))
            exact ⟨rfl, rfl, rfl, rfl⟩
          · rw [if_neg g2]
            
            have r2' : szOk 40 (rz S a) := r2
            have t2' : szOk 40 (rz S b) := t2
            rcases szOk_neg (by decide) r2' with ⟨-, z, -⟩ | ⟨ka, hka, ea, -, -⟩
            · exact absurd z g1
            rcases szOk_neg (by decide) t2' with ⟨-, z, -⟩ | ⟨kb, hkb, eb, -, -⟩
            · exact absurd z g2
            have hP1 : hprI (rz S a) i n = prtB (rz S a) i n := by rw [ea]; exact hpr_prt hka h3
            have hP2 : hprI (rz S b) j n = prtB (rz S b) j n := by rw [eb]; exact hpr_prt hkb h3
            cases p1 : prtB (rz S a) i n with
            | false =>
              rw [if_pos rfl]
              have hq1 := c_M_isPart I F S.2.2.2.2.2.2.1 S.2.2.2.2.2.2.2 a (by omega) i n
              rw [hs1, p1] at hq1
              
              refine ⟨_, am_ev 9 (some .int) false [96, 101] ok_M_copy am_mP_141 (by rw [am_m_141]) (by rw [am_m_141]) (fun h => by cases h) (Nat.le_of_ble_eq_true rfl) (fun Go hG => ?_), RM_fnd hx (by decide)⟩
              refine hG 200 _ _ _ _ _ _ ?_
              refine Exists.intro 1 (Exists.intro _ (Exists.intro _ ⟨by decide, hc1, ?_⟩))
              refine br_f (by decide) ?_
              refine Exists.intro 1 (Exists.intro _ (Exists.intro _ ⟨by decide, hc2, ?_⟩))
              refine bn_t (by decide) ?_
              refine br_t (Int32.not_lt.mp h3) ?_
              refine Exists.intro a ⟨by omega, rfl, ?_⟩
              refine br_f (by rw [hs1]; exact g1) ?_
              refine Exists.intro b ⟨by omega, rfl, ?_⟩
              refine br_t (by rw [hs2]; exact Int32.not_lt.mp g2) ?_
              refine Exists.intro 0 (Exists.intro _ (Exists.intro _ ⟨by decide, hq1, ?_⟩))
              refine br_t rfl ?_
              refine Exists.intro 0 (Exists.intro _ (Exists.intro _ ⟨by decide, c_M_found I F S.2.2.2.2.2.2.1 S.2.2.2.2.2.2.2 2 (by decide), ?_⟩))
              exact ⟨rfl, rfl, rfl, rfl⟩
            | true =>
              rw [if_neg (by decide)]
              have hq1 := c_M_isPart I F S.2.2.2.2.2.2.1 S.2.2.2.2.2.2.2 a (by omega) i n
              rw [hs1, p1] at hq1
              
              cases p2 : prtB (rz S b) j n with
              | false =>
                rw [if_pos rfl]
                have hq2 := c_M_isPart I F S.2.2.2.2.2.2.1 S.2.2.2.2.2.2.2 b (by omega) j n
                rw [hs2, p2] at hq2
                
                refine ⟨_, am_ev 9 (some .int) false [96, 101] ok_M_copy am_mP_141 (by rw [am_m_141]) (by rw [am_m_141]) (fun h => by cases h) (Nat.le_of_ble_eq_true rfl) (fun Go hG => ?_), RM_fnd hx (by decide)⟩
                refine hG 200 _ _ _ _ _ _ ?_
                refine Exists.intro 1 (Exists.intro _ (Exists.intro _ ⟨by decide, hc1, ?_⟩))
                refine br_f (by decide) ?_
                refine Exists.intro 1 (Exists.intro _ (Exists.intro _ ⟨by decide, hc2, ?_⟩))
                refine bn_t (by decide) ?_
                refine br_t (Int32.not_lt.mp h3) ?_
                refine Exists.intro a ⟨by omega, rfl, ?_⟩
                refine br_f (by rw [hs1]; exact g1) ?_
                refine Exists.intro b ⟨by omega, rfl, ?_⟩
                refine br_t (by rw [hs2]; exact Int32.not_lt.mp g2) ?_
                refine Exists.intro 0 (Exists.intro _ (Exists.intro _ ⟨by decide, hq1, ?_⟩))
                refine br_f (by decide) ?_
                refine Exists.intro 0 (Exists.intro _ (Exists.intro _ ⟨by decide, hq2, ?_⟩))
                refine bn_f rfl ?_
                refine Exists.intro 0 (Exists.intro _ (Exists.intro _ ⟨by decide, c_M_found I F S.2.2.2.2.2.2.1 S.2.2.2.2.2.2.2 2 (by decide), ?_⟩))
                exact ⟨rfl, rfl, rfl, rfl⟩
              | true =>
                rw [if_neg (by decide)]
                have hq2 := c_M_isPart I F S.2.2.2.2.2.2.1 S.2.2.2.2.2.2.2 b (by omega) j n
                rw [hs2, p2] at hq2
                
                have q1 := p1
                have q2 := p2
                rw [ea] at q1
                rw [eb] at q2
                obtain ⟨x, m, rfl, rfl, hxm⟩ := prtB_nat hka h3 q1
                obtain ⟨y, m', rfl, hmm, hym⟩ := prtB_nat hkb h3 q2
                have hmm2 : m = m' := by
                  by_cases h40 : m ≤ 40 ∧ m' ≤ 40
                  · exact (nI_eq (by omega) (by omega)).mp hmm
                  · omega
                subst hmm2
                rw [nat_nI (by omega), nat_nI (by omega), nat_nI (by omega)]
                have hna : nat (S.2.1.1 a) = ka := by
                  have ea' : S.2.1.1 a = nI ka := ea
                  rw [ea', nat_nI (by omega)]
                have hx2 : RMx I (va_up F 4 (va_cpy (F 4) (F 4) (40 * a + x) (40 * b + y) m)) (sR S (S.2.1.1, cpy2 S.2.1.2 a x b y m)) := by
                  refine ⟨hs, fun q hq => ?_, ht, hl⟩
                  obtain ⟨z1, z2, z3⟩ := hr q hq
                  refine ⟨z1, z2, fun c hc => ?_⟩
                  have h40 := rw40 (S := S) hr hq hc
                  exact cpy_rel (kr := ka) (kt := 0) (fun p hp => by have := r3 p (by rw [hna]; exact hp); exact this) (z3 c hc) (by omega) (by omega) h40
                refine ⟨_, am_ev 9 (some .int) false [96, 101] ok_M_copy am_mP_141 (by rw [am_m_141]) (by rw [am_m_141]) (fun h => by cases h) (Nat.le_of_ble_eq_true rfl) (fun Go hG => ?_), RM_of hx2⟩
                have hback : ∀ v : Int32, (v = nI 0 → ¬ (a = b ∧ x < y)) → (v = nI 1 → a = b ∧ x < y) → v = nI 0 ∨ v = nI 1 → Go 96 [some (.ref 0), some (.int (nI a)), some (.int (nI x)), some (.int (nI b)), some (.int (nI y)), some (.int (nI m)), none, none, none] [.int v] (mH I F S.2.2.2.2.2.2.1 S.2.2.2.2.2.2.2) 0 0 := by
                  intro v w0 w1 wv
                  rcases wv with rfl | rfl
                  · have hc := w0 rfl
                    have e : ∀ k, k < m → upd (va_cpy (F 4) (F 4) (40 * a + x) (40 * b + y) k) (40 * b + y + k) (va_cpy (F 4) (F 4) (40 * a + x) (40 * b + y) k (40 * a + x + k)) = va_cpy (F 4) (F 4) (40 * a + x) (40 * b + y) (k + 1) := by
                      intro k hk
                      funext p
                      unfold upd va_cpy
                      by_cases h : p = 40 * b + y + k
                      · subst h
                        rw [if_pos rfl, if_neg (by omega), if_pos (by omega)]
                        congr 1
                        omega
                      · by_cases h2 : 40 * b + y ≤ p ∧ p < 40 * b + y + k
                        · rw [if_neg h, if_pos h2, if_pos (by omega)]
                        · rw [if_neg h, if_neg h2, if_neg (by omega)]
                    have L : ∀ (c k : Nat) (z : Option Value), k + c = m → Go 101 [some (.ref 0), some (.int (nI a)), some (.int (nI x)), some (.int (nI b)), some (.int (nI y)), some (.int (nI m)), some (.int (nI 0)), some (.int (nI k)), z] [] (mH I (va_up F 4 (va_cpy (F 4) (F 4) (40 * a + x) (40 * b + y) k)) S.2.2.2.2.2.2.1 S.2.2.2.2.2.2.2) 0 0 := by
                      intro c
                      induction c with
                      | zero =>
                        intro k z hk
                        refine hG 200 _ _ _ _ _ _ ?_
                        refine br_t (nI_le (by omega) (by omega)) ?_
                        have hk : k = m := by omega
                        subst hk
                        exact ⟨rfl, rfl, rfl, rfl⟩
                      | succ c ih =>
                        intro k z hk
                        refine hG 200 _ _ _ _ _ _ ?_
                        refine br_f (nI_ge (by omega) (by omega)) ?_
                        refine br_t rfl ?_
                        refine Exists.intro (40 * a + x + k) ⟨by omega, by rw [nI_idx, nI_add], ?_⟩
                        refine Exists.intro (40 * b + y + k) ⟨by omega, by rw [nI_idx, nI_add], ?_⟩
                        have h9 := ih (k + 1) (some (.int (nI k))) (by omega)
                        rw [← nI_s1 k, ← e k (by omega)] at h9
                        exact h9
                    refine hG 200 _ _ _ _ _ _ ?_
                    have h9 := L m 0 none (by omega)
                    rw [cpy0, va_up_same] at h9
                    exact h9
                  · have hc := w1 rfl
                    have e : ∀ k, k < m → upd (va_cpy (F 4) (F 4) (40 * a + x + (m - k)) (40 * b + y + (m - k)) k) (40 * b + y + (m - 1 - k)) (va_cpy (F 4) (F 4) (40 * a + x + (m - k)) (40 * b + y + (m - k)) k (40 * a + x + (m - 1 - k))) = va_cpy (F 4) (F 4) (40 * a + x + (m - (k + 1))) (40 * b + y + (m - (k + 1))) (k + 1) := by
                      intro k hk
                      funext p
                      unfold upd va_cpy
                      by_cases h : p = 40 * b + y + (m - 1 - k)
                      · subst h
                        rw [if_pos rfl, if_neg (by omega), if_pos (by omega)]
                        congr 1
                        omega
                      · by_cases h2 : 40 * b + y + (m - k) ≤ p ∧ p < 40 * b + y + (m - k) + k
                        · rw [if_neg h, if_pos h2, if_pos (by omega)]
                          congr 1
                          omega
                        · rw [if_neg h, if_neg h2, if_neg (by omega)]
                    have L : ∀ (c k : Nat) (z : Option Value), k + c = m → Go 101 [some (.ref 0), some (.int (nI a)), some (.int (nI x)), some (.int (nI b)), some (.int (nI y)), some (.int (nI m)), some (.int (nI 1)), some (.int (nI k)), z] [] (mH I (va_up F 4 (va_cpy (F 4) (F 4) (40 * a + x + (m - k)) (40 * b + y + (m - k)) k)) S.2.2.2.2.2.2.1 S.2.2.2.2.2.2.2) 0 0 := by
                      intro c
                      induction c with
                      | zero =>
                        intro k z hk
                        refine hG 200 _ _ _ _ _ _ ?_
                        refine br_t (nI_le (by omega) (by omega)) ?_
                        have hk : k = m := by omega
                        subst hk
                        refine ⟨rfl, ?_, rfl, rfl⟩
                        rw [Nat.sub_self]
                        rfl
                      | succ c ih =>
                        intro k z hk
                        have em : nI m - nI 1 - nI k = nI (m - 1 - k) := by rw [pk_sub (by omega), pk_sub (by omega)]
                        refine hG 200 _ _ _ _ _ _ ?_
                        refine br_f (nI_ge (by omega) (by omega)) ?_
                        refine br_f (by decide) ?_
                        refine Exists.intro (40 * a + x + (m - 1 - k)) ⟨by omega, by rw [em, nI_idx, nI_add], ?_⟩
                        refine Exists.intro (40 * b + y + (m - 1 - k)) ⟨by omega, by rw [em, nI_idx, nI_add], ?_⟩
                        have h9 := ih (k + 1) (some (.int (nI m - nI 1 - nI k))) (by omega)
                        rw [← nI_s1 k, ← e k (by omega)] at h9
                        exact h9
                    refine hG 200 _ _ _ _ _ _ ?_
                    have h9 := L m 0 none (by omega)
                    rw [cpy0, va_up_same] at h9
                    exact h9
                refine hG 200 _ _ _ _ _ _ ?_
                refine Exists.intro 1 (Exists.intro _ (Exists.intro _ ⟨by decide, hc1, ?_⟩))
                refine br_f (by decide) ?_
                refine Exists.intro 1 (Exists.intro _ (Exists.intro _ ⟨by decide, hc2, ?_⟩))
                refine bn_t (by decide) ?_
                refine br_t (Int32.not_lt.mp h3) ?_
                refine Exists.intro a ⟨by omega, rfl, ?_⟩
                refine br_f (by rw [hs1]; exact g1) ?_
                refine Exists.intro b ⟨by omega, rfl, ?_⟩
                refine br_t (by rw [hs2]; exact Int32.not_lt.mp g2) ?_
                refine Exists.intro 0 (Exists.intro _ (Exists.intro _ ⟨by decide, hq1, ?_⟩))
                refine br_f (by decide) ?_
                refine Exists.intro 0 (Exists.intro _ (Exists.intro _ ⟨by decide, hq2, ?_⟩))
                refine bn_t (by decide) ?_
                by_cases hab : a = b
                · refine bn_f (by rw [hab]) ?_
                  by_cases hxy : x < y
                  · refine br_f (nI_ge hxy (by omega)) ?_
                    exact hback (nI 1) (fun q => absurd q (by decide)) (fun _ => ⟨hab, hxy⟩) (Or.inr rfl)
                  · refine br_t (nI_le (by omega) (by omega)) ?_
                    exact hback (nI 0) (fun _ q => hxy q.2) (fun q => absurd q (by decide)) (Or.inl rfl)
                · refine bn_t (fun q => hab ((nI_eq (by omega) (by omega)).mp q)) ?_
                  exact hback (nI 0) (fun _ q => hab q.1) (fun q => absurd q (by decide)) (Or.inl rfl)

theorem pc_T_copy (S : Sta) (hp : List Am_C) (h : RC S hp) (r i t j n : Int32) : ∃ hp', Am_Ev false 6 0 0 20 [.ref 0, .int r, .int i, .int t, .int j, .int n] hp (some (.int (spCopy S r i t j n).1)) hp' ∧ RC (spCopy S r i t j n).2 hp' := by
  obtain ⟨I, F, rfl, hx⟩ := h
  obtain ⟨hs, hr, ht, hl⟩ := id hx
  unfold spCopy
  cases ho : okR r with
  | false =>
    rw [if_pos rfl]
    have hc1 := c_T_isRow (cH I F S.2.2.2.2.2.2.1 S.2.2.2.2.2.2.2) r
    rw [show in3 r (nI 0) (nI 5) = false from ho] at hc1
    refine ⟨_, am_ev 6 (some .int) false [] ok_T_copy am_mP_20 (by rw [am_m_20]) (by rw [am_m_20]) (fun h => by cases h) (Nat.le_of_ble_eq_true rfl) (fun Go hG => ?_), RC_of hx⟩
    refine hG 200 _ _ _ _ _ _ ?_
    refine Exists.intro 0 (Exists.intro _ (Exists.intro _ ⟨by decide, hc1, ?_⟩))
    refine br_t rfl ?_
    exact ⟨rfl, rfl, rfl, rfl⟩
  | true =>
    rw [if_neg (by decide)]
    obtain ⟨a, -, ha, rfl⟩ := in3_nat (by decide) (by decide) ho
    rw [nat_nI (by omega)]
    have hc1 := c_T_isRow (cH I F S.2.2.2.2.2.2.1 S.2.2.2.2.2.2.2) (nI a)
    rw [in3_nI (by omega) (by omega) ha] at hc1
    cases ho2 : okR t with
    | false =>
      rw [if_pos rfl]
      have hc2 := c_T_isRow (cH I F S.2.2.2.2.2.2.1 S.2.2.2.2.2.2.2) t
      rw [show in3 t (nI 0) (nI 5) = false from ho2] at hc2
      refine ⟨_, am_ev 6 (some .int) false [] ok_T_copy am_mP_20 (by rw [am_m_20]) (by rw [am_m_20]) (fun h => by cases h) (Nat.le_of_ble_eq_true rfl) (fun Go hG => ?_), RC_of hx⟩
      refine hG 200 _ _ _ _ _ _ ?_
      refine Exists.intro 0 (Exists.intro _ (Exists.intro _ ⟨by decide, hc1, ?_⟩))
      refine br_f (by decide) ?_
      refine Exists.intro 0 (Exists.intro _ (Exists.intro _ ⟨by decide, hc2, ?_⟩))
      refine bn_f rfl ?_
      exact ⟨rfl, rfl, rfl, rfl⟩
    | true =>
      rw [if_neg (by decide)]
      obtain ⟨b, -, hb, rfl⟩ := in3_nat (by decide) (by decide) ho2
      rw [nat_nI (by omega)]
      have hc2 := c_T_isRow (cH I F S.2.2.2.2.2.2.1 S.2.2.2.2.2.2.2) (nI b)
      rw [in3_nI (by omega) (by omega) hb] at hc2
      by_cases h3 : n < 0
      · rw [if_pos h3]
        refine ⟨_, am_ev 6 (some .int) false [] ok_T_copy am_mP_20 (by rw [am_m_20]) (by rw [am_m_20]) (fun h => by cases h) (Nat.le_of_ble_eq_true rfl) (fun Go hG => ?_), RC_fnd hx (by decide)⟩
        refine hG 200 _ _ _ _ _ _ ?_
        refine Exists.intro 0 (Exists.intro _ (Exists.intro _ ⟨by decide, hc1, ?_⟩))
        refine br_f (by decide) ?_
        refine Exists.intro 0 (Exists.intro _ (Exists.intro _ ⟨by decide, hc2, ?_⟩))
        refine bn_t (by decide) ?_
        refine br_f (Int32.not_le.mpr h3) ?_
        refine Exists.intro 0 (Exists.intro _ (Exists.intro _ ⟨by decide, c_T_found I F S.2.2.2.2.2.2.1 S.2.2.2.2.2.2.2 5 (by decide), ?_⟩))
        exact ⟨rfl, rfl, rfl, rfl⟩
      · rw [if_neg h3]
        obtain ⟨r1, r2, r3⟩ := hr a (by omega)
        obtain ⟨t1, t2, t3⟩ := hr b (by omega)
        have hs1 : I (60 + a) = rz S a := r1
        have hs2 : I (60 + b) = rz S b := t1
        by_cases g1 : rz S a < 0
        · rw [if_pos g1]
          have hm1 := c_S_isMissing (cH I F S.2.2.2.2.2.2.1 S.2.2.2.2.2.2.2) (18 + 2 * a) _ _ (cH_row (by omega))
          rw [hs1, decide_eq_true g1] at hm1
          
          refine ⟨_, am_ev 6 (some .int) false [] ok_T_copy am_mP_20 (by rw [am_m_20]) (by rw [am_m_20]) (fun h => by cases h) (Nat.le_of_ble_eq_true rfl) (fun Go hG => ?_), RC_fnd hx (by decide)⟩
          refine hG 200 _ _ _ _ _ _ ?_
          refine Exists.intro 0 (Exists.intro _ (Exists.intro _ ⟨by decide, hc1, ?_⟩))
          refine br_f (by decide) ?_
          refine Exists.intro 0 (Exists.intro _ (Exists.intro _ ⟨by decide, hc2, ?_⟩))
          refine bn_t (by decide) ?_
          refine br_t (Int32.not_lt.mp h3) ?_
          refine Exists.intro a (Exists.intro (18 + 2 * a) ⟨by omega, rfl, rfR_at (by omega), ?_⟩)
          refine am_vt (cH_row (by omega)) rfl ?_
          refine Exists.intro 0 (Exists.intro _ (Exists.intro _ ⟨by decide, hm1, ?_⟩))
          refine bn_t (by decide) ?_
          refine Exists.intro 0 (Exists.intro _ (Exists.intro _ ⟨by decide, c_T_found I F S.2.2.2.2.2.2.1 S.2.2.2.2.2.2.2 1 (by decide), ?_⟩))
          exact ⟨rfl, rfl, rfl, rfl⟩
        · rw [if_neg g1]
          have hm1 := c_S_isMissing (cH I F S.2.2.2.2.2.2.1 S.2.2.2.2.2.2.2) (18 + 2 * a) _ _ (cH_row (by omega))
          rw [hs1, decide_eq_false g1] at hm1
          
          by_cases g2 : rz S b < 0
          · rw [if_pos g2]
            have hm2 := c_S_isMissing (cH I F S.2.2.2.2.2.2.1 S.2.2.2.2.2.2.2) (18 + 2 * b) _ _ (cH_row (by omega))
            rw [hs2, decide_eq_true g2] at hm2
            
            refine ⟨_, am_ev 6 (some .int) false [] ok_T_copy am_mP_20 (by rw [am_m_20]) (by rw [am_m_20]) (fun h => by cases h) (Nat.le_of_ble_eq_true rfl) (fun Go hG => ?_), RC_fnd hx (by decide)⟩
            refine hG 200 _ _ _ _ _ _ ?_
            refine Exists.intro 0 (Exists.intro _ (Exists.intro _ ⟨by decide, hc1, ?_⟩))
            refine br_f (by decide) ?_
            refine Exists.intro 0 (Exists.intro _ (Exists.intro _ ⟨by decide, hc2, ?_⟩))
            refine bn_t (by decide) ?_
            refine br_t (Int32.not_lt.mp h3) ?_
            refine Exists.intro a (Exists.intro (18 + 2 * a) ⟨by omega, rfl, rfR_at (by omega), ?_⟩)
            refine am_vt (cH_row (by omega)) rfl ?_
            refine Exists.intro 0 (Exists.intro _ (Exists.intro _ ⟨by decide, hm1, ?_⟩))
            refine bn_f rfl ?_
            refine Exists.intro b (Exists.intro (18 + 2 * b) ⟨by omega, rfl, rfR_at (by omega), ?_⟩)
            refine am_vt (cH_row (by omega)) rfl ?_
            refine Exists.intro 0 (Exists.intro _ (Exists.intro _ ⟨by decide, hm2, ?_⟩))
            refine br_f (by decide) ?_
            refine Exists.intro 0 (Exists.intro _ (Exists.intro _ ⟨by decide, c_T_found I F S.2.2.2.2.2.2.1 S.2.2.2.2.2.2.2 1 (by decide), ?_⟩))
            exact ⟨rfl, rfl, rfl, rfl⟩
          · rw [if_neg g2]
            have hm2 := c_S_isMissing (cH I F S.2.2.2.2.2.2.1 S.2.2.2.2.2.2.2) (18 + 2 * b) _ _ (cH_row (by omega))
            rw [hs2, decide_eq_false g2] at hm2
            
            have r2' : szOk 40 (rz S a) := r2
            have t2' : szOk 40 (rz S b) := t2
            rcases szOk_neg (by decide) r2' with ⟨-, z, -⟩ | ⟨ka, hka, ea, -, -⟩
            · exact absurd z g1
            rcases szOk_neg (by decide) t2' with ⟨-, z, -⟩ | ⟨kb, hkb, eb, -, -⟩
            · exact absurd z g2
            have hP1 : hprI (rz S a) i n = prtB (rz S a) i n := by rw [ea]; exact hpr_prt hka h3
            have hP2 : hprI (rz S b) j n = prtB (rz S b) j n := by rw [eb]; exact hpr_prt hkb h3
            cases p1 : prtB (rz S a) i n with
            | false =>
              rw [if_pos rfl]
              have hq1 := c_S_hasPart (cH I F S.2.2.2.2.2.2.1 S.2.2.2.2.2.2.2) (18 + 2 * a) _ _ (cH_row (by omega)) i n
              rw [hs1, hP1, p1] at hq1
              
              refine ⟨_, am_ev 6 (some .int) false [] ok_T_copy am_mP_20 (by rw [am_m_20]) (by rw [am_m_20]) (fun h => by cases h) (Nat.le_of_ble_eq_true rfl) (fun Go hG => ?_), RC_fnd hx (by decide)⟩
              refine hG 200 _ _ _ _ _ _ ?_
              refine Exists.intro 0 (Exists.intro _ (Exists.intro _ ⟨by decide, hc1, ?_⟩))
              refine br_f (by decide) ?_
              refine Exists.intro 0 (Exists.intro _ (Exists.intro _ ⟨by decide, hc2, ?_⟩))
              refine bn_t (by decide) ?_
              refine br_t (Int32.not_lt.mp h3) ?_
              refine Exists.intro a (Exists.intro (18 + 2 * a) ⟨by omega, rfl, rfR_at (by omega), ?_⟩)
              refine am_vt (cH_row (by omega)) rfl ?_
              refine Exists.intro 0 (Exists.intro _ (Exists.intro _ ⟨by decide, hm1, ?_⟩))
              refine bn_f rfl ?_
              refine Exists.intro b (Exists.intro (18 + 2 * b) ⟨by omega, rfl, rfR_at (by omega), ?_⟩)
              refine am_vt (cH_row (by omega)) rfl ?_
              refine Exists.intro 0 (Exists.intro _ (Exists.intro _ ⟨by decide, hm2, ?_⟩))
              refine br_t rfl ?_
              refine Exists.intro a (Exists.intro (18 + 2 * a) ⟨by omega, rfl, rfR_at (by omega), ?_⟩)
              refine am_vt (cH_row (by omega)) rfl ?_
              refine Exists.intro 0 (Exists.intro _ (Exists.intro _ ⟨by decide, hq1, ?_⟩))
              refine br_t rfl ?_
              refine Exists.intro 0 (Exists.intro _ (Exists.intro _ ⟨by decide, c_T_found I F S.2.2.2.2.2.2.1 S.2.2.2.2.2.2.2 2 (by decide), ?_⟩))
              exact ⟨rfl, rfl, rfl, rfl⟩
            | true =>
              rw [if_neg (by decide)]
              have hq1 := c_S_hasPart (cH I F S.2.2.2.2.2.2.1 S.2.2.2.2.2.2.2) (18 + 2 * a) _ _ (cH_row (by omega)) i n
              rw [hs1, hP1, p1] at hq1
              
              cases p2 : prtB (rz S b) j n with
              | false =>
                rw [if_pos rfl]
                have hq2 := c_S_hasPart (cH I F S.2.2.2.2.2.2.1 S.2.2.2.2.2.2.2) (18 + 2 * b) _ _ (cH_row (by omega)) j n
                rw [hs2, hP2, p2] at hq2
                
                refine ⟨_, am_ev 6 (some .int) false [] ok_T_copy am_mP_20 (by rw [am_m_20]) (by rw [am_m_20]) (fun h => by cases h) (Nat.le_of_ble_eq_true rfl) (fun Go hG => ?_), RC_fnd hx (by decide)⟩
                refine hG 200 _ _ _ _ _ _ ?_
                refine Exists.intro 0 (Exists.intro _ (Exists.intro _ ⟨by decide, hc1, ?_⟩))
                refine br_f (by decide) ?_
                refine Exists.intro 0 (Exists.intro _ (Exists.intro _ ⟨by decide, hc2, ?_⟩))
                refine bn_t (by decide) ?_
                refine br_t (Int32.not_lt.mp h3) ?_
                refine Exists.intro a (Exists.intro (18 + 2 * a) ⟨by omega, rfl, rfR_at (by omega), ?_⟩)
                refine am_vt (cH_row (by omega)) rfl ?_
                refine Exists.intro 0 (Exists.intro _ (Exists.intro _ ⟨by decide, hm1, ?_⟩))
                refine bn_f rfl ?_
                refine Exists.intro b (Exists.intro (18 + 2 * b) ⟨by omega, rfl, rfR_at (by omega), ?_⟩)
                refine am_vt (cH_row (by omega)) rfl ?_
                refine Exists.intro 0 (Exists.intro _ (Exists.intro _ ⟨by decide, hm2, ?_⟩))
                refine br_t rfl ?_
                refine Exists.intro a (Exists.intro (18 + 2 * a) ⟨by omega, rfl, rfR_at (by omega), ?_⟩)
                refine am_vt (cH_row (by omega)) rfl ?_
                refine Exists.intro 0 (Exists.intro _ (Exists.intro _ ⟨by decide, hq1, ?_⟩))
                refine br_f (by decide) ?_
                refine Exists.intro b (Exists.intro (18 + 2 * b) ⟨by omega, rfl, rfR_at (by omega), ?_⟩)
                refine am_vt (cH_row (by omega)) rfl ?_
                refine Exists.intro 0 (Exists.intro _ (Exists.intro _ ⟨by decide, hq2, ?_⟩))
                refine bn_f rfl ?_
                refine Exists.intro 0 (Exists.intro _ (Exists.intro _ ⟨by decide, c_T_found I F S.2.2.2.2.2.2.1 S.2.2.2.2.2.2.2 2 (by decide), ?_⟩))
                exact ⟨rfl, rfl, rfl, rfl⟩
              | true =>
                rw [if_neg (by decide)]
                have hq2 := c_S_hasPart (cH I F S.2.2.2.2.2.2.1 S.2.2.2.2.2.2.2) (18 + 2 * b) _ _ (cH_row (by omega)) j n
                rw [hs2, hP2, p2] at hq2
                
                have q1 := p1
                have q2 := p2
                rw [ea] at q1
                rw [eb] at q2
                obtain ⟨x, m, rfl, rfl, hxm⟩ := prtB_nat hka h3 q1
                obtain ⟨y, m', rfl, hmm, hym⟩ := prtB_nat hkb h3 q2
                have hmm2 : m = m' := by
                  by_cases h40 : m ≤ 40 ∧ m' ≤ 40
                  · exact (nI_eq (by omega) (by omega)).mp hmm
                  · omega
                subst hmm2
                rw [nat_nI (by omega), nat_nI (by omega), nat_nI (by omega)]
                have hna : nat (S.2.1.1 a) = ka := by
                  have ea' : S.2.1.1 a = nI ka := ea
                  rw [ea', nat_nI (by omega)]
                have hx2 : RCx I (va_up F (19 + 2 * b) (va_cpy (F (19 + 2 * a)) (F (19 + 2 * b)) x y m)) (sR S (S.2.1.1, cpy2 S.2.1.2 a x b y m)) := by
                  refine ⟨skyC_congr hs (fun _ _ => rfl) (fun z hz => va_up_ne _ _ (by omega)), fun q hq => ?_, txtC_congr ht (fun _ _ => rfl) (fun z hz => va_up_ne _ _ (by omega)), hl.1, hl.2.1, ?_⟩
                  · obtain ⟨z1, z2, z3⟩ := hr q hq
                    refine ⟨z1, z2, fun c hc => ?_⟩
                    show va_up F (19 + 2 * b) (va_cpy (F (19 + 2 * a)) (F (19 + 2 * b)) x y m) (19 + 2 * q) c = cpy2 S.2.1.2 a x b y m q c
                    unfold cpy2
                    by_cases hqb : q = b
                    · subst hqb
                      rw [va_up_self]
                      unfold va_cpy
                      by_cases h : y ≤ c ∧ c < y + m
                      · rw [if_pos h, if_pos ⟨rfl, h⟩]
                        have := r3 (x + (c - y)) (by rw [hna]; omega)
                        exact this
                      · rw [if_neg h, if_neg (fun w => h w.2)]
                        exact z3 c hc
                    · rw [va_up_ne _ _ (by omega), if_neg (fun w => hqb w.1)]
                      exact z3 c hc
                  · intro f hf
                    rw [va_up_ne _ _ (by omega)]
                    exact hl.2.2 f hf
                refine ⟨_, am_ev 6 (some .int) false [] ok_T_copy am_mP_20 (by rw [am_m_20]) (by rw [am_m_20]) (fun h => by cases h) (Nat.le_of_ble_eq_true rfl) (fun Go hG => ?_), RC_of hx2⟩
                refine hG 200 _ _ _ _ _ _ ?_
                refine Exists.intro 0 (Exists.intro _ (Exists.intro _ ⟨by decide, hc1, ?_⟩))
                refine br_f (by decide) ?_
                refine Exists.intro 0 (Exists.intro _ (Exists.intro _ ⟨by decide, hc2, ?_⟩))
                refine bn_t (by decide) ?_
                refine br_t (Int32.not_lt.mp h3) ?_
                refine Exists.intro a (Exists.intro (18 + 2 * a) ⟨by omega, rfl, rfR_at (by omega), ?_⟩)
                refine am_vt (cH_row (by omega)) rfl ?_
                refine Exists.intro 0 (Exists.intro _ (Exists.intro _ ⟨by decide, hm1, ?_⟩))
                refine bn_f rfl ?_
                refine Exists.intro b (Exists.intro (18 + 2 * b) ⟨by omega, rfl, rfR_at (by omega), ?_⟩)
                refine am_vt (cH_row (by omega)) rfl ?_
                refine Exists.intro 0 (Exists.intro _ (Exists.intro _ ⟨by decide, hm2, ?_⟩))
                refine br_t rfl ?_
                refine Exists.intro a (Exists.intro (18 + 2 * a) ⟨by omega, rfl, rfR_at (by omega), ?_⟩)
                refine am_vt (cH_row (by omega)) rfl ?_
                refine Exists.intro 0 (Exists.intro _ (Exists.intro _ ⟨by decide, hq1, ?_⟩))
                refine br_f (by decide) ?_
                refine Exists.intro b (Exists.intro (18 + 2 * b) ⟨by omega, rfl, rfR_at (by omega), ?_⟩)
                refine am_vt (cH_row (by omega)) rfl ?_
                refine Exists.intro 0 (Exists.intro _ (Exists.intro _ ⟨by decide, hq2, ?_⟩))
                refine bn_t (by decide) ?_
                refine Exists.intro a (Exists.intro (18 + 2 * a) ⟨by omega, rfl, rfR_at (by omega), ?_⟩)
                refine am_ob_of (cH_row (by omega)) ?_
                refine Exists.intro b (Exists.intro (18 + 2 * b) ⟨by omega, rfl, rfR_at (by omega), ?_⟩)
                refine am_ob_of (cH_row (by omega)) ?_
                refine am_ai_of (cH_rowc (by omega)) rfl ?_
                refine am_ai_of (cH_rowc (by omega)) rfl ?_
                refine Exists.intro m (Exists.intro y (Exists.intro x ⟨rfl, rfl, rfl, by omega, by omega, ?_⟩))
                exact ⟨rfl, cH_rowcs (by omega) _, rfl, rfl⟩

