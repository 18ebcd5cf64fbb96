/-! ===== the class: fewest ===== -/
def usI (x k : Int32) : Int32 := (x.toUInt32 >>> (k.toUInt32 &&& Int32.toUInt32 31)).toInt32
def bc1 (x : Int32) : Int32 := x - (usI x (nI 1) &&& nI 1431655765)
def bc2 (x : Int32) : Int32 := (x &&& nI 858993459) + (usI x (nI 2) &&& nI 858993459)
def bc3 (x : Int32) : Int32 := (x + usI x (nI 4)) &&& nI 252645135
def bc4 (x : Int32) : Int32 := x + usI x (nI 8)
def bc5 (x : Int32) : Int32 := x + usI x (nI 16)
def bcI (x : Int32) : Int32 := bc5 (bc4 (bc3 (bc2 (bc1 x)))) &&& nI 63

theorem c_Int_bitCount (hp : List Am_C) (x : Int32) : Am_Ev false 0 0 0 87 [.int x] (hp) (some (.int (bcI x))) (hp) := by
  refine am_ev 1 (some .int) false [10, 24, 34, 41, 48] ok_Int_bitCount am_mP_87 (by rw [am_m_87]) (by rw [am_m_87]) (fun h => by cases h) (Nat.le_of_ble_eq_true rfl) ?_
  intro Go hG
  unfold bcI at hG
  refine hG 200 _ _ _ _ _ _ ?_
  show Go 10 [some (.int (bc1 x))] [] hp 0 0
  generalize bc1 x = y at hG ⊢
  refine hG 200 _ _ _ _ _ _ ?_
  show Go 24 [some (.int (bc2 y))] [] hp 0 0
  generalize bc2 y = y at hG ⊢
  refine hG 200 _ _ _ _ _ _ ?_
  show Go 34 [some (.int (bc3 y))] [] hp 0 0
  generalize bc3 y = y at hG ⊢
  refine hG 200 _ _ _ _ _ _ ?_
  show Go 41 [some (.int (bc4 y))] [] hp 0 0
  generalize bc4 y = y at hG ⊢
  refine hG 200 _ _ _ _ _ _ ?_
  show Go 48 [some (.int (bc5 y))] [] hp 0 0
  generalize bc5 y = y at hG ⊢
  refine hG 200 _ _ _ _ _ _ ?_
  exact ⟨rfl, rfl, rfl, rfl⟩

def bn1 (x : Nat) : Nat := x - (x / 2 ^ 1 &&& 1431655765)
def bn2 (x : Nat) : Nat := (x &&& 858993459) + (x / 2 ^ 2 &&& 858993459)
def bn3 (x : Nat) : Nat := (x + x / 2 ^ 4) &&& 252645135
def bn4 (x : Nat) : Nat := x + x / 2 ^ 8
def bn5 (x : Nat) : Nat := x + x / 2 ^ 16
def bnN (x : Nat) : Nat := bn5 (bn4 (bn3 (bn2 (bn1 x)))) &&& 63
theorem usI_N {n k : Nat} (hn : n < 2 ^ 32) (hk : ((nI k).toUInt32 &&& Int32.toUInt32 31).toBitVec % 32 = BitVec.ofNat 32 k) (hk2 : k < 32) : usI (nI n) (nI k) = nI (n / 2 ^ k) := pk_ushrN hn (nI k) k (by rw [hk]; simp; omega)
theorem bcI_N {s : Nat} (hs : s < 32768) : bcI (nI s) = nI (bnN s) := by
  have l1 : bn1 s ≤ s := Nat.sub_le _ _
  have l2 : bn2 (bn1 s) ≤ 65536 := by
    unfold bn2
    have a1 : bn1 s &&& 858993459 ≤ bn1 s := Nat.and_le_left
    have a2 : bn1 s / 2 ^ 2 &&& 858993459 ≤ bn1 s / 2 ^ 2 := Nat.and_le_left
    have a3 : bn1 s / 2 ^ 2 ≤ bn1 s := Nat.div_le_self _ _
    omega
  have l3 : bn3 (bn2 (bn1 s)) ≤ 131072 := by
    unfold bn3
    have a2 : (bn2 (bn1 s) + bn2 (bn1 s) / 2 ^ 4) &&& 252645135 ≤ bn2 (bn1 s) + bn2 (bn1 s) / 2 ^ 4 := Nat.and_le_left
    have a3 : bn2 (bn1 s) / 2 ^ 4 ≤ bn2 (bn1 s) := Nat.div_le_self _ _
    omega
  have l4 : bn4 (bn3 (bn2 (bn1 s))) ≤ 262144 := by
    unfold bn4
    have a3 : bn3 (bn2 (bn1 s)) / 2 ^ 8 ≤ bn3 (bn2 (bn1 s)) := Nat.div_le_self _ _
    omega
  have e1 : bc1 (nI s) = nI (bn1 s) := by
    unfold bc1 bn1
    rw [usI_N (by omega) (by decide) (by decide), nI_and, pk_sub (Nat.le_trans Nat.and_le_left (Nat.div_le_self _ _))]
  have e2 : bc2 (nI (bn1 s)) = nI (bn2 (bn1 s)) := by
    unfold bc2 bn2
    rw [usI_N (by omega) (by decide) (by decide), nI_and, nI_and, nI_add]
  have e3 : bc3 (nI (bn2 (bn1 s))) = nI (bn3 (bn2 (bn1 s))) := by
    unfold bc3 bn3
    rw [usI_N (by omega) (by decide) (by decide), nI_add, nI_and]
  have e4 : bc4 (nI (bn3 (bn2 (bn1 s)))) = nI (bn4 (bn3 (bn2 (bn1 s)))) := by
    unfold bc4 bn4
    rw [usI_N (by omega) (by decide) (by decide), nI_add]
  have e5 : bc5 (nI (bn4 (bn3 (bn2 (bn1 s))))) = nI (bn5 (bn4 (bn3 (bn2 (bn1 s))))) := by
    unfold bc5 bn5
    rw [usI_N (by omega) (by decide) (by decide), nI_add]
  unfold bcI bnN
  rw [e1, e2, e3, e4, e5, nI_and]
def pcB (s : Nat) : Nat → Nat
  | 0 => 0
  | k + 1 => pcB s k + (s.testBit k).toNat
noncomputable def br1 (x : Nat) : Nat := Nat.sub x (Nat.land (Nat.div x 2) 1431655765)
noncomputable def br2 (x : Nat) : Nat := Nat.add (Nat.land x 858993459) (Nat.land (Nat.div x 4) 858993459)
noncomputable def br3 (x : Nat) : Nat := Nat.land (Nat.add x (Nat.div x 16)) 252645135
noncomputable def br4 (x : Nat) : Nat := Nat.add x (Nat.div x 256)
noncomputable def br5 (x : Nat) : Nat := Nat.add x (Nat.div x 65536)
noncomputable def brN (x : Nat) : Nat := Nat.land (br5 (br4 (br3 (br2 (br1 x))))) 63
theorem brN_eq (x : Nat) : brN x = bnN x := rfl
noncomputable def brC (s : Nat) : Bool := and (Nat.beq (brN (Nat.mul 2 s)) (brN s)) (Nat.beq (brN (Nat.succ (Nat.mul 2 s))) (Nat.succ (brN s)))
noncomputable def brL (lo m : Nat) : Bool := Nat.rec true (fun k ih => and (brC (Nat.add lo k)) ih) m
theorem brL_at {lo s : Nat} : ∀ {m : Nat}, brL lo m = true → lo ≤ s → s < lo + m → bnN (2 * s) = bnN s ∧ bnN (2 * s + 1) = bnN s + 1
  | 0, _, h1, h2 => by omega
  | m + 1, h, h1, h2 => by
    have h' : (brC (lo + m) && brL lo m) = true := h
    rw [Bool.and_eq_true] at h'
    by_cases e : s = lo + m
    · have h3 := h'.1
      rw [← e] at h3
      have h4 : (Nat.beq (brN (2 * s)) (brN s) && Nat.beq (brN (2 * s + 1)) (brN s + 1)) = true := h3
      rw [Bool.and_eq_true] at h4
      have a1 := Nat.eq_of_beq_eq_true h4.1
      have a2 := Nat.eq_of_beq_eq_true h4.2
      rw [brN_eq, brN_eq] at a1 a2
      exact ⟨a1, a2⟩
    · exact brL_at h'.2 h1 (by omega)
theorem brL_0 : brL 0 1024 = true := by decide +kernel
theorem brL_1 : brL 1024 1024 = true := by decide +kernel
theorem brL_2 : brL 2048 1024 = true := by decide +kernel
theorem brL_3 : brL 3072 1024 = true := by decide +kernel
theorem brL_4 : brL 4096 1024 = true := by decide +kernel
theorem brL_5 : brL 5120 1024 = true := by decide +kernel
theorem brL_6 : brL 6144 1024 = true := by decide +kernel
theorem brL_7 : brL 7168 1024 = true := by decide +kernel
theorem brL_8 : brL 8192 1024 = true := by decide +kernel
theorem brL_9 : brL 9216 1024 = true := by decide +kernel
theorem brL_10 : brL 10240 1024 = true := by decide +kernel
theorem brL_11 : brL 11264 1024 = true := by decide +kernel
theorem brL_12 : brL 12288 1024 = true := by decide +kernel
theorem brL_13 : brL 13312 1024 = true := by decide +kernel
theorem brL_14 : brL 14336 1024 = true := by decide +kernel
theorem brL_15 : brL 15360 1024 = true := by decide +kernel
theorem bn_2 {s : Nat} (hs : s < 16384) : bnN (2 * s) = bnN s ∧ bnN (2 * s + 1) = bnN s + 1 := by
  by_cases h0 : s < 1024
  · exact brL_at brL_0 (by omega) (by omega)
  by_cases h1 : s < 2048
  · exact brL_at brL_1 (by omega) (by omega)
  by_cases h2 : s < 3072
  · exact brL_at brL_2 (by omega) (by omega)
  by_cases h3 : s < 4096
  · exact brL_at brL_3 (by omega) (by omega)
  by_cases h4 : s < 5120
  · exact brL_at brL_4 (by omega) (by omega)
  by_cases h5 : s < 6144
  · exact brL_at brL_5 (by omega) (by omega)
  by_cases h6 : s < 7168
  · exact brL_at brL_6 (by omega) (by omega)
  by_cases h7 : s < 8192
  · exact brL_at brL_7 (by omega) (by omega)
  by_cases h8 : s < 9216
  · exact brL_at brL_8 (by omega) (by omega)
  by_cases h9 : s < 10240
  · exact brL_at brL_9 (by omega) (by omega)
  by_cases h10 : s < 11264
  · exact brL_at brL_10 (by omega) (by omega)
  by_cases h11 : s < 12288
  · exact brL_at brL_11 (by omega) (by omega)
  by_cases h12 : s < 13312
  · exact brL_at brL_12 (by omega) (by omega)
  by_cases h13 : s < 14336
  · exact brL_at brL_13 (by omega) (by omega)
  by_cases h14 : s < 15360
  · exact brL_at brL_14 (by omega) (by omega)
  exact brL_at brL_15 (by omega) (by omega)
theorem pcB_front (s : Nat) : ∀ k, pcB s (k + 1) = s % 2 + pcB (s / 2) k
  | 0 => by
    show 0 + (s.testBit 0).toNat = s % 2 + 0
    rw [Nat.testBit_zero]
    by_cases h : s % 2 = 1
    · rw [decide_eq_true h, h]; rfl
    · rw [decide_eq_false h, show s % 2 = 0 by omega]; rfl
  | k + 1 => by
    show pcB s (k + 1) + (s.testBit (k + 1)).toNat = s % 2 + (pcB (s / 2) k + ((s / 2).testBit k).toNat)
    rw [pcB_front s k, Nat.testBit_succ, Nat.add_assoc]
theorem bn_pcK : ∀ (k s : Nat), k ≤ 15 → s < 2 ^ k → bnN s = pcB s k
  | 0, s, _, h => by
    rw [show s = 0 by have : s < 1 := h; omega]
    decide
  | k + 1, s, hk, h => by
    have h15 : (2 : Nat) ^ k ≤ 2 ^ 14 := Nat.pow_le_pow_right (by decide) (by omega)
    have e14 : (2 : Nat) ^ 14 = 16384 := by decide
    rw [Nat.pow_succ] at h
    have ih := bn_pcK k (s / 2) (by omega) (by omega)
    obtain ⟨a1, a2⟩ := bn_2 (s := s / 2) (by omega)
    rw [pcB_front, ← ih]
    rcases Nat.mod_two_eq_zero_or_one s with e | e
    · have e2 : 2 * (s / 2) = s := by omega
      rw [e2] at a1
      rw [a1, e, Nat.zero_add]
    · have e2 : 2 * (s / 2) + 1 = s := by omega
      rw [e2] at a2
      rw [a2, e, Nat.add_comm]
theorem bn_pc {s : Nat} (hs : s < 32768) : bnN s = pcB s 15 := bn_pcK 15 s (Nat.le_refl _) hs
theorem pcB_or {s e : Nat} : ∀ (k : Nat), (k ≤ e → pcB (s ||| 2 ^ e) k = pcB s k) ∧ (e < k → s.testBit e = false → pcB (s ||| 2 ^ e) k = pcB s k + 1)
  | 0 => ⟨fun _ => rfl, fun h => absurd h (Nat.not_lt_zero _)⟩
  | k + 1 => by
    obtain ⟨h1, h2⟩ := pcB_or (s := s) (e := e) k
    have hb : k ≠ e → (s ||| 2 ^ e).testBit k = s.testBit k := fun q => by
      rw [Nat.testBit_or, Nat.testBit_two_pow, decide_eq_false (fun z => q z.symm), Bool.or_false]
    refine ⟨fun h => ?_, fun h hf => ?_⟩
    · show pcB (s ||| 2 ^ e) k + ((s ||| 2 ^ e).testBit k).toNat = pcB s k + (s.testBit k).toNat
      rw [h1 (by omega), hb (by omega)]
    · show pcB (s ||| 2 ^ e) k + ((s ||| 2 ^ e).testBit k).toNat = pcB s k + (s.testBit k).toNat + 1
      by_cases q : k = e
      · rw [h1 (by omega), q, hf, Nat.testBit_or, Nat.testBit_two_pow_self, Bool.or_true]
        rfl
      · rw [h2 (by omega) hf, hb q]
        omega
theorem pcB_0 : ∀ k, pcB 0 k = 0
  | 0 => rfl
  | k + 1 => by
    show pcB 0 k + ((0 : Nat).testBit k).toNat = 0
    rw [pcB_0 k, Nat.zero_testBit]
    rfl
theorem pc_sky {d : Nat → Nat} : ∀ {n : Nat}, apart n d → pcB (skN d n) 15 = n
  | 0, _ => pcB_0 15
  | n + 1, h => by
    have ih := pc_sky (d := d) (n := n) ⟨fun k hk => h.1 k (by omega), fun i j hi hj e => h.2 i j (by omega) (by omega) e⟩
    have h14 := h.1 n (by omega)
    have hf : (skN d n).testBit (d n) = false := by
      cases q : (skN d n).testBit (d n) with
      | false => rfl
      | true =>
        obtain ⟨k, hk, e⟩ := skN_bit.mp q
        have := h.2 k n (by omega) (by omega) e
        omega
    show pcB (skN d n ||| 2 ^ d n) 15 = n + 1
    rw [(pcB_or 15).2 (by omega) hf, ih]
theorem bc_sky {n : Nat} {d : Nat → Nat} (ha : apart n d) : bcI (skyS n d) = nI n := by
  rw [skyS_N ha.1, bcI_N (skN_lt ha.1), bn_pc (skN_lt ha.1), pc_sky ha]
theorem fsO_some {α : Type} {f : Nat → Option α} {x : α} : ∀ (c h : Nat), fsO f c h = some x → ∃ i, h ≤ i ∧ i < h + c ∧ f i = some x
  | 0, _, e => by cases e
  | c + 1, h, e => by
    cases q : f h with
    | some y =>
      rw [fsO_s q] at e
      exact ⟨h, Nat.le_refl _, by omega, by rw [q]; exact e⟩
    | none =>
      rw [fsO_n q] at e
      obtain ⟨i, h1, h2, h3⟩ := fsO_some c (h + 1) e
      exact ⟨i, by omega, by omega, h3⟩
theorem ld_bc {n : Nat} {kd : Nat → Nat} {sky : Int32} (hk : kdok n kd) : ∀ (q : Nat) (d : Nat → Nat) (l : List Nat), apart n d → ldS n kd sky q d = some l → bcI sky = nI n
  | 0, d, l, ha, h => by
    by_cases hc : cmK n d sky = true
    · obtain ⟨b, hb, e⟩ := anyN_iff.mp hc
      have e' : skyS n (latS b d) = sky := of_decide_eq_true e
      rw [← e', bc_sky (apart_lat ha (fun k hk => by have := mnS_le (du := d) hk; omega))]
    · have h' : (if cmK n d sky = true then some [] else none) = some l := h
      rw [if_neg hc] at h'
      cases h'
  | q + 1, d, l, ha, h => by
    obtain ⟨i, h1, h2, h3⟩ := fsO_some 7 1 h
    by_cases hm : mayS n kd (rstS n d) (nI i) = true
    · rw [if_pos hm] at h3
      cases e : ldS n kd sky q (tosS n kd (rstS n d) i) with
      | none => rw [e] at h3; cases h3
      | some l' => exact ld_bc hk q _ l' (apart_tos (apart_rst ha) hk (by omega) hm) e
    · rw [if_neg hm] at h3
      cases h3
theorem fw_bc {n : Nat} {kd d : Nat → Nat} {sky : Int32} (hk : kdok n kd) (ha : apart n d) (h : ¬ bcI sky = nI n) : fwS n kd sky d = none := by
  cases e : fwS n kd sky d with
  | none => rfl
  | some x =>
    obtain ⟨i, h1, h2, h3⟩ := fsO_some 5 0 e
    cases q : ldS n kd sky i d with
    | none => rw [q] at h3; cases h3
    | some l => exact absurd (ld_bc hk i d l ha q) h
theorem skN_lat {d : Nat → Nat} {b : Nat} : ∀ {n : Nat}, (∀ k, k < n → b ≤ d k) → skN d n / 2 ^ b = skN (latS b d) n
  | 0, _ => Nat.zero_div _
  | n + 1, h => by
    have ih := skN_lat (d := d) (b := b) (n := n) (fun k hk => h k (by omega))
    have hn := h n (by omega)
    show (skN d n ||| 2 ^ d n) / 2 ^ b = skN (latS b d) n ||| 2 ^ (d n - b)
    rw [← Nat.shiftRight_eq_div_pow, Nat.shiftRight_or_distrib, Nat.shiftRight_eq_div_pow, Nat.shiftRight_eq_div_pow, ih, Nat.pow_div hn (by decide)]
theorem sky_shr {n b : Nat} {d : Nat → Nat} (ha : apart n d) (hb : b ≤ mnS d n) : skyS n d >>> (nI b &&& 31) = skyS n (latS b d) := by
  have h15 := mnS_15 (du := d) n
  have hd : ∀ k, k < n → b ≤ d k := fun k hk => by have := mnS_le (du := d) hk; omega
  have e1 : ((nI b &&& 31).toBitVec.smod 32).toNat = b := by
    have : ∀ q, q < 31 → ((nI q &&& 31).toBitVec.smod 32).toNat = q := by decide
    exact this b (by omega)
  have hl := skN_lt ha.1
  rw [skyS_N ha.1, skyS_N (apart_lat ha hd).1, pk_shrN (by omega) (nI b &&& 31) b e1, skN_lat hd]

theorem y_comesToSky {I : Nat → Int32} {F : Nat → Nat → Int32} {n : Nat} {kd : Nat → Nat} (hb : CBs I F n kd) (u v : Int64) {d : Nat → Nat} (ha : apart n d) (sky : Int32) : Am_Ev false 2 0 0 89 [.ref 14, .int (nI (pkN d n)), .int sky] (cH I F u v) (some (.int (b2 (cmK n d sky)))) (cH I F u v) := by
  refine am_ev 6 (some .boolean) false [22] ok_O_comesToSky am_mP_89 (by rw [am_m_89]) (by rw [am_m_89]) (fun h => by cases h) (Nat.le_of_ble_eq_true rfl) (fun Go hG => ?_)
  have hm15 : mnS d n ≤ 15 := mnS_15 n
  have L : ∀ (i b : Nat), b + i = mnS d n + 1 → (∀ b', b' < b → ¬ skyS n (latS b' d) = sky) → Go 22 [some (.ref 14), some (.int (nI (pkN d n))), some (.int sky), some (.int (nI (mnS d n))), some (.int (skyS n d)), some (.int (nI b))] [] (cH I F u v) 0 0 := by
    intro i
    induction i with
    | zero =>
      intro b hbi hno
      refine hG 200 _ _ _ _ _ _ ?_
      refine br_t (nI_lt (by omega) (by omega)) ?_
      have e : cmK n d sky = false := anyN_no (fun k hk => decide_eq_false (hno k (by omega)))
      exact ⟨Or.inl rfl, by rw [e]; rfl, rfl, rfl, rfl⟩
    | succ i ih =>
      intro b hbi hno
      have hsh := sky_shr ha (b := b) (by omega)
      refine hG 200 _ _ _ _ _ _ ?_
      refine br_f (nI_nlt (by omega) (by omega)) ?_
      refine And.intro (fun h1 => ?_) (fun h1 => ?_)
      · have h1' : ¬ skyS n d >>> (nI b &&& 31) = sky := h1
        rw [hsh] at h1'
        have h9 := ih (b + 1) (by omega) (fun b' hb' => by
          by_cases e : b' = b
          · rw [e]; exact h1'
          · exact hno b' (by omega))
        rw [← nI_s1 b] at h9
        exact h9
      · have h1' : skyS n d >>> (nI b &&& 31) = sky := h1
        rw [hsh] at h1'
        have e : cmK n d sky = true := anyN_iff.mpr ⟨b, by omega, decide_eq_true h1'⟩
        exact ⟨Or.inr rfl, by rw [e]; rfl, rfl, rfl, rfl⟩
  refine hG 200 _ _ _ _ _ _ ?_
  refine Exists.intro 1 (Exists.intro _ (Exists.intro _ ⟨by decide, y_rests hb u v ha, ?_⟩))
  refine Exists.intro 1 (Exists.intro _ (Exists.intro _ ⟨by decide, y_sky hb u v ha, ?_⟩))
  exact L (mnS d n + 1) 0 (by omega) (fun b' hb' => absurd hb' (Nat.not_lt_zero _))

theorem y_leadsTo {I : Nat → Int32} {F : Nat → Nat → Int32} {n : Nat} {kd : Nat → Nat} (hb : CBs I F n kd) (u v : Int64) (sky : Int32) (q : Nat) (hq : q ≤ 4) : ∀ (j k : Nat) (d : Nat → Nat) (p : Nat → Int32), k + j = q → apart n d → ∃ p', (∀ i, i < k → p' i = p i) ∧ (∀ l, ldS n kd sky j d = some l → ∀ i, i < j → p' (k + i) = nI (l.getD i 0)) ∧ Am_Ev false (3 + j) 0 0 88 [.ref 14, .int (nI (pkN d n)), .int sky, .int (nI k), .int (nI q)] (cH I (va_up F 15 p) u v) (some (.int (b2 (ldS n kd sky j d).isSome))) (cH I (va_up F 15 p') u v) := by
  have hkd : kdok n kd := fun i q => (hb.2.2.2 i q).2
  intro j
  induction j with
  | zero =>
    intro k d p hk ha
    have hb1 : CBs I (va_up F 15 p) n kd := hb
    have hcs := y_comesToSky hb1 u v ha sky
    have e : (ldS n kd sky 0 d).isSome = cmK n d sky := by
      show (if cmK n d sky = true then some [] else none : Option (List Nat)).isSome = _
      cases cmK n d sky <;> rfl
    rw [e]
    refine ⟨p, fun _ _ => rfl, fun l _ i hi => absurd hi (Nat.not_lt_zero _), am_ev 8 (some .boolean) false [42] ok_O_leadsTo am_mP_88 (by rw [am_m_88]) (by rw [am_m_88]) (fun h => by cases h) (Nat.le_of_ble_eq_true rfl) (fun Go hG => ?_)⟩
    refine hG 200 _ _ _ _ _ _ ?_
    refine br_t (nI_le (by omega) (by omega)) ?_
    refine Exists.intro (2) (Exists.intro _ (Exists.intro _ ⟨by omega, hcs, ?_⟩))
    exact ⟨b2_or _, rfl, rfl, rfl, rfl⟩
  | succ j ihj =>
    intro k d p hk ha
    have har := apart_rst ha
    have hb1 : CBs I (va_up F 15 p) n kd := hb
    have L : ∀ (i h : Nat) (p1 : Nat → Int32), h + i = 8 → 1 ≤ h → ∃ p', (∀ a, a < k → p' a = p1 a) ∧ (∀ l, fsO (fun h => if mayS n kd (rstS n d) (nI h) = true then (ldS n kd sky j (tosS n kd (rstS n d) h)).map (fun l => h :: l) else none) i h = some l → ∀ a, a < j + 1 → p' (k + a) = nI (l.getD a 0)) ∧ Rch cd_O_leadsTo [42] (3 + (j + 1)) (some .boolean) 42 [some (.ref 14), some (.int (nI (pkN d n))), some (.int sky), some (.int (nI k)), some (.int (nI q)), some (.int (nI (pkN (rstS n d) n))), some (.int (hgtS n kd (rstS n d))), some (.int (nI h))] [] (cH I (va_up F 15 p1) u v) (some (.int (b2 (fsO (fun h => if mayS n kd (rstS n d) (nI h) = true then (ldS n kd sky j (tosS n kd (rstS n d) h)).map (fun l => h :: l) else none) i h).isSome))) (cH I (va_up F 15 p') u v) := by
      intro i
      induction i with
      | zero =>
        intro h p1 hh h1
        refine ⟨p1, fun _ _ => rfl, fun l e => (by cases e), fun Go hG => ?_⟩
        refine hG 200 _ _ _ _ _ _ ?_
        refine br_t (nI_lt (by omega) (by omega)) ?_
        exact ⟨Or.inl rfl, rfl, rfl, rfl, rfl⟩
      | succ i ih =>
        intro h p1 hh h1
        rcases bit_hgt (p := mayS n kd (rstS n d)) (h := h) (by omega) with ⟨m1b, m2b⟩ | ⟨m1b, m2b⟩
        · have e : fsO (fun h => if mayS n kd (rstS n d) (nI h) = true then (ldS n kd sky j (tosS n kd (rstS n d) h)).map (fun l => h :: l) else none) (i + 1) h = fsO (fun h => if mayS n kd (rstS n d) (nI h) = true then (ldS n kd sky j (tosS n kd (rstS n d) h)).map (fun l => h :: l) else none) i (h + 1) := fsO_n (by rw [if_neg (by rw [m2b]; decide)])
          obtain ⟨p2, k1, k2, k3⟩ := ih (h + 1) p1 (by omega) (by omega)
          rw [e]
          refine ⟨p2, k1, k2, fun Go hG => ?_⟩
          have h9 := k3 Go hG
          rw [← nI_s1 h] at h9
          refine hG 200 _ _ _ _ _ _ ?_
          refine br_f (nI_nlt (by omega) (by omega)) ?_
          refine br_t m1b ?_
          exact h9
        · have hb2 : CBs I (va_up F 15 (upd p1 k (nI h))) n kd := hb
          have hct := y_thrown hb2 u v har h (by omega) m2b
          obtain ⟨p2, k1, k2, hrec⟩ := ihj (k + 1) (tosS n kd (rstS n d) h) (upd p1 k (nI h)) (by omega) (apart_tos har hkd (by omega) m2b)
          have e0 : (fun h => if mayS n kd (rstS n d) (nI h) = true then (ldS n kd sky j (tosS n kd (rstS n d) h)).map (fun l => h :: l) else none) h = (ldS n kd sky j (tosS n kd (rstS n d) h)).map (fun l => h :: l) := by dsimp only; rw [if_pos m2b]
          rw [← nI_s1 k] at hrec
          cases hl : ldS n kd sky j (tosS n kd (rstS n d) h) with
          | some l' =>
            rw [hl] at hrec e0
            have e : fsO (fun h => if mayS n kd (rstS n d) (nI h) = true then (ldS n kd sky j (tosS n kd (rstS n d) h)).map (fun l => h :: l) else none) (i + 1) h = some (h :: l') := fsO_s e0
            rw [e]
            refine ⟨p2, fun a ha2 => ?_, fun l el a ha2 => ?_, fun Go hG => ?_⟩
            · rw [k1 a (by omega), pk_un (by omega)]
            · cases el
              cases a with
              | zero =>
                show p2 k = nI h
                rw [k1 k (by omega), pk_us]
              | succ a =>
                rw [show k + (a + 1) = k + 1 + a by omega]
                exact k2 l' hl a (by omega)
            · refine hG 200 _ _ _ _ _ _ ?_
              refine br_f (nI_nlt (by omega) (by omega)) ?_
              refine br_f m1b ?_
              refine Exists.intro k ⟨by omega, rfl, ?_⟩
              refine Exists.intro (2) (Exists.intro _ (Exists.intro _ ⟨by omega, hct, ?_⟩))
              refine Exists.intro (3 + j) (Exists.intro _ (Exists.intro _ ⟨by omega, hrec, ?_⟩))
              refine br_f (show ¬ b2 true = 0 by decide) ?_
              exact ⟨Or.inr rfl, rfl, rfl, rfl, rfl⟩
          | none =>
            rw [hl] at hrec e0
            have e : fsO (fun h => if mayS n kd (rstS n d) (nI h) = true then (ldS n kd sky j (tosS n kd (rstS n d) h)).map (fun l => h :: l) else none) (i + 1) h = fsO (fun h => if mayS n kd (rstS n d) (nI h) = true then (ldS n kd sky j (tosS n kd (rstS n d) h)).map (fun l => h :: l) else none) i (h + 1) := fsO_n e0
            obtain ⟨p3, m1, m2, m3⟩ := ih (h + 1) p2 (by omega) (by omega)
            rw [e]
            refine ⟨p3, fun a ha2 => ?_, m2, fun Go hG => ?_⟩
            · rw [m1 a ha2, k1 a (by omega), pk_un (by omega)]
            · have h9 := m3 Go hG
              rw [← nI_s1 h] at h9
              refine hG 200 _ _ _ _ _ _ ?_
              refine br_f (nI_nlt (by omega) (by omega)) ?_
              refine br_f m1b ?_
              refine Exists.intro k ⟨by omega, rfl, ?_⟩
              refine Exists.intro (2) (Exists.intro _ (Exists.intro _ ⟨by omega, hct, ?_⟩))
              refine Exists.intro (3 + j) (Exists.intro _ (Exists.intro _ ⟨by omega, hrec, ?_⟩))
              refine br_t rfl ?_
              exact h9
    obtain ⟨p2, k1, k2, k3⟩ := L 7 1 p (by omega) (by omega)
    refine ⟨p2, k1, k2, am_ev 8 (some .boolean) false [42] ok_O_leadsTo am_mP_88 (by rw [am_m_88]) (by rw [am_m_88]) (fun h => by cases h) (Nat.le_of_ble_eq_true rfl) (fun Go hG => ?_)⟩
    have h9 := k3 Go hG
    refine hG 200 _ _ _ _ _ _ ?_
    refine br_f (nI_ge (by omega) (by omega)) ?_
    refine br_t (nI_lt (by omega) (by omega)) ?_
    refine Exists.intro (2) (Exists.intro _ (Exists.intro _ ⟨by omega, y_rested hb1 u v ha, ?_⟩))
    refine Exists.intro (2) (Exists.intro _ (Exists.intro _ ⟨by omega, y_heights hb1 u v har, ?_⟩))
    exact h9
def fwR (x : Option (Nat × List Nat)) : Int32 := match x with
  | none => -nI 9
  | some y => nI y.1

theorem l_O_few {I : Nat → Int32} {F : Nat → Nat → Int32} {n : Nat} {kd : Nat → Nat} (hb : CBs I F n kd) (u v : Int64) {d : Nat → Nat} (ha : apart n d) (sky : Int32) : ∀ (j q : Nat) (p : Nat → Int32), q + j = 5 → ∃ p', (∀ q' l, fsO (fun q => (ldS n kd sky q d).map (fun l => (q, l))) j q = some (q', l) → ∀ i, i < q' → p' i = nI (l.getD i 0)) ∧ Rch cd_O_fewestTo [19] 8 (some .int) 19 [some (.ref 14), some (.int (nI (pkN d n))), some (.int sky), some (.int (nI q))] [] (cH I (va_up F 15 p) u v) (some (.int (fwR (fsO (fun q => (ldS n kd sky q d).map (fun l => (q, l))) j q)))) (cH I (va_up F 15 p') u v) := by
  intro j
  induction j with
  | zero =>
    intro q p hq
    refine ⟨p, fun q' l h => (by cases h), fun Go hG => ?_⟩
    refine hG 200 _ _ _ _ _ _ ?_
    refine br_t (nI_lt (by omega) (by omega)) ?_
    exact ⟨rfl, rfl, rfl, rfl⟩
  | succ j ih =>
    intro q p hq
    obtain ⟨p2, k1, k2, hrec⟩ := y_leadsTo hb u v sky q (by omega) q 0 d p (by omega) ha
    cases hl : ldS n kd sky q d with
    | some l =>
      have e : fsO (fun q => (ldS n kd sky q d).map (fun l => (q, l))) (j + 1) q = some (q, l) := fsO_s (by rw [hl]; rfl)
      rw [e]
      rw [hl] at hrec
      refine ⟨p2, fun q' l2 h i hi => ?_, fun Go hG => ?_⟩
      · cases h
        have := k2 l hl i hi
        rw [Nat.zero_add] at this
        exact this
      · refine hG 200 _ _ _ _ _ _ ?_
        refine br_f (nI_nlt (by omega) (by omega)) ?_
        refine Exists.intro (3 + q) (Exists.intro _ (Exists.intro _ ⟨by omega, hrec, ?_⟩))
        refine br_f (show ¬ b2 true = 0 by decide) ?_
        exact ⟨rfl, rfl, rfl, rfl⟩
    | none =>
      have e : fsO (fun q => (ldS n kd sky q d).map (fun l => (q, l))) (j + 1) q = fsO (fun q => (ldS n kd sky q d).map (fun l => (q, l))) j (q + 1) := fsO_n (by rw [hl]; rfl)
      rw [e]
      rw [hl] at hrec
      obtain ⟨p3, m1, m2⟩ := ih (q + 1) p2 (by omega)
      refine ⟨p3, m1, fun Go hG => ?_⟩
      have h9 := m2 Go hG
      rw [← nI_s1 q] at h9
      refine hG 200 _ _ _ _ _ _ ?_
      refine br_f (nI_nlt (by omega) (by omega)) ?_
      refine Exists.intro (3 + q) (Exists.intro _ (Exists.intro _ ⟨by omega, hrec, ?_⟩))
      refine br_t rfl ?_
      exact h9
theorem y_fewestTo {I : Nat → Int32} {F : Nat → Nat → Int32} {n : Nat} {kd : Nat → Nat} (hb : CBs I F n kd) (u v : Int64) {d : Nat → Nat} (ha : apart n d) (sky : Int32) : ∃ p', (∀ q l, fwS n kd sky d = some (q, l) → ∀ i, i < q → p' i = nI (l.getD i 0)) ∧ Am_Ev false 8 0 0 86 [.ref 14, .int (nI (pkN d n)), .int sky] (cH I F u v) (some (.int (fwR (fwS n kd sky d)))) (cH I (va_up F 15 p') u v) := by
  have hkd : kdok n kd := fun i q => (hb.2.2.2 i q).2
  have hI : I 22 = nI n := hb.1
  by_cases hc : bcI sky = nI n
  · obtain ⟨p2, k1, k2⟩ := l_O_few hb u v ha sky 5 0 (F 15) (by omega)
    rw [va_up_same] at k2
    refine ⟨p2, k1, am_ev 4 (some .int) false [19] ok_O_fewestTo am_mP_86 (by rw [am_m_86]) (by rw [am_m_86]) (fun h => by cases h) (Nat.le_of_ble_eq_true rfl) (fun Go hG => ?_)⟩
    refine hG 200 _ _ _ _ _ _ ?_
    refine Exists.intro 0 (Exists.intro _ (Exists.intro _ ⟨by decide, c_Int_bitCount _ sky, ?_⟩))
    refine br_t (by show bcI sky = I 22; rw [hI]; exact hc) ?_
    exact k2 Go hG
  · have e := fw_bc hkd ha hc
    rw [e]
    refine ⟨F 15, fun q l h => (by cases h), am_ev 4 (some .int) false [19] ok_O_fewestTo am_mP_86 (by rw [am_m_86]) (by rw [am_m_86]) (fun h => by cases h) (Nat.le_of_ble_eq_true rfl) (fun Go hG => ?_)⟩
    rw [va_up_same] at hG
    refine hG 200 _ _ _ _ _ _ ?_
    refine Exists.intro 0 (Exists.intro _ (Exists.intro _ ⟨by decide, c_Int_bitCount _ sky, ?_⟩))
    refine br_f (by show ¬ bcI sky = I 22; rw [hI]; exact hc) ?_
    exact ⟨rfl, rfl, rfl, rfl⟩
theorem RCx_pth {I : Nat → Int32} {F : Nat → Nat → Int32} {S : Sta} {r q : Nat} {l : List Nat} {g : Nat → Int32} (hx : RCx I F S) (hr : r ≤ 5) (hq : q ≤ 4) (hg : ∀ i, i < q → g i = nI (l.getD i 0)) : RCx (upd I (60 + r) (nI q)) (va_up F (19 + 2 * r) g) (sR S (upd S.2.1.1 r (nI q), pth S.2.1.2 r q l)) := by
  obtain ⟨hs, hr2, ht, hl⟩ := hx
  refine ⟨skyC_congr hs (fun z hz => pk_un (by omega)) (fun z hz => va_up_ne _ _ (by omega)), fun a ha => ?_, txtC_congr ht (fun z hz => pk_un (by omega)) (fun z hz => va_up_ne _ _ (by omega)), by rw [pk_un (by omega)]; exact hl.1, by rw [pk_un (by omega)]; exact hl.2.1, fun f hf => ?_⟩
  · obtain ⟨g1, g2, g3⟩ := hr2 a ha
    show upd I (60 + r) (nI q) (60 + a) = upd S.2.1.1 r (nI q) a ∧ szOk 40 (upd S.2.1.1 r (nI q) a) ∧ ∀ i, i < nat (upd S.2.1.1 r (nI q) a) → va_up F (19 + 2 * r) g (19 + 2 * a) i = pth S.2.1.2 r q l a i
    by_cases e : a = r
    · subst e
      have e1 : upd S.2.1.1 a (nI q) a = nI q := pk_us
      rw [e1, pk_us, nat_nI (by omega), va_up_self]
      refine ⟨rfl, Or.inr ⟨q, by omega, rfl⟩, fun i hi => ?_⟩
      unfold pth
      rw [if_pos ⟨rfl, hi⟩]
      exact hg i hi
    · have e1 : upd S.2.1.1 r (nI q) a = S.2.1.1 a := pk_un e
      rw [e1, pk_un (by omega), va_up_ne _ _ (by omega)]
      refine ⟨g1, g2, fun i hi => ?_⟩
      unfold pth
      rw [if_neg (fun z => e z.1)]
      exact g3 i hi
  · rw [va_up_ne _ _ (by omega)]
    exact hl.2.2 f hf
theorem RCx_15 {I : Nat → Int32} {F : Nat → Nat → Int32} {S : Sta} (hx : RCx I F S) (p : Nat → Int32) : RCx I (va_up F 15 p) S := by
  have h := RCx_try hx (I 23) (I 24) p
  have e : upd (upd I 23 (I 23)) 24 (I 24) = I := by
    funext q
    unfold upd
    split
    · rename_i e; rw [e]
    · split
      · rename_i e; rw [e]
      · rfl
  rw [e] at h
  exact h

theorem pc_T_fewest (S : Sta) (hp : List Am_C) (hRM : RC S hp) (sky r : Int32) : ∃ hp', Am_Ev false 9 0 0 84 [.ref 0, .int sky, .int r] hp (some (.int (spFewest S sky r).1)) hp' ∧ RC (spFewest S sky r).2 hp' := by
  obtain ⟨I, F, rfl, hx⟩ := hRM
  obtain ⟨hs, hr, ht, hl⟩ := id hx
  have hI : I 22 = nI (eN S) := hs.1
  have hn : eN S ≤ 6 := hs.2.1
  unfold spFewest
  by_cases hn0 : eN S = 0
  · rw [if_pos hn0]
    refine ⟨_, am_ev 4 (some .int) false [] ok_T_fewest am_mP_84 (by rw [am_m_84]) (by rw [am_m_84]) (fun h => by cases h) (Nat.le_of_ble_eq_true rfl) (fun Go hG => ?_), RC_of hx⟩
    refine hG 200 _ _ _ _ _ _ ?_
    refine bn_f (by rw [hI, hn0]; rfl) ?_
    exact ⟨rfl, rfl, rfl, rfl⟩
  · rw [if_neg hn0]
    have hI0 : ¬ I 22 = 0 := by rw [hI]; exact fun q => hn0 ((nI_z (by omega)).mp q)
    have hb := CBs_of hx hn0
    have hap : apart (eN S) (duE (eE S)) := hs.2.2.2.2.1 _ (Nat.le_refl _)
    have h30 : I 30 = nI (pkN (duE (eE S)) (eN S)) := hs.2.2.2.1.2.2.1
    have hsy := c_T_isSky (cH I F S.2.2.2.2.2.2.1 S.2.2.2.2.2.2.2) sky
    have hrw := c_T_isRow (cH I F S.2.2.2.2.2.2.1 S.2.2.2.2.2.2.2) r
    cases ho : okS sky with
    | false =>
      rw [if_pos rfl]
      rw [show in3 sky (nI 0) (nI 65535) = false from ho] at hsy
      refine ⟨_, am_ev 4 (some .int) false [] ok_T_fewest am_mP_84 (by rw [am_m_84]) (by rw [am_m_84]) (fun h => by cases h) (Nat.le_of_ble_eq_true rfl) (fun Go hG => ?_), RC_of hx⟩
      refine hG 200 _ _ _ _ _ _ ?_
      refine bn_t hI0 ?_
      refine Exists.intro 0 (Exists.intro _ (Exists.intro _ ⟨by decide, hsy, ?_⟩))
      refine br_t rfl ?_
      exact ⟨rfl, rfl, rfl, rfl⟩
    | true =>
      rw [if_neg (by decide)]
      rw [show in3 sky (nI 0) (nI 65535) = true from ho] at hsy
      cases ho2 : okR r with
      | false =>
        rw [if_pos rfl]
        rw [show in3 r (nI 0) (nI 5) = false from ho2] at hrw
        refine ⟨_, am_ev 4 (some .int) false [] ok_T_fewest am_mP_84 (by rw [am_m_84]) (by rw [am_m_84]) (fun h => by cases h) (Nat.le_of_ble_eq_true rfl) (fun Go hG => ?_), RC_of hx⟩
        refine hG 200 _ _ _ _ _ _ ?_
        refine bn_t hI0 ?_
        refine Exists.intro 0 (Exists.intro _ (Exists.intro _ ⟨by decide, hsy, ?_⟩))
        refine br_f (by decide) ?_
        refine Exists.intro 0 (Exists.intro _ (Exists.intro _ ⟨by decide, hrw, ?_⟩))
        refine bn_f rfl ?_
        exact ⟨rfl, rfl, rfl, rfl⟩
      | true =>
        rw [if_neg (by decide)]
        rw [show in3 r (nI 0) (nI 5) = true from ho2] at hrw
        obtain ⟨j, -, hj, rfl⟩ := in3_nat (by decide) (by decide) ho2
        rw [nat_nI (by omega)]
        obtain ⟨p2, hp2, hfw⟩ := y_fewestTo hb S.2.2.2.2.2.2.1 S.2.2.2.2.2.2.2 hap sky
        rw [← h30] at hfw
        cases hf : fwS (eN S) (eK S) sky (duE (eE S)) with
        | none =>
          rw [hf] at hfw
          refine ⟨_, am_ev 4 (some .int) false [] ok_T_fewest am_mP_84 (by rw [am_m_84]) (by rw [am_m_84]) (fun h => by cases h) (Nat.le_of_ble_eq_true rfl) (fun Go hG => ?_), RC_of (RCx_15 hx p2)⟩
          refine hG 200 _ _ _ _ _ _ ?_
          refine bn_t hI0 ?_
          refine Exists.intro 0 (Exists.intro _ (Exists.intro _ ⟨by decide, hsy, ?_⟩))
          refine br_f (by decide) ?_
          refine Exists.intro 0 (Exists.intro _ (Exists.intro _ ⟨by decide, hrw, ?_⟩))
          refine bn_t (by decide) ?_
          refine Exists.intro 8 (Exists.intro _ (Exists.intro _ ⟨by decide, hfw, ?_⟩))
          refine bn_f rfl ?_
          exact ⟨rfl, rfl, rfl, rfl⟩
        | some ql =>
          obtain ⟨q, l⟩ := ql
          rw [hf] at hfw
          have hq4 := (fwS_ok hf).1
          have hx2 := RCx_pth (l := l) (g := va_cpy p2 (fillF (va_up F 15 p2 (19 + 2 * j)) 0 q (nI 0)) 0 0 q) (RCx_15 hx p2) hj hq4 (fun i hi => by rw [pk_cpy_in (by omega) (by omega), show 0 + (i - 0) = i by omega]; exact hp2 q l hf i hi)
          have hbg := c_S_begin (cH I (va_up F 15 p2) S.2.2.2.2.2.2.1 S.2.2.2.2.2.2.2) (18 + 2 * j) (19 + 2 * j) _ (cH_row (by omega)) 40 q _ (nI 0) (by omega) (cH_rowc (by omega)) (by omega) (by omega)
          rw [cH_rows (by omega), cH_rowcs (by omega)] at hbg
          have e15 : va_up (va_up F 15 p2) (19 + 2 * j) (fillF (va_up F 15 p2 (19 + 2 * j)) 0 q (nI 0)) 15 = p2 := by rw [va_up_ne _ _ (by omega), va_up_self]
          refine ⟨_, am_ev 4 (some .int) false [] ok_T_fewest am_mP_84 (by rw [am_m_84]) (by rw [am_m_84]) (fun h => by cases h) (Nat.le_of_ble_eq_true rfl) (fun Go hG => ?_), RC_of hx2⟩
          refine hG 200 _ _ _ _ _ _ ?_
          refine bn_t hI0 ?_
          refine Exists.intro 0 (Exists.intro _ (Exists.intro _ ⟨by decide, hsy, ?_⟩))
          refine br_f (by decide) ?_
          refine Exists.intro 0 (Exists.intro _ (Exists.intro _ ⟨by decide, hrw, ?_⟩))
          refine bn_t (by decide) ?_
          refine Exists.intro 8 (Exists.intro _ (Exists.intro _ ⟨by decide, hfw, ?_⟩))
          refine bn_t (nI_m9 (by show q < 100; omega)) ?_
          refine Exists.intro j (Exists.intro (18 + 2 * j) ⟨by omega, rfl, rfR_at (by omega), ?_⟩)
          refine am_vt (cH_row (by omega)) rfl ?_
          refine Exists.intro 1 (Exists.intro _ (Exists.intro _ ⟨by decide, hbg, ?_⟩))
          refine Exists.intro j (Exists.intro (18 + 2 * j) ⟨by omega, rfl, rfR_at (by omega), ?_⟩)
          refine am_ob_of (cH_row (by omega)) ?_
          refine am_ai_of (cH_rowc (by omega)) rfl ?_
          refine Exists.intro q (Exists.intro 0 (Exists.intro 0 ⟨rfl, rfl, rfl, by omega, by omega, ?_⟩))
          refine ⟨rfl, ?_, rfl, rfl⟩
          show (cH (upd I (60 + j) (nI q)) (va_up (va_up F 15 p2) (19 + 2 * j) (fillF (va_up F 15 p2 (19 + 2 * j)) 0 q (nI 0))) S.2.2.2.2.2.2.1 S.2.2.2.2.2.2.2).set (19 + 2 * j) (.inl (0, 40, .inl (va_cpy ((va_up (va_up F 15 p2) (19 + 2 * j) (fillF (va_up F 15 p2 (19 + 2 * j)) 0 q (nI 0))) 15) ((va_up (va_up F 15 p2) (19 + 2 * j) (fillF (va_up F 15 p2 (19 + 2 * j)) 0 q (nI 0))) (19 + 2 * j)) 0 0 q))) = _
          rw [e15, va_up_self, cH_rowcs (by omega), va_up_up]
          rfl

