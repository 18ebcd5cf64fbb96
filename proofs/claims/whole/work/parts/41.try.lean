/-! ===== what is only tried ===== -/
/-- from here the method comes to that end -/
def Rch (cd : List Am_E) (cuts : List Nat) (d : Nat) (rt : Option FieldType) (pc : Nat) (loc : List (Option Value)) (st : List Value) (hp : List Am_C) (r : Option Value) (hp' : List Am_C) : Prop := ∀ Go : Am_K, (∀ (n pc : Nat) (loc : List (Option Value)) (st : List Value) (hp : List Am_C) (nc ns : Nat), am_blk cd cuts d 0 0 false false rt (am_post r hp' 0 0) Go n pc loc st hp nc ns → Go pc loc st hp nc ns) → Go pc loc st hp 0 0
theorem mnS_congr {du dv : Nat → Nat} : ∀ {n : Nat}, (∀ k, k < n → du k = dv k) → mnS du n = mnS dv n
  | 0, _ => rfl
  | n + 1, h => by
    have ih := mnS_congr (n := n) (fun k hk => h k (by omega))
    unfold mnS
    rw [ih, h n (by omega)]
theorem latI_at {x n : Nat} (hn : n ≤ 6) : ∀ (r : Nat) (w : Nat → Int32) (du : Nat → Nat), (∀ k, k < n → w (x + k) = nI (du k)) → (∀ k, k < n → r ≤ du k) → ∀ k, k < n → latI r w x n (x + k) = nI (latS r du k)
  | 0, w, du, h, _, k, hk => h k hk
  | r + 1, w, du, h, hr, k, hk => by
    have ih := latI_at hn r (latF w x n) (latS 1 du) (fun k hk => by
      rw [latF_at hk hn, h k hk]
      exact pk_sub (by have := hr k hk; omega)) (fun k hk => by have := hr k hk; show r ≤ du k - 1; omega) k hk
    show latI r (latF w x n) x n (x + k) = _
    rw [ih]
    show nI (du k - 1 - r) = nI (du k - (r + 1))
    congr 1
    omega
theorem latI_out {x n j : Nat} (hn : n ≤ 6) (hj : j < x ∨ x + 13 ≤ j) : ∀ (r : Nat) (w : Nat → Int32), latI r w x n j = w j
  | 0, w => rfl
  | r + 1, w => by
    show latI r (latF w x n) x n j = w j
    rw [latI_out hn hj r, latF_out hn hj]
/-- the tried row of w holds du, the rest of it is as it was -/
def TW (n : Nat) (du : Nat → Nat) (w0 w : Nat → Int32) : Prop := (∀ k, k < n → w (2136 + k) = nI (du k)) ∧ ∀ j, j < 2136 → w j = w0 j
def MBs (I : Nat → Int32) (F : Nat → Nat → Int32) (n : Nat) (kd du : Nat → Nat) : Prop := I 2 = nI n ∧ n ≤ 6 ∧ 0 < n ∧ (∀ i, i < n → F 2 i = nI (kd i) ∧ kd i < 6) ∧ (∀ k, k < n → F 1 k = nI (du k)) ∧ apart n du
theorem mn_no {n b : Nat} {du : Nat → Nat} (hd : ∀ k, k < n → du k ≤ 14) (h : b < mnS du n) : ¬ dueS n (latS b du) < n := by
  intro q
  have h1 := dueS_z (fun k hk => by have := hd k hk; show du k - b ≤ 14; omega) q
  have h2 := mnS_le (du := du) q
  unfold latS at h1
  unfold latS at h2
  omega
def kdok (n : Nat) (kd : Nat → Nat) : Prop := ∀ i, i < n → kd i < 6
/-- the throws of a row, one behind the other; how many are made, what is due then -/
def thS (n : Nat) (kd hs : Nat → Nat) : Nat → Nat → (Nat → Nat) → Nat × (Nat → Nat)
  | 0, k, du => (k, du)
  | j + 1, k, du => if mayS n kd (rstS n du) (nI (hs k)) = true then thS n kd hs j (k + 1) (tosS n kd (rstS n du) (hs k)) else (k, rstS n du)
theorem thS_ok {n : Nat} {kd hs : Nat → Nat} (hk : kdok n kd) : ∀ (j k : Nat) (du : Nat → Nat), (∀ i, k ≤ i → i < k + j → 1 ≤ hs i ∧ hs i ≤ 7) → apart n du → apart n (thS n kd hs j k du).2 ∧ k ≤ (thS n kd hs j k du).1 ∧ (thS n kd hs j k du).1 ≤ k + j
  | 0, k, du, _, h => ⟨h, Nat.le_refl _, Nat.le_refl _⟩
  | j + 1, k, du, hh, h => by
    unfold thS
    split
    · rename_i hm
      have ih := thS_ok hk j (k + 1) (tosS n kd (rstS n du) (hs k)) (fun i h1 h2 => hh i (by omega) (by omega)) (apart_tos (apart_rst h) hk (hh k (by omega) (by omega)) hm)
      exact ⟨ih.1, by omega, by omega⟩
    · exact ⟨apart_rst h, Nat.le_refl _, by show k ≤ k + (j + 1); omega⟩
/-- what is wrong with a row of heights -/
def allH (c : Nat → Int32) : Nat → Bool
  | 0 => true
  | z + 1 => allH c z && okH (c z)
theorem allH_at {c : Nat → Int32} {i : Nat} : ∀ {z : Nat}, allH c z = true → i < z → okH (c i) = true
  | 0, _, h => absurd h (Nat.not_lt_zero _)
  | z + 1, h, hi => by
    have h' : (allH c z && okH (c z)) = true := h
    rw [Bool.and_eq_true] at h'
    by_cases e : i = z
    · rw [e]; exact h'.2
    · exact allH_at h'.1 (by omega)
def wrHc (S : Sta) (r : Int32) (lo hi : Nat) : Nat := if okR r = false then 9 else if rz S (nat r) < 0 then 1 else if in3 (rz S (nat r)) (nI lo) (nI hi) = false then 5 else if allH (rc S (nat r)) (nat (rz S (nat r))) = false then 3 else 0
def wrV (c : Nat) : Int32 := if c = 0 then nI 0 else if c = 9 then -nI 1 else -nI 3
theorem wrV_neg {c : Nat} (h : ¬ c = 0) : ¬ 0 ≤ wrV c ∧ ¬ wrV c = 0 := by
  unfold wrV
  rw [if_neg h]
  split <;> exact ⟨by decide, by decide⟩
def fdS (S : Sta) (c : Nat) : Sta := if c = 9 then S else fndS S c
def refS (S : Sta) (c : Nat) (k : Int32 × Sta) : Int32 × Sta := if c = 0 then k else (wrV c, fdS S c)
def mFd (I : Nat → Int32) (F : Nat → Nat → Int32) (u v : Int64) (c : Nat) : List Am_C := if c = 0 ∨ c = 9 then mH I F u v else mH (upd I 11 (nI c)) (va_up F 8 (upd (F 8) c (F 8 c + nI 1))) u v
theorem RM_fd {I : Nat → Int32} {F : Nat → Nat → Int32} {S : Sta} (h : RMx I F S) {c : Nat} (h0 : ¬ c = 0) (hc : c < 6 ∨ c = 9) : RM (fdS S c) (mFd I F S.2.2.2.2.2.2.1 S.2.2.2.2.2.2.2 c) := by
  unfold fdS mFd
  by_cases e : c = 9
  · rw [if_pos e, if_pos (Or.inr e)]; exact RM_of h
  · rw [if_neg e, if_neg (by omega)]; exact RM_fnd h (by omega)
theorem wrHc_or (S : Sta) (r : Int32) (lo hi : Nat) : wrHc S r lo hi < 6 ∨ wrHc S r lo hi = 9 := by
  unfold wrHc
  repeat' split
  all_goals omega
theorem RMx_try {I : Nat → Int32} {F : Nat → Nat → Int32} {S : Sta} {w : Nat → Int32} (hx : RMx I F S) (e : ∀ j, j < 2136 → w j = F 1 j) : RMx I (va_up F 1 w) S := by
  obtain ⟨⟨g1, g2, g3, g4, g5, g6⟩, hr, ht, hl⟩ := hx
  refine ⟨⟨g1, g2, g3, evM_congr g4 g2 (fun j h1 h2 => e j (by omega)), g5, fun q hq => ?_⟩, hr, ht, hl⟩
  have g7 := g6 q hq
  show match eP S q with
    | none => F 3 q = -nI 1
    | some E => F 3 q = nI E.1 ∧ evM w (534 * (q + 1)) (eN S) E ∧ gdE (eN S) E
  have g8 : match eP S q with
    | none => F 3 q = -nI 1
    | some E => F 3 q = nI E.1 ∧ evM (F 1) (534 * (q + 1)) (eN S) E ∧ gdE (eN S) E := g7
  cases he : eP S q with
  | none => rw [he] at g8; exact g8
  | some E2 =>
    rw [he] at g8
    obtain ⟨a1, a2, a3⟩ := g8
    exact ⟨a1, evM_congr a2 g2 (fun j h3 h4 => e j (by omega)), a3⟩
theorem MBs_of {I : Nat → Int32} {F : Nat → Nat → Int32} {S : Sta} (hx : RMx I F S) (h0 : ¬ eN S = 0) : MBs I F (eN S) (eK S) (duE (eE S)) := by
  obtain ⟨⟨g1, g2, g3, g4, g5, g6⟩, hr, ht, hl⟩ := hx
  refine ⟨g1, g2, by omega, g3, fun k hk => ?_, g5 _ (Nat.le_refl _)⟩
  have h := (g4.2.2.1 k hk).1
  rw [Nat.zero_add] at h
  exact h

theorem x_begin {I : Nat → Int32} {F : Nat → Nat → Int32} {n : Nat} {kd du : Nat → Nat} (hb : MBs I F n kd du) (u v : Int64) {w : Nat → Int32} (hl : ∀ j, j < 2136 → w j = F 1 j) : ∃ w', Am_Ev false 1 0 0 182 [.ref 0] (mH I (va_up F 1 w) u v) none (mH I (va_up F 1 w') u v) ∧ TW n du (F 1) w' := by
  obtain ⟨hI, hn, h0, hk, hd, ha⟩ := hb
  have h := c_M_beginTry I (va_up F 1 w) u v
  rw [va_up_self, va_up_up] at h
  refine ⟨_, h, fun k hk => ?_, fun j hj => ?_⟩
  · rw [pk_cpy_in (by omega) (by omega), show 0 + (2136 + k - 2136) = k by omega, hl k (by omega)]
    exact hd k hk
  · rw [pk_cpy_out (by omega)]
    exact hl j hj
theorem x_sky {I : Nat → Int32} {F : Nat → Nat → Int32} {n : Nat} {kd du : Nat → Nat} (hb : MBs I F n kd du) (u v : Int64) {w : Nat → Int32} {d : Nat → Nat} (hw : TW n d (F 1) w) : Am_Ev false 0 0 0 165 [.ref 0, .int (nI 2136)] (mH I (va_up F 1 w) u v) (some (.int (skyS n d))) (mH I (va_up F 1 w) u v) := by
  have h := c_M_skyAt I (va_up F 1 w) u v n 2136 hb.1 hb.2.1 (by omega)
  rw [skyG_congr (g := fun i => va_up F 1 w 1 (2136 + i)) (h := gN d) (fun k hk => hw.1 k hk)] at h
  exact h
theorem x_sum {I : Nat → Int32} {F : Nat → Nat → Int32} {n : Nat} {kd du : Nat → Nat} (hb : MBs I F n kd du) (u v : Int64) {w : Nat → Int32} {d : Nat → Nat} (hw : TW n d (F 1) w) : Am_Ev false 0 0 0 202 [.ref 0, .int (nI 2136)] (mH I (va_up F 1 w) u v) (some (.int (sumS n d))) (mH I (va_up F 1 w) u v) := by
  have h := c_M_sumAt I (va_up F 1 w) u v n 2136 hb.1 hb.2.1 (by omega)
  rw [sumG_congr (g := fun i => va_up F 1 w 1 (2136 + i)) (h := gN d) (fun k hk => hw.1 k hk)] at h
  exact h
theorem x_due {I : Nat → Int32} {F : Nat → Nat → Int32} {n : Nat} {kd du : Nat → Nat} (hb : MBs I F n kd du) (u v : Int64) {w : Nat → Int32} {d : Nat → Nat} (hw : TW n d (F 1) w) : Am_Ev false 0 0 0 164 [.ref 0, .int (nI 2136)] (mH I (va_up F 1 w) u v) (some (.int (dueR n (dueS n d)))) (mH I (va_up F 1 w) u v) := by
  have h := c_M_dueAt I (va_up F 1 w) u v n 2136 hb.1 hb.2.1 (by omega)
  rw [dueG_congr (g := fun i => va_up F 1 w 1 (2136 + i)) (h := gN d) (fun k hk => hw.1 k hk) n 0 (by omega)] at h
  exact h
theorem x_may {I : Nat → Int32} {F : Nat → Nat → Int32} {n : Nat} {kd du : Nat → Nat} (hb : MBs I F n kd du) (u v : Int64) {w : Nat → Int32} {d : Nat → Nat} (hw : TW n d (F 1) w) (z : Int32) : Am_Ev false 1 0 0 163 [.ref 0, .int (nI 2136), .int z] (mH I (va_up F 1 w) u v) (some (.int (b2 (mayS n kd d z)))) (mH I (va_up F 1 w) u v) := by
  have h := c_M_mayAt I (va_up F 1 w) u v n 2136 z hb.1 hb.2.1 (by omega)
  rw [mayG_congr (g := fun i => va_up F 1 w 1 (2136 + i)) (h := gN d) (kf := va_up F 1 w 2) (kh := gN kd) (fun k hk => hw.1 k hk) (fun k hk => (hb.2.2.2.1 k hk).1)] at h
  exact h
theorem x_heights {I : Nat → Int32} {F : Nat → Nat → Int32} {n : Nat} {kd du : Nat → Nat} (hb : MBs I F n kd du) (u v : Int64) {w : Nat → Int32} {d : Nat → Nat} (hw : TW n d (F 1) w) : Am_Ev false 2 0 0 179 [.ref 0, .int (nI 2136)] (mH I (va_up F 1 w) u v) (some (.int (hgtS n kd d))) (mH I (va_up F 1 w) u v) := by
  have h := c_M_heightsAt I (va_up F 1 w) u v n 2136 hb.1 hb.2.1 (by omega)
  rw [hgtG_congr (q := mayS n kd d) (fun z => mayG_congr (g := fun i => va_up F 1 w 1 (2136 + i)) (h := gN d) (kf := va_up F 1 w 2) (kh := gN kd) (fun k hk => hw.1 k hk) (fun k hk => (hb.2.2.2.1 k hk).1) z)] at h
  exact h
theorem x_later {I : Nat → Int32} {F : Nat → Nat → Int32} {n : Nat} {kd du : Nat → Nat} (hb : MBs I F n kd du) (u v : Int64) {w : Nat → Int32} {d : Nat → Nat} (hw : TW n d (F 1) w) (h1 : ∀ k, k < n → 1 ≤ d k) : ∃ w', Am_Ev false 0 0 0 170 [.ref 0, .int (nI 2136)] (mH I (va_up F 1 w) u v) none (mH I (va_up F 1 w') u v) ∧ TW n (latS 1 d) (F 1) w' := by
  have h := c_M_later I (va_up F 1 w) u v n 2136 hb.1 hb.2.1 (by omega)
  rw [va_up_self, va_up_up] at h
  refine ⟨_, h, fun k hk => ?_, fun j hj => ?_⟩
  · rw [latF_at hk hb.2.1, hw.1 k hk]
    exact pk_sub (h1 k hk)
  · rw [latF_out hb.2.1 (by omega)]
    exact hw.2 j hj
theorem x_rests {I : Nat → Int32} {F : Nat → Nat → Int32} {n : Nat} {kd du : Nat → Nat} (hb : MBs I F n kd du) (u v : Int64) {w : Nat → Int32} {d : Nat → Nat} (hw : TW n d (F 1) w) (ha : apart n d) : ∃ w', Am_Ev false 1 0 0 183 [.ref 0, .int (nI 2136)] (mH I (va_up F 1 w) u v) none (mH I (va_up F 1 w') u v) ∧ TW n (rstS n d) (F 1) w' := by
  have hn := hb.2.1
  have e1 : ∀ q, q ≤ mnS d n → ∀ k, k < n → latI q (va_up F 1 w 1) 2136 n (2136 + k) = nI (latS q d k) := fun q hq => latI_at hn q _ d hw.1 (fun k hk => by have := mnS_le (du := d) hk; omega)
  have h := c_M_restsAt (mnS d n) I (va_up F 1 w) u v n 2136 hb.1 hn (by omega) (fun q hq => ?_) ?_
  · rw [va_up_self, va_up_up] at h
    refine ⟨_, h, fun k hk => e1 _ (Nat.le_refl _) k hk, fun j hj => ?_⟩
    rw [latI_out hn (by omega)]
    exact hw.2 j hj
  · rw [dueG_congr (h := gN (latS q d)) (fun k hk => e1 q (by omega) k hk) n 0 (by omega)]
    exact mn_no ha.1 hq
  · rw [dueG_congr (h := gN (latS (mnS d n) d)) (fun k hk => e1 _ (Nat.le_refl _) k hk) n 0 (by omega)]
    exact rstS_due ha.1 hb.2.2.1
theorem x_toss {I : Nat → Int32} {F : Nat → Nat → Int32} {n : Nat} {kd du : Nat → Nat} (hb : MBs I F n kd du) (u v : Int64) {w : Nat → Int32} {d : Nat → Nat} (hw : TW n d (F 1) w) (ha : apart n d) (h : Nat) (hh : 1 ≤ h ∧ h ≤ 7) (hm : mayS n kd d (nI h) = true) : ∃ w', Am_Ev false 1 0 0 169 [.ref 0, .int (nI 2136), .int (nI h)] (mH I (va_up F 1 w) u v) none (mH I (va_up F 1 w') u v) ∧ TW n (tosS n kd d h) (F 1) w' := by
  obtain ⟨hI, hn, h0, hk, hd, ha0⟩ := hb
  obtain ⟨hi, hv, hf⟩ := (mayS_iff ha.1 (fun i q => (hk i q).2) hh).mp hm
  obtain ⟨ap1, ap2⟩ := tos_pos ha (fun i q => (hk i q).2) hh hm
  have hc := c_M_tossAt I (va_up F 1 w) u v n 2136 (dueS n d) (nI h) hI hn (by omega) (dueG_congr (h := gN d) (fun k q => hw.1 k q) n 0 (by omega)) hi
  rw [va_up_self, va_up_up] at hc
  refine ⟨_, hc, tosW_S hw.1 (hk _ hi).1 hn hi (hk _ hi).2 hh hv ap2, fun j hj => ?_⟩
  rw [tosW_out hn hi (by omega)]
  exact hw.2 j hj

theorem c_M_wrongHeights {I : Nat → Int32} {F : Nat → Nat → Int32} {S : Sta} (hx : RMx I F S) (r : Int32) (lo hi : Nat) (hlo : lo < 2 ^ 31) (hhi : hi < 2 ^ 31) : Am_Ev false 2 0 0 181 [.ref 0, .int r, .int (nI lo), .int (nI hi)] (mH I F S.2.2.2.2.2.2.1 S.2.2.2.2.2.2.2) (some (.int (wrV (wrHc S r lo hi)))) (mFd I F S.2.2.2.2.2.2.1 S.2.2.2.2.2.2.2 (wrHc S r lo hi)) := by
  obtain ⟨hs, hr, ht, hl⟩ := id hx
  unfold wrHc
  have hc := c_M_isRow (mH I F S.2.2.2.2.2.2.1 S.2.2.2.2.2.2.2) r
  cases ho : okR r with
  | false =>
    rw [show in3 r (nI 0) (nI 5) = false from ho] at hc
    rw [if_pos rfl]
    refine am_ev 5 (some .int) false [47] ok_M_wrongHeights am_mP_181 (by rw [am_m_181]) (by rw [am_m_181]) (fun h => by cases h) (Nat.le_of_ble_eq_true rfl) (fun Go hG => ?_)
    refine hG 200 _ _ _ _ _ _ ?_
    refine Exists.intro 1 (Exists.intro _ (Exists.intro _ ⟨by decide, hc, ?_⟩))
    refine bn_f rfl ?_
    exact ⟨rfl, rfl, rfl, rfl⟩
  | true =>
    rw [show in3 r (nI 0) (nI 5) = true from ho] at hc
    rw [if_neg (by decide)]
    obtain ⟨j, -, hj, rfl⟩ := in3_nat (by decide) (by decide) ho
    rw [nat_nI (by omega)]
    obtain ⟨q1, q2, q3⟩ := hr j (by omega)
    have q1' : F 5 j = rz S j := q1
    have q2' : szOk 40 (rz S j) := q2
    by_cases e1 : rz S j < 0
    · rw [if_pos e1]
      refine am_ev 5 (some .int) false [47] ok_M_wrongHeights am_mP_181 (by rw [am_m_181]) (by rw [am_m_181]) (fun h => by cases h) (Nat.le_of_ble_eq_true rfl) (fun Go hG => ?_)
      refine hG 200 _ _ _ _ _ _ ?_
      refine Exists.intro 1 (Exists.intro _ (Exists.intro _ ⟨by decide, hc, ?_⟩))
      refine bn_t (by decide) ?_
      refine Exists.intro j ⟨by omega, rfl, ?_⟩
      refine br_f (by rw [q1']; exact Int32.not_le.mpr e1) ?_
      refine Exists.intro 0 (Exists.intro _ (Exists.intro _ ⟨by decide, c_M_found I F S.2.2.2.2.2.2.1 S.2.2.2.2.2.2.2 1 (by decide), ?_⟩))
      exact ⟨rfl, rfl, rfl, rfl⟩
    · rw [if_neg e1]
      obtain ⟨e3, e4⟩ := szOk_nI (by decide) q2' e1
      have hin := c_M_in (mH I F S.2.2.2.2.2.2.1 S.2.2.2.2.2.2.2) (rz S j) (nI lo) (nI hi)
      rw [← q1'] at hin
      cases hio : in3 (rz S j) (nI lo) (nI hi) with
      | false =>
        rw [if_pos rfl]
        rw [q1', hio, ← q1'] at hin
        refine am_ev 5 (some .int) false [47] ok_M_wrongHeights am_mP_181 (by rw [am_m_181]) (by rw [am_m_181]) (fun h => by cases h) (Nat.le_of_ble_eq_true rfl) (fun Go hG => ?_)
        refine hG 200 _ _ _ _ _ _ ?_
        refine Exists.intro 1 (Exists.intro _ (Exists.intro _ ⟨by decide, hc, ?_⟩))
        refine bn_t (by decide) ?_
        refine Exists.intro j ⟨by omega, rfl, ?_⟩
        refine br_t (by rw [q1']; exact Int32.not_lt.mp e1) ?_
        refine Exists.intro j ⟨by omega, rfl, ?_⟩
        refine Exists.intro 0 (Exists.intro _ (Exists.intro _ ⟨by decide, hin, ?_⟩))
        refine bn_f rfl ?_
        refine Exists.intro 0 (Exists.intro _ (Exists.intro _ ⟨by decide, c_M_found I F S.2.2.2.2.2.2.1 S.2.2.2.2.2.2.2 5 (by decide), ?_⟩))
        exact ⟨rfl, rfl, rfl, rfl⟩
      | true =>
        rw [if_neg (by decide)]
        rw [q1', hio, ← q1'] at hin
        refine am_ev 5 (some .int) false [47] ok_M_wrongHeights am_mP_181 (by rw [am_m_181]) (by rw [am_m_181]) (fun h => by cases h) (Nat.le_of_ble_eq_true rfl) (fun Go hG => ?_)
        have L : ∀ (i k : Nat), k + i = nat (rz S j) → allH (rc S j) k = true → Go 47 [some (.ref 0), some (.int (nI j)), some (.int (nI lo)), some (.int (nI hi)), some (.int (nI k))] [] (mH I F S.2.2.2.2.2.2.1 S.2.2.2.2.2.2.2) 0 0 := by
          intro i
          induction i with
          | zero =>
            intro k hk ha
            have hk' : k = nat (rz S j) := by omega
            rw [← hk', if_neg (by rw [ha]; decide)] at hG
            refine hG 200 _ _ _ _ _ _ ?_
            refine Exists.intro j ⟨by omega, rfl, ?_⟩
            refine br_t (by rw [q1', e3]; exact nI_le (by omega) (by omega)) ?_
            exact ⟨rfl, rfl, rfl, rfl⟩
          | succ i ih =>
            intro k hk ha
            have hcell : F 4 (40 * j + k) = rc S j k := q3 k (by show k < nat (rz S j); omega)
            have hih := c_M_isHeight (mH I F S.2.2.2.2.2.2.1 S.2.2.2.2.2.2.2) (rc S j k)
            cases hok : okH (rc S j k) with
            | false =>
              rw [show in3 (rc S j k) (nI 1) (nI 7) = false from hok, ← hcell] at hih
              have hf : allH (rc S j) (nat (rz S j)) = false := by
                cases h5 : allH (rc S j) (nat (rz S j)) with
                | false => rfl
                | true => rw [allH_at h5 (by omega)] at hok; cases hok
              rw [if_pos hf] at hG
              refine hG 200 _ _ _ _ _ _ ?_
              refine Exists.intro j ⟨by omega, rfl, ?_⟩
              refine br_f (by rw [q1', e3]; exact nI_ge (by omega) (by omega)) ?_
              refine Exists.intro (40 * j + k) ⟨by omega, nI_idx _ _ _, ?_⟩
              refine Exists.intro 1 (Exists.intro _ (Exists.intro _ ⟨by decide, hih, ?_⟩))
              refine bn_f rfl ?_
              refine Exists.intro 0 (Exists.intro _ (Exists.intro _ ⟨by decide, c_M_found I F S.2.2.2.2.2.2.1 S.2.2.2.2.2.2.2 3 (by decide), ?_⟩))
              exact ⟨rfl, rfl, rfl, rfl⟩
            | true =>
              rw [show in3 (rc S j k) (nI 1) (nI 7) = true from hok, ← hcell] at hih
              have h9 := ih (k + 1) (by omega) (by show (allH (rc S j) k && okH (rc S j k)) = true; rw [ha, hok]; rfl)
              rw [← nI_s1 k] at h9
              refine hG 200 _ _ _ _ _ _ ?_
              refine Exists.intro j ⟨by omega, rfl, ?_⟩
              refine br_f (by rw [q1', e3]; exact nI_ge (by omega) (by omega)) ?_
              refine Exists.intro (40 * j + k) ⟨by omega, nI_idx _ _ _, ?_⟩
              refine Exists.intro 1 (Exists.intro _ (Exists.intro _ ⟨by decide, hih, ?_⟩))
              refine bn_t (by decide) ?_
              exact h9
        refine hG 200 _ _ _ _ _ _ ?_
        refine Exists.intro 1 (Exists.intro _ (Exists.intro _ ⟨by decide, hc, ?_⟩))
        refine bn_t (by decide) ?_
        refine Exists.intro j ⟨by omega, rfl, ?_⟩
        refine br_t (by rw [q1']; exact Int32.not_lt.mp e1) ?_
        refine Exists.intro j ⟨by omega, rfl, ?_⟩
        refine Exists.intro 0 (Exists.intro _ (Exists.intro _ ⟨by decide, hin, ?_⟩))
        refine bn_t (by decide) ?_
        exact L (nat (rz S j)) 0 (by omega) rfl

