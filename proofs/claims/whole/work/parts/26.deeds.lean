/-! ===== deeds: what they come to; the reference's row of thirteen ===== -/
def eN (S : Sta) : Nat := S.1.1
def eK (S : Sta) : Nat → Nat := S.1.2.1
def eE (S : Sta) : Evn := S.1.2.2.1
def eP (S : Sta) : Nat → Option Evn := S.1.2.2.2
def duE (E : Evn) : Nat → Nat := E.2.1 E.1
def thE (E : Evn) : Nat → Nat := E.2.2.1 E.1
def btE (E : Evn) : Nat := E.2.2.2 E.1
def pushE (E : Evn) (d t : Nat → Nat) (b : Nat) : Evn := (E.1 + 1, fun q => if q = E.1 + 1 then d else E.2.1 q, fun q => if q = E.1 + 1 then t else E.2.2.1 q, fun q => if q = E.1 + 1 then b else E.2.2.2 q)
def sE (S : Sta) (E : Evn) : Sta := sK S (eN S, eK S, E, eP S)
def incS (t : Nat → Nat) (i : Nat) : Nat → Nat := fun k => t k + (if k = i then 1 else 0)
def tossE (n : Nat) (kd : Nat → Nat) (E : Evn) (h : Nat) : Evn := pushE E (tosS n kd (duE E) h) (incS (thE E) (dueS n (duE E))) (btE E + 1)
def restE (E : Evn) : Evn := pushE E (latS 1 (duE E)) (thE E) (btE E + 1)
def exchE (E : Evn) (i j : Nat) : Evn := pushE E (swpS (duE E) i j) (thE E) (btE E)
def noneE (E : Evn) : Evn := pushE E (duE E) (thE E) (btE E)
theorem push_du (E : Evn) (d t : Nat → Nat) (b : Nat) : duE (pushE E d t b) = d := by
  show (if E.1 + 1 = E.1 + 1 then d else E.2.1 (E.1 + 1)) = d
  rw [if_pos rfl]
theorem push_th (E : Evn) (d t : Nat → Nat) (b : Nat) : thE (pushE E d t b) = t := by
  show (if E.1 + 1 = E.1 + 1 then t else E.2.2.1 (E.1 + 1)) = t
  rw [if_pos rfl]
theorem push_bt (E : Evn) (d t : Nat → Nat) (b : Nat) : btE (pushE E d t b) = b := by
  show (if E.1 + 1 = E.1 + 1 then b else E.2.2.2 (E.1 + 1)) = b
  rw [if_pos rfl]
theorem push_old {E : Evn} {d t : Nat → Nat} {b q : Nat} (h : q ≤ E.1) : (pushE E d t b).2.1 q = E.2.1 q ∧ (pushE E d t b).2.2.1 q = E.2.2.1 q ∧ (pushE E d t b).2.2.2 q = E.2.2.2 q := by
  have hq : ¬ q = E.1 + 1 := by omega
  exact ⟨if_neg hq, if_neg hq, if_neg hq⟩
theorem gdE_push {n : Nat} {E : Evn} {d t : Nat → Nat} {b : Nat} (h : gdE n E) (hd : apart n d) : gdE n (pushE E d t b) := by
  intro q hq
  have hq' : q ≤ E.1 + 1 := hq
  by_cases hqe : q = E.1 + 1
  · have e : (pushE E d t b).2.1 q = d := if_pos hqe
    rw [e]
    exact hd
  · rw [(push_old (by omega)).1]
    exact h q (by omega)
theorem evM_congr {w w' : Nat → Int32} {o n : Nat} {E : Evn} (h : evM w o n E) (hn : n ≤ 6) (e : ∀ j, o ≤ j → j < o + 534 → w' j = w j) : evM w' o n E := by
  obtain ⟨h1, h2, h3, h4, h5⟩ := h
  refine ⟨h1, by rw [e _ (by omega) (by omega)]; exact h2, fun k hk => by rw [e _ (by omega) (by omega), e _ (by omega) (by omega)]; exact h3 k hk, by rw [e _ (by omega) (by omega)]; exact h4, fun d hd => ⟨fun k hk => ?_, ?_⟩⟩
  · rw [e _ (by omega) (by omega), e _ (by omega) (by omega)]
    exact (h5 d hd).1 k hk
  · rw [e _ (by omega) (by omega)]
    exact (h5 d hd).2
theorem remW_lo {w : Nat → Int32} {m j : Nat} (hj : j < 13) : remW w m j = w j := by
  unfold remW
  rw [pk_un (by omega), pk_cpy_out (by omega)]
theorem remW_hi {w : Nat → Int32} {m j : Nat} (hm : m < 40) (hj : 534 ≤ j) : remW w m j = w j := by
  unfold remW
  rw [pk_un (by omega), pk_cpy_out (by omega)]
theorem evM_push {w w2 : Nat → Int32} {n : Nat} {E : Evn} {d t : Nat → Nat} {b : Nat} (h : evM w 0 n E) (hn : n ≤ 6) (hm : E.1 < 40) (e : ∀ j, 13 ≤ j → w2 j = remW w E.1 j) (h1 : ∀ k, k < n → w2 k = nI (d k) ∧ w2 (6 + k) = nI (t k)) (h2 : w2 12 = nI b) : evM w2 0 n (pushE E d t b) := by
  obtain ⟨g1, g2, g3, g4, g5⟩ := h
  simp only [Nat.zero_add] at g2 g3 g4 g5
  refine ⟨by show E.1 + 1 ≤ 40; omega, ?_, fun k hk => ?_, ?_, fun q hq => ?_⟩
  · rw [Nat.zero_add, e 533 (by omega)]
    show remW w E.1 533 = nI (E.1 + 1)
    unfold remW
    rw [pk_us, pk_cpy_out (by omega), g2, nI_s1]
  · have e1 : (pushE E d t b).2.1 (pushE E d t b).1 = d := push_du E d t b
    have e2 : (pushE E d t b).2.2.1 (pushE E d t b).1 = t := push_th E d t b
    rw [e1, e2, Nat.zero_add, Nat.zero_add]
    exact h1 k hk
  · have e1 : (pushE E d t b).2.2.2 (pushE E d t b).1 = b := push_bt E d t b
    rw [e1, Nat.zero_add]
    exact h2
  · have hq' : q < E.1 + 1 := hq
    obtain ⟨o1, o2, o3⟩ := push_old (E := E) (d := d) (t := t) (b := b) (q := q) (by omega)
    rw [o1, o2, o3]
    have hr : ∀ k, k < 13 → w2 (0 + 13 + 13 * q + k) = remW w E.1 (13 + 13 * q + k) := by
      intro k hk
      rw [e _ (by omega), show 0 + 13 + 13 * q + k = 13 + 13 * q + k by omega]
    by_cases hqe : q = E.1
    · have hc : ∀ k, k < 13 → remW w E.1 (13 + 13 * q + k) = w k := by
        intro k hk
        unfold remW
        rw [pk_un (by omega), pk_cpy_in (by omega) (by omega)]
        congr 1
        omega
      rw [hqe] at hc hr ⊢
      refine ⟨fun k hk => ⟨?_, ?_⟩, ?_⟩
      · rw [hr k (by omega), hc k (by omega)]
        exact (g3 k hk).1
      · have := hr (6 + k) (by omega)
        rw [show 0 + 13 + 13 * E.1 + 6 + k = 0 + 13 + 13 * E.1 + (6 + k) by omega, this, hc (6 + k) (by omega)]
        exact (g3 k hk).2
      · rw [hr 12 (by omega), hc 12 (by omega)]
        exact g4
    · have hc : ∀ k, k < 13 → remW w E.1 (13 + 13 * q + k) = w (13 + 13 * q + k) := by
        intro k hk
        unfold remW
        rw [pk_un (by omega), pk_cpy_out (by omega)]
      have g6 := g5 q (by omega)
      refine ⟨fun k hk => ⟨?_, ?_⟩, ?_⟩
      · rw [hr k (by omega), hc k (by omega)]
        exact (g6.1 k hk).1
      · have := hr (6 + k) (by omega)
        rw [show 0 + 13 + 13 * q + 6 + k = 0 + 13 + 13 * q + (6 + k) by omega, this, hc (6 + k) (by omega), show 13 + 13 * q + (6 + k) = 13 + 13 * q + 6 + k by omega]
        exact (g6.1 k hk).2
      · rw [hr 12 (by omega), hc 12 (by omega)]
        exact g6.2
theorem latF_at {w : Nat → Int32} {x n k : Nat} (hk : k < n) (hn : n ≤ 6) : latF w x n (x + k) = w (x + k) - nI 1 := by
  unfold latF
  rw [pk_un (by omega)]
  unfold latW
  rw [if_pos (by omega)]
theorem latF_th {w : Nat → Int32} {x n k : Nat} (hk : k < 6) (hn : n ≤ 6) : latF w x n (x + 6 + k) = w (x + 6 + k) := by
  unfold latF
  rw [pk_un (by omega)]
  unfold latW
  rw [if_neg (by omega)]
theorem latF_bt {w : Nat → Int32} {x n : Nat} (hn : n ≤ 6) : latF w x n (x + 12) = w (x + 12) + nI 1 := by
  unfold latF
  rw [pk_us]
  unfold latW
  rw [if_neg (by omega)]
theorem latF_out {w : Nat → Int32} {x n j : Nat} (hn : n ≤ 6) (hj : j < x ∨ x + 13 ≤ j) : latF w x n j = w j := by
  unfold latF
  rw [pk_un (by omega)]
  unfold latW
  rw [if_neg (by omega)]
theorem tosW_at {w kf : Nat → Int32} {x n i k : Nat} {h : Int32} (hk : k < n) (hn : n ≤ 6) (hi : i < n) : tosW w kf x n i h (x + k) = (if k = i then landI (kf i) h else w (x + k)) - nI 1 := by
  unfold tosW
  rw [latF_at hk hn, pk_un (by omega)]
  unfold upd
  by_cases hki : k = i
  · rw [if_pos (by omega), if_pos hki]
  · rw [if_neg (by omega), if_neg hki]
theorem tosW_th {w kf : Nat → Int32} {x n i k : Nat} {h : Int32} (hk : k < 6) (hn : n ≤ 6) (hi : i < n) : tosW w kf x n i h (x + 6 + k) = if k = i then w (x + 6 + k) + nI 1 else w (x + 6 + k) := by
  unfold tosW
  rw [latF_th hk hn]
  by_cases hki : k = i
  · rw [if_pos hki, hki, pk_us]
  · rw [if_neg hki, pk_un (by omega), pk_un (by omega)]
theorem tosW_bt {w kf : Nat → Int32} {x n i : Nat} {h : Int32} (hn : n ≤ 6) (hi : i < n) : tosW w kf x n i h (x + 12) = w (x + 12) + nI 1 := by
  unfold tosW
  rw [latF_bt hn, pk_un (by omega), pk_un (by omega)]
theorem tosW_out {w kf : Nat → Int32} {x n i j : Nat} {h : Int32} (hn : n ≤ 6) (hi : i < n) (hj : j < x ∨ x + 13 ≤ j) : tosW w kf x n i h j = w j := by
  unfold tosW
  rw [latF_out hn hj, pk_un (by omega), pk_un (by omega)]
/-- a throw on naturals -/
theorem tosW_S {w kf : Nat → Int32} {x n i h : Nat} {du kd : Nat → Nat} (hw : ∀ k, k < n → w (x + k) = nI (du k)) (hkf : kf i = nI (kd i)) (hn : n ≤ 6) (hi : i < n) (hk6 : kd i < 6) (hh : 1 ≤ h ∧ h ≤ 7) (hv : lnd (kd i) h ≠ 0) (hp : ∀ k, k < n → 1 ≤ setS du i (lnd (kd i) h) k) : ∀ k, k < n → tosW w kf x n i (nI h) (x + k) = nI (latS 1 (setS du i (lnd (kd i) h)) k) := by
  intro k hk
  rw [tosW_at hk hn hi, hkf, landI_S hk6 hh]
  have h1 := hp k hk
  show _ = nI (setS du i (lnd (kd i) h) k - 1)
  rw [← pk_sub h1]
  congr 1
  unfold setS
  by_cases hki : k = i
  · rw [if_pos hki, if_pos hki]
    unfold ldR
    rw [if_neg hv]
  · rw [if_neg hki, if_neg hki]
    exact hw k hk
def spToss (S : Sta) (h : Int32) : Int32 × Sta := if okH h = false then (-nI 1, S) else if mayS (eN S) (eK S) (duE (eE S)) h = false then (-nI 4, S) else if (eE S).1 = 40 then (-nI 2, S) else (skyS (eN S) (tosS (eN S) (eK S) (duE (eE S)) (nat h)), sE S (tossE (eN S) (eK S) (eE S) (nat h)))
def spRest (S : Sta) : Int32 × Sta := if eN S = 0 then (-nI 4, S) else if dueS (eN S) (duE (eE S)) < eN S then (-nI 4, S) else if (eE S).1 = 40 then (-nI 2, S) else (skyS (eN S) (latS 1 (duE (eE S))), sE S (restE (eE S)))
def okI (S : Sta) (i : Int32) : Bool := in3 i (nI 0) (nI (eN S) - nI 1)
def spExch (S : Sta) (i j : Int32) : Int32 × Sta := if okI S i = false then (-nI 1, S) else if okI S j = false then (-nI 1, S) else if i = j then (-nI 1, S) else if (eE S).1 = 40 then (-nI 2, S) else (skyS (eN S) (swpS (duE (eE S)) (nat i) (nat j)), sE S (exchE (eE S) (nat i) (nat j)))
def spUndo (S : Sta) (t : Int32) : Int32 × Sta := if in3 t (nI 0) (nI (eE S).1) = false then (-nI 1, S) else (nI ((eE S).1 - nat t), sE S (nat t, (eE S).2))
def spKeep (S : Sta) (k : Int32) : Int32 × Sta := if in3 k (nI 0) (nI 2) = false then (-nI 1, S) else if eN S = 0 then (-nI 4, S) else (nI (eE S).1, sK S (eN S, eK S, eE S, va_up (eP S) (nat k) (some (eE S))))
def spOn (S : Sta) (k : Int32) : Int32 × Sta := if in3 k (nI 0) (nI 2) = false then (-nI 1, S) else match eP S (nat k) with
  | none => (-nI 3, fndS S 1)
  | some E => (nI E.1, sE S E)
def spLands (S : Sta) (i h : Int32) : Int32 × Sta := if okI S i = false then (-nI 1, S) else if okH h = false then (-nI 1, S) else (landI (nI (eK S (nat i))) h, S)
def spMay (S : Sta) : Int32 × Sta := if eN S = 0 then (-nI 4, S) else if dueS (eN S) (duE (eE S)) < eN S then (hgtS (eN S) (eK S) (duE (eE S)), tellS S (nI (dueS (eN S) (duE (eE S))))) else (-nI 9, S)
