/-! told -/
theorem mBlank {σ : MS} {P : PT} (hM : MP σ P) (hW : WF P) {i p : Nat} (hi : i < 12) (hp : p < 16) : ∃ nw nn w c, gX11_isBlank σ (Int32.ofNat i) (Int32.ofNat p) = some (rcS σ nw nn w c, (NW P 12 (16 * i + p)).2) := by
  obtain ⟨nw, nn, w, c, c1, c2⟩ := reckAll hM hW
  refine ⟨nw, nn, w, c, ?_⟩
  have hix : ix (Int32.ofNat (16 * i + p)) 200 := (ixo (by omega)).mpr (by omega)
  unfold gX11_isBlank gX11_isThere
  rw [inC1 (oC hi), inP1 (oP hp), c2, eidx]
  simp only [Option.bind_some]
  rw [if_neg (by decide), if_neg (by decide)]
  simp only [Option.bind_some]
  rw [if_neg (by decide), if_pos hix, tn (by omega)]
  show (if nn (16 * i + p) = 0 then some (rcS σ nw nn w c, (0 : Int32)) else some (rcS σ nw nn w c, (1 : Int32))) = _
  rw [(c1 (16 * i + p) (by omega)).2]
  rcases (NW_row hW hi hp).2.1 with e | e
  · rw [e, if_pos rfl]
  · rw [e, if_neg (by decide)]
def bc (H : Nat → Int32) (n : Nat) : Nat := cnt (fun p => decide (H p ≠ 0)) n
theorem bc_s (H : Nat → Int32) (n : Nat) : bc H (n + 1) = bc H n + (if H n = 0 then 0 else 1) := by
  show bc H n + (if decide (H n ≠ 0) = true then 1 else 0) = _
  by_cases h : H n = 0
  · rw [if_pos h, if_neg (by simp [h])]
  · rw [if_neg h, if_pos (by simp [h])]
theorem cntC (F : Nat → UInt64) (H : Nat → Int32) : ∀ (k f p : Nat), p + k = 16 → k < f → lq3 (gX8_countBlanks_13 16 F H) f (Int32.ofNat (bc H p)) (Int32.ofNat 16) (Int32.ofNat p) = some (Int32.ofNat (bc H 16)) := by
  intro k
  induction k with
  | zero =>
    intro f p hp hf
    obtain ⟨f, rfl⟩ : ∃ g, f = g + 1 := ⟨f - 1, by omega⟩
    obtain rfl : p = 16 := by omega
    show gX8_countBlanks_13 _ _ _ _ _ _ _ = _
    unfold gX8_countBlanks_13
    rw [if_pos (by decide)]
  | succ k ih =>
    intro f p hp hf
    obtain ⟨f, rfl⟩ : ∃ g, f = g + 1 := ⟨f - 1, by omega⟩
    have := ih f (p + 1) (by omega) (by omega)
    show gX8_countBlanks_13 _ _ _ (lq3 (gX8_countBlanks_13 16 F H) f) _ _ _ = _
    generalize lq3 (gX8_countBlanks_13 16 F H) f = K at this ⊢
    unfold gX8_countBlanks_13 gX8_countBlanks_36
    rw [if_neg (by rw [o_le (by omega) (by omega)]; omega), if_pos ((ixo (by omega)).mpr (by omega)), tn (by omega)]
    rw [bc_s] at this
    simp only [o_succ, Int32.add_zero]
    by_cases hb : H p = 0
    · rw [if_pos hb]; rw [if_pos hb] at this; exact this
    · rw [if_neg hb]; rw [if_neg hb] at this; exact this
theorem cntM {σ : MS} {P : PT} (hM : MP σ P) (hW : WF P) {i : Nat} (hi : i < 12) {H : Nat → Int32} (hH : ∀ p, p < 16 → H p = (NW P 12 (16 * i + p)).2) (x1 : Int32) : ∀ (k f p : Nat) (nw : Nat → UInt64) (nn : Nat → Int32) (w : UInt64) (c : Int32), p + k = 16 → k < f → ∃ nw' nn' w' c', lq3 (gX11_told_125 σ (Int32.ofNat i) x1) f (rcS σ nw nn w c) (Int32.ofNat (bc H p)) (Int32.ofNat p) = some (rcS σ nw' nn' w' c', Int32.ofNat (bc H 16)) := by
  intro k
  induction k with
  | zero =>
    intro f p nw nn w c hp hf
    obtain ⟨f, rfl⟩ : ∃ g, f = g + 1 := ⟨f - 1, by omega⟩
    obtain rfl : p = 16 := by omega
    refine ⟨nw, nn, w, c, ?_⟩
    show gX11_told_125 _ _ _ _ _ _ _ = _
    unfold gX11_told_125
    rw [if_pos (by decide)]
  | succ k ih =>
    intro f p nw nn w c hp hf
    obtain ⟨f, rfl⟩ : ∃ g, f = g + 1 := ⟨f - 1, by omega⟩
    have hp16 : p < 16 := by omega
    obtain ⟨nw1, nn1, w1, c1, e1⟩ := mBlank (σ := rcS σ nw nn w c) (P := P) hM hW hi hp16
    obtain ⟨nw', nn', w', c', this⟩ := ih f (p + 1) nw1 nn1 w1 c1 (by omega) (by omega)
    refine ⟨nw', nn', w', c', ?_⟩
    show gX11_told_125 _ _ _ (lq3 (gX11_told_125 σ (Int32.ofNat i) x1) f) _ _ _ = _
    generalize lq3 (gX11_told_125 σ (Int32.ofNat i) x1) f = K at this ⊢
    unfold gX11_told_125 gX11_told_148
    rw [if_neg (by rw [l16, o_le (by omega) (by omega)]; omega), e1, ← hH p hp16, show rcS (rcS σ nw nn w c) nw1 nn1 w1 c1 = rcS σ nw1 nn1 w1 c1 from rfl]
    simp only [Option.bind_some, o_succ, Int32.add_zero]
    rw [bc_s] at this
    by_cases hb : H p = 0
    · rw [if_pos hb]; rw [if_pos hb] at this; exact this
    · rw [if_neg hb]; rw [if_neg hb] at this; exact this
theorem op_told {G : GG} {z t : Nat} {β : BS} {b : Nat → va_E} {N : Nat} {σ : MS} {n : Nat} {P : Nat → PT} {fr am : Nat} (h : IV G z t β b N σ n P fr am) (x0 x1 : Int32) : ∃ (β' : BS) (σ' : MS) (r : Int32), gX10_told β x0 x1 = some (β', r) ∧ gX11_told σ x0 x1 = some (σ', r) ∧ Inv G z (t + 1) β' b N σ' := by
  have h' := h
  obtain ⟨g1, g2, g3, g4, g5, g6⟩ := h'
  unfold gX10_told gX11_told
  by_cases h12 : x0 = 12
  · rw [if_pos h12, if_pos h12]
    unfold gX10_toldOfBook
    have e1 : b_chg β = m_changes σ := g4.2.2.2.trans g3.2.2.symm
    have e2 : b_acnt β = m_alarmMany σ := g6.2.1.trans g6.2.2.1.symm
    have e3 : b_rngs β = m_rings σ := g6.2.2.2.1
    rw [e1, e2, e3]
    by_cases c0 : x1 = 0
    · rw [if_pos c0, if_pos c0]; exact ⟨_, _, _, rfl, rfl, inv_refuse h⟩
    rw [if_neg c0, if_neg c0]
    by_cases c1 : x1 = 1
    · rw [if_pos c1, if_pos c1]; exact ⟨_, _, _, rfl, rfl, inv_refuse h⟩
    rw [if_neg c1, if_neg c1]
    by_cases c2 : x1 = 2
    · rw [if_pos c2, if_pos c2]; exact ⟨_, _, _, rfl, rfl, inv_refuse h⟩
    rw [if_neg c2, if_neg c2]; exact ⟨_, _, _, rfl, rfl, inv_refuse h⟩
  rw [if_neg h12, if_neg h12]
  by_cases h0 : 0 ≤ x0.toInt ∧ x0.toInt < 12
  · obtain ⟨i, hi, rfl⟩ := ex_o (n := 12) h0.1 h0.2
    obtain ⟨m, nu, bl, xn, xb, yn, yb, a1, a2, a3, a4, a5⟩ := refE (g2 n (Nat.le_refl _)) g4.1 g1.2.2 g4.2.2.1 g4.2.1 hi
    obtain ⟨n1, n2, n3, n4, n5, n6, n7⟩ := a3.1 i hi
    have hwf := ((g2 n (Nat.le_refl _)).2 i hi)
    have em : m_made σ (4 * i) = pM (P n) (4 * i) := g3.1.2.2 _ (by omega)
    have en : m_narrow σ i = pN (P n) i := g3.1.2.1 i hi
    have hic : ix (Int32.ofNat i) 12 := (ixo (by omega)).mpr hi
    have h48 : ix (Int32.ofNat (4 * i)) 48 := (ixo (by omega)).mpr (by omega)
    have keep : IV G z (t + 1) (rfS β nu bl xn xb yn yb (Int32.ofNat m)) b N σ n P m am := by
      have := inv_look (xn := xn) (xb := xb) (yn := yn) (yb := yb) h a2 a3 a4 (m_now σ) (m_none σ) (m_worth σ) (m_isNone σ)
      rw [rc_self] at this; exact this
    rw [col1 h0, inC1 h0, a5, l4, tn (by omega), tn (by omega), em, en]
    simp only [Option.bind_some]
    rw [if_neg (by decide), if_pos hic, if_neg (by decide)]
    unfold gX3_answer gX3_hasFormula
    rw [show b_ff (rfS β nu bl xn xb yn yb (Int32.ofNat m)) i = pM (P n) (4 * i) from n2, show b_nar (rfS β nu bl xn xb yn yb (Int32.ofNat m)) i = pN (P n) i from n1]
    by_cases c0 : x1 = 0
    · rw [if_pos c0, if_pos c0, if_pos h48]
      by_cases hf : 0 ≤ (pM (P n) (4 * i)).toInt
      · rw [if_neg (by intro c; rw [c] at hf; exact absurd hf (by decide)), if_pos (i32_0.mpr hf)]
        exact ⟨_, _, _, rfl, rfl, ⟨n, P, m, am, keep⟩⟩
      · have em1 : pM (P n) (4 * i) = -1 := Int32.toInt.inj (by rw [show (-1 : Int32).toInt = -1 from by decide]; omega)
        rw [if_pos em1, if_neg (fun c => hf (i32_0.mp c))]
        exact ⟨_, _, _, rfl, rfl, ⟨n, P, m, am, keep⟩⟩
    rw [if_neg c0, if_neg c0]
    by_cases c1 : x1 = 1
    · rw [if_pos c1, if_pos c1, if_pos hic]
      by_cases hn : pN (P n) i = 0
      · rw [if_pos hn, if_pos hn]; exact ⟨_, _, _, rfl, rfl, ⟨n, P, m, am, keep⟩⟩
      · rw [if_neg hn, if_neg hn]; exact ⟨_, _, _, rfl, rfl, ⟨n, P, m, am, keep⟩⟩
    rw [if_neg c1, if_neg c1]
    by_cases c2 : x1 = 2
    · rw [if_pos c2, if_pos c2]
      obtain ⟨nw', nn', w', c', e⟩ := cntM g3.1 (g2 n (Nat.le_refl _)) hi (H := bl i) (fun p hp => (a4 i a1 p hp).2) x1 16 20 0 (m_now σ) (m_none σ) (m_worth σ) (m_isNone σ) rfl (by decide)
      rw [rc_self] at e
      have e' := cntC (nu i) (bl i) 16 20 0 rfl (by decide)
      have e2 : gX8_countBlanks 16 (b_num (rfS β nu bl xn xb yn yb (Int32.ofNat m)) i) (b_bl (rfS β nu bl xn xb yn yb (Int32.ofNat m)) i) = some (Int32.ofNat (bc (bl i) 16)) := e'
      rw [e2]
      exact ⟨_, _, _, rfl, e, ⟨n, P, m, am, inv_look h a2 a3 a4 _ _ _ _⟩⟩
    rw [if_neg c2, if_neg c2]
    by_cases c3 : x1 = 3
    · rw [if_pos c3, if_pos c3, if_pos h48]; exact ⟨_, _, _, rfl, rfl, ⟨n, P, m, am, keep⟩⟩
    rw [if_neg c3, if_neg c3]; exact ⟨_, _, _, rfl, rfl, ⟨n, P, m, am, keep⟩⟩
  · rw [col0 h0, inC0 h0]
    simp only [Option.bind_some]
    rw [if_pos trivial, if_pos trivial]
    exact ⟨_, _, _, rfl, rfl, inv_refuse h⟩
