/-! the reference's reckoning of all columns -/
def MP (σ : MS) (P : PT) : Prop := (∀ k, k < 200 → m_told σ k = pT P k ∧ m_blank σ k = pB P k) ∧ (∀ i, i < 12 → m_narrow σ i = pN P i) ∧ (∀ k, k < 48 → m_made σ k = pM P k)
def rcS (σ : MS) (nw : Nat → UInt64) (nn : Nat → Int32) (w : UInt64) (b : Int32) : MS := (σ.1, σ.2.1, σ.2.2.1, σ.2.2.2.1, nw, nn, σ.2.2.2.2.2.2.1, σ.2.2.2.2.2.2.2.1, σ.2.2.2.2.2.2.2.2.1, σ.2.2.2.2.2.2.2.2.2.1, σ.2.2.2.2.2.2.2.2.2.2.1, σ.2.2.2.2.2.2.2.2.2.2.2.1, σ.2.2.2.2.2.2.2.2.2.2.2.2.1, σ.2.2.2.2.2.2.2.2.2.2.2.2.2.1, σ.2.2.2.2.2.2.2.2.2.2.2.2.2.2.1, σ.2.2.2.2.2.2.2.2.2.2.2.2.2.2.2.1, σ.2.2.2.2.2.2.2.2.2.2.2.2.2.2.2.2.1, w, b)
theorem rc_self (σ : MS) : rcS σ (m_now σ) (m_none σ) (m_worth σ) (m_isNone σ) = σ := rfl
theorem rc_up (σ : MS) (nw nw' : Nat → UInt64) (nn nn' : Nat → Int32) (w : UInt64) (b : Int32) : m_none_ (m_now_ (rcS σ nw nn w b) nw') nn' = rcS σ nw' nn' w b := rfl
theorem rc_gv (σ : MS) (nw : Nat → UInt64) (nn : Nat → Int32) (w : UInt64) (b : Int32) (v : UInt64) (c : Int32) : gv (rcS σ nw nn w b) v c = rcS σ nw nn v c := rfl
def RI (P : PT) (n : Nat) (nw : Nat → UInt64) (nn : Nat → Int32) : Prop := ∀ j, (j < n ∨ (192 ≤ j ∧ j < 200)) → nw j = (NW P 12 j).1 ∧ nn j = (NW P 12 j).2
theorem Ar_congr {nar : Int32} {X X' : Nat → UInt64} {XB XB' : Nat → Int32} (h : ∀ p, p < 16 → X p = X' p ∧ XB p = XB' p) (g : Ar nar X' XB') : Ar nar X XB := by
  intro p hp
  rw [(h p hp).1, (h p hp).2]; exact g p hp
theorem NW_at {P : PT} {i p : Nat} (hi : i < 12) (hp : p < 16) (h : 0 ≤ (pM P (4 * i)).toInt) : NW P 12 (16 * i + p) = nRV P i p := by
  rw [NW_keep' (n := i + 1) (by omega) (Nat.le_refl _) (.inl (by omega)), NW_in hp h]
theorem MAof {σ : MS} {P : PT} (hM : MP σ P) (hW : WF P) {i : Nat} (hi : i < 12) (hf : 0 ≤ (pM P (4 * i)).toInt) {nw : Nat → UInt64} {nn : Nat → Int32} {w : UInt64} {b : Int32} (hI : RI P (16 * i) nw nn) :
    MA (rcS σ nw nn w b) i ∧ ∀ p, p < 16 → mRV (rcS σ nw nn w b) i p = nRV P i p := by
  have hF := (hW.2 i hi).2.2.2 hf
  have m0 : m_made σ (4 * i) = pM P (4 * i) := hM.2.2 _ (by omega)
  have m1 : m_made σ (4 * i + 1) = pM P (4 * i + 1) := hM.2.2 _ (by omega)
  have m2 : m_made σ (4 * i + 2) = pM P (4 * i + 2) := hM.2.2 _ (by omega)
  have m3 : m_made σ (4 * i + 3) = pM P (4 * i + 3) := hM.2.2 _ (by omega)
  have hn : m_narrow σ i = pN P i := hM.2.1 i hi
  have hX : ∀ q, q < 16 → mX (rcS σ nw nn w b) i q = nX P i q ∧ mXB (rcS σ nw nn w b) i q = nXB P i q := by
    intro q hq
    have ha := at_a hi hF hq
    show br (m_narrow σ i) (nw (atN (m_made σ (4 * i + 1)) q)) = nX P i q ∧ nn (atN (m_made σ (4 * i + 1)) q) = nXB P i q
    rw [hn, m1, (hI _ ha).1, (hI _ ha).2, NW_keep' (n := i) (by omega) (Nat.le_refl _) (by omega)]
    exact ⟨rfl, rfl⟩
  have hY : ∀ q, q < 16 → mY (rcS σ nw nn w b) i q = nY P i q ∧ mYB (rcS σ nw nn w b) i q = nYB P i q := by
    intro q hq
    have ha := at_b hi hF hq
    show br (m_narrow σ i) (nw (atN (m_made σ (4 * i + 2)) q)) = nY P i q ∧ nn (atN (m_made σ (4 * i + 2)) q) = nYB P i q
    rw [hn, m2, (hI _ ha).1, (hI _ ha).2, NW_keep' (n := i) (by omega) (Nat.le_refl _) (by omega)]
    exact ⟨rfl, rfl⟩
  obtain ⟨rA, rB⟩ := nAr hW hi hf
  refine ⟨⟨hi, ?_, ?_, ?_, ?_, ?_, ?_⟩, ?_⟩
  · show 0 ≤ (m_made σ (4 * i + 1)).toInt ∧ (m_made σ (4 * i + 1)).toInt < 12
    rw [m1]; have := hF.1; omega
  · show 0 ≤ (m_made σ (4 * i + 2)).toInt ∧ ((m_made σ (4 * i + 2)).toInt < 12 ∨ (16 ≤ (m_made σ (4 * i + 2)).toInt ∧ (m_made σ (4 * i + 2)).toInt < 24))
    rw [m2]; have := hF.2.1; omega
  · show 0 ≤ (m_made σ (4 * i + 3)).toInt ∧ (m_made σ (4 * i + 3)).toInt ≤ 11
    rw [m3]; exact hF.2.2
  · intro p hp
    show NN (nw (atN (m_made σ (4 * i + 1)) p)) ∧ NN (nw (atN (m_made σ (4 * i + 2)) p))
    have ha := at_a hi hF hp
    have hb := at_b hi hF hp
    rw [m1, m2, (hI _ ha).1, (hI _ hb).1]
    exact ⟨(NW_ok hW 12 (Nat.le_refl _) _ (by omega)).1, (NW_ok hW 12 (Nat.le_refl _) _ (by omega)).1⟩
  · show Ar (m_narrow σ i) _ _
    rw [hn]; exact Ar_congr hX rA
  · show Ar (m_narrow σ i) _ _
    rw [hn]; exact Ar_congr hY rB
  · intro p hp
    show RV (m_narrow σ i) (m_made σ (4 * i)) (m_made σ (4 * i + 3)) _ _ _ _ p = _
    rw [hn, m0, m3]
    exact RV_congr hp hX hY
theorem l16i (i : Nat) : (16 : Int32) * Int32.ofNat i = Int32.ofNat (16 * i) := o_mul 16 i
theorem i32_0 {x : Int32} : 0 ≤ x ↔ 0 ≤ x.toInt := i32_le
theorem RI_up {P : PT} {n : Nat} {nw : Nat → UInt64} {nn : Nat → Int32} (h : RI P n nw nn) {v : UInt64} {c : Int32} (e1 : v = (NW P 12 n).1) (e2 : c = (NW P 12 n).2) : RI P (n + 1) (vf_upd nw n v) (upd nn n c) := by
  intro j hj
  by_cases e : j = n
  · subst e
    show (if j = j then v else nw j) = _ ∧ (if j = j then c else nn j) = _
    rw [if_pos rfl, if_pos rfl]; exact ⟨e1, e2⟩
  · show (if j = n then v else nw j) = _ ∧ (if j = n then c else nn j) = _
    rw [if_neg e, if_neg e]; exact h j (by omega)
set_option maxHeartbeats 1000000 in
theorem rcC {σ : MS} {P : PT} (hM : MP σ P) (hW : WF P) {i : Nat} (hi : i < 12) (K : MS → Int32 → Option MS) : ∀ (k f p : Nat) (nw : Nat → UInt64) (nn : Nat → Int32) (w : UInt64) (b : Int32), p + k = 16 → k < f → RI P (16 * i + p) nw nn → ∃ nw' nn' w' b', RI P (16 * i + 16) nw' nn' ∧ lq3 (gX11_reckonAll_51 σ K) f (rcS σ nw nn w b) (Int32.ofNat i) (Int32.ofNat p) = K (rcS σ nw' nn' w' b') (Int32.ofNat (i + 1)) := by
  intro k
  induction k with
  | zero =>
    intro f p nw nn w b hp hf hI
    obtain ⟨f, rfl⟩ : ∃ g, f = g + 1 := ⟨f - 1, by omega⟩
    obtain rfl : p = 16 := by omega
    refine ⟨nw, nn, w, b, hI, ?_⟩
    show gX11_reckonAll_51 σ K _ _ _ _ = _
    unfold gX11_reckonAll_51
    rw [if_pos (by decide), o_succ]
  | succ k ih =>
    intro f p nw nn w b hp hf hI
    obtain ⟨f, rfl⟩ : ∃ g, f = g + 1 := ⟨f - 1, by omega⟩
    have hp16 : p < 16 := by omega
    have eidx : (16 : Int32) * Int32.ofNat i + Int32.ofNat p = Int32.ofNat (16 * i + p) := by rw [l16i, o_add]
    have hix : ix (Int32.ofNat (16 * i + p)) 200 := (ixo (by omega)).mpr (by omega)
    have m0 : m_made (rcS σ nw nn w b) (4 * i) = pM P (4 * i) := hM.2.2 _ (by omega)
    by_cases hf0 : 0 ≤ (pM P (4 * i)).toInt
    · obtain ⟨hA, hR⟩ := MAof (w := w) (b := b) hM hW hi hf0 (fun j hj => hI j (by omega))
      have hO := NW_row hW hi hp16
      rw [NW_at hi hp16 hf0] at hO
      have er := reck_eq hA hp16 (by rw [m0]; exact hf0) (by rw [m0]; exact (hW.2 i hi).2.1.2)
      rw [hR p hp16, rc_gv] at er
      obtain ⟨nw', nn', w', b', a1, a2⟩ := ih f (p + 1) (vf_upd nw (16 * i + p) (nRV P i p).1) (upd nn (16 * i + p) (nRV P i p).2) (nRV P i p).1 (nRV P i p).2 (by omega) (by omega) (by rw [← Nat.add_assoc]; exact RI_up hI (by rw [NW_at hi hp16 hf0]) (by rw [NW_at hi hp16 hf0]))
      refine ⟨nw', nn', w', b', a1, ?_⟩
      rw [← a2]
      show gX11_reckonAll_51 σ K (lq3 (gX11_reckonAll_51 σ K) f) _ _ _ = _
      generalize lq3 (gX11_reckonAll_51 σ K) f = K2
      unfold gX11_reckonAll_51 gX11_reckonAll_128
      rw [if_neg (by rw [l16, o_le (by omega) (by omega)]; omega), l4, if_pos ((ixo (by omega)).mpr (by omega)), tn (by omega), m0, if_pos (i32_0.mpr hf0), er, eidx]
      simp only [Option.bind_some]
      rw [if_pos hix, if_pos hix, tn (by omega), o_succ, show vp_nar .boolean (m_isNone (m_now_ (rcS σ nw nn (nRV P i p).1 (nRV P i p).2) (vf_upd (m_now (rcS σ nw nn (nRV P i p).1 (nRV P i p).2)) (16 * i + p) (m_worth (rcS σ nw nn (nRV P i p).1 (nRV P i p).2))))) = (nRV P i p).2 from nar01 hO.2.1]
      rfl
    · have hB := hW.1 (16 * i + p) (by omega)
      have t1 := hM.1 (16 * i + p) (by omega)
      obtain ⟨nw', nn', w', b', a1, a2⟩ := ih f (p + 1) (vf_upd nw (16 * i + p) (pT P (16 * i + p))) (upd nn (16 * i + p) (pB P (16 * i + p))) w b (by omega) (by omega) (by rw [← Nat.add_assoc]; exact RI_up hI (by rw [NW_told hp16 (by omega)]) (by rw [NW_told hp16 (by omega)]))
      refine ⟨nw', nn', w', b', a1, ?_⟩
      rw [← a2]
      show gX11_reckonAll_51 σ K (lq3 (gX11_reckonAll_51 σ K) f) _ _ _ = _
      generalize lq3 (gX11_reckonAll_51 σ K) f = K2
      unfold gX11_reckonAll_51 gX11_reckonAll_128
      rw [if_neg (by rw [l16, o_le (by omega) (by omega)]; omega), l4, if_pos ((ixo (by omega)).mpr (by omega)), tn (by omega), m0, if_neg (fun c => hf0 (i32_0.mp c)), eidx]
      rw [if_pos hix, if_pos hix, if_pos hix, if_pos hix, tn (by omega), o_succ, show m_told (rcS σ nw nn w b) (16 * i + p) = pT P (16 * i + p) from t1.1, show vp_nar .boolean (m_blank (m_now_ (rcS σ nw nn w b) (vf_upd (m_now (rcS σ nw nn w b)) (16 * i + p) (pT P (16 * i + p)))) (16 * i + p)) = pB P (16 * i + p) from by
        show vp_nar .boolean (m_blank σ (16 * i + p)) = _
        rw [t1.2]; exact nar01 hB.2.1]
      rfl
theorem rcB {σ : MS} {P : PT} (hM : MP σ P) (hW : WF P) : ∀ (k f i : Nat) (nw : Nat → UInt64) (nn : Nat → Int32) (w : UInt64) (b : Int32), i + k = 12 → k < f → RI P (16 * i) nw nn → ∃ nw' nn' w' b', RI P 192 nw' nn' ∧ lq2 (gX11_reckonAll_43 σ) f (rcS σ nw nn w b) (Int32.ofNat i) = some (rcS σ nw' nn' w' b') := by
  intro k
  induction k with
  | zero =>
    intro f i nw nn w b hi hf hI
    obtain ⟨f, rfl⟩ : ∃ g, f = g + 1 := ⟨f - 1, by omega⟩
    obtain rfl : i = 12 := by omega
    refine ⟨nw, nn, w, b, hI, ?_⟩
    show gX11_reckonAll_43 σ _ _ _ = _
    unfold gX11_reckonAll_43
    rw [if_pos (by decide)]
  | succ k ih =>
    intro f i nw nn w b hi hf hI
    obtain ⟨f, rfl⟩ : ∃ g, f = g + 1 := ⟨f - 1, by omega⟩
    obtain ⟨nw1, nn1, w1, b1, a1, a2⟩ := rcC hM hW (i := i) (by omega) (lq2 (gX11_reckonAll_43 σ) f) 16 20 0 nw nn w b rfl (by decide) hI
    obtain ⟨nw2, nn2, w2, b2, c1, c2⟩ := ih f (i + 1) nw1 nn1 w1 b1 (by omega) (by omega) (by rw [Nat.mul_add]; exact a1)
    refine ⟨nw2, nn2, w2, b2, c1, ?_⟩
    show gX11_reckonAll_43 σ (lq2 (gX11_reckonAll_43 σ) f) _ _ = _
    unfold gX11_reckonAll_43
    rw [if_neg (by rw [show (12 : Int32) = Int32.ofNat 12 from rfl, o_le (by omega) (by omega)]; omega)]
    exact a2.trans c2
theorem rcA {σ : MS} {P : PT} (hM : MP σ P) (hW : WF P) : ∀ (k f q : Nat) (nw : Nat → UInt64) (nn : Nat → Int32) (w : UInt64) (b : Int32), q + k = 200 → 192 ≤ q → k < f → (∀ j, 192 ≤ j → j < q → nw j = (NW P 12 j).1 ∧ nn j = (NW P 12 j).2) → ∃ nw' nn' w' b', RI P 192 nw' nn' ∧ lq2 (gX11_reckonAll_4 σ) f (rcS σ nw nn w b) (Int32.ofNat q) = some (rcS σ nw' nn' w' b') := by
  intro k
  induction k with
  | zero =>
    intro f q nw nn w b hq hl hf hI
    obtain ⟨f, rfl⟩ : ∃ g, f = g + 1 := ⟨f - 1, by omega⟩
    obtain rfl : q = 200 := by omega
    obtain ⟨nw1, nn1, w1, b1, a1, a2⟩ := rcB hM hW 12 20 0 nw nn w b rfl (by decide) (fun j hj => hI j (by omega) (by omega))
    refine ⟨nw1, nn1, w1, b1, a1, ?_⟩
    show gX11_reckonAll_4 σ _ _ _ = _
    unfold gX11_reckonAll_4
    rw [if_pos (by decide)]
    exact a2
  | succ k ih =>
    intro f q nw nn w b hq hl hf hI
    obtain ⟨f, rfl⟩ : ∃ g, f = g + 1 := ⟨f - 1, by omega⟩
    have hix : ix (Int32.ofNat q) 200 := (ixo (by omega)).mpr (by omega)
    have hB := hW.1 q (by omega)
    have t1 := hM.1 q (by omega)
    obtain ⟨nw', nn', w', b', a1, a2⟩ := ih f (q + 1) (vf_upd nw q (pT P q)) (upd nn q (pB P q)) w b (by omega) (by omega) (by omega) (fun j h1 h2 => by
      by_cases e : j = q
      · subst e
        show (if j = j then pT P j else nw j) = _ ∧ (if j = j then pB P j else nn j) = _
        rw [if_pos rfl, if_pos rfl, NW_const (Nat.le_refl _) hl]; exact ⟨rfl, rfl⟩
      · show (if j = q then pT P q else nw j) = _ ∧ (if j = q then pB P q else nn j) = _
        rw [if_neg e, if_neg e]; exact hI j h1 (by omega))
    refine ⟨nw', nn', w', b', a1, ?_⟩
    rw [← a2]
    show gX11_reckonAll_4 σ (lq2 (gX11_reckonAll_4 σ) f) _ _ = _
    generalize lq2 (gX11_reckonAll_4 σ) f = K2
    unfold gX11_reckonAll_4
    rw [if_neg (by rw [show (200 : Int32) = Int32.ofNat 200 from rfl, o_le (by omega) (by omega)]; omega), if_pos hix, if_pos hix, if_pos hix, if_pos hix, tn (by omega), o_succ, show m_told (rcS σ nw nn w b) q = pT P q from t1.1, show vp_nar .boolean (m_blank (m_now_ (rcS σ nw nn w b) (vf_upd (m_now (rcS σ nw nn w b)) q (pT P q))) q) = pB P q from by
        show vp_nar .boolean (m_blank σ q) = _
        rw [t1.2]; exact nar01 hB.2.1]
    rfl
theorem reckAll {σ : MS} {P : PT} (hM : MP σ P) (hW : WF P) : ∃ nw nn w b, RI P 192 nw nn ∧ gX11_reckonAll σ = some (rcS σ nw nn w b) :=
  rcA hM hW 8 20 192 (m_now σ) (m_none σ) (m_worth σ) (m_isNone σ) rfl (by decide) (by decide) (fun j h1 h2 => absurd h2 (by omega))
