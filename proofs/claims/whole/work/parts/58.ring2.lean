/-! ring, the loop over the alarms -/
theorem BR_al (β : BS) (a1 a2 a3 a4 a5 a6 : Nat → Int32) (rn : Int32) (P : PT) : BR (alS β a1 a2 a3 a4 a5 a6 rn) P = BR β P := rfl
theorem FR_al (β : BS) (a1 a2 a3 a4 a5 a6 : Nat → Int32) (rn : Int32) (P : PT) (m : Nat) : FR (alS β a1 a2 a3 a4 a5 a6 rn) P m = FR β P m := rfl
theorem or_z (x : Int32) : x ||| 0 = x := by simp
theorem ring21 (σ τ : MS) (k8 : MS → Int32 → Int32 → Option (MS × Int32)) (k21 : MS → Int32 → Int32 → Int32 → Int32 → Option (MS × Int32)) (he ra lo : Nat → Int32) (v1 v2 v3 v4 : Int32) : gX11_ring_21 σ k8 k21 (amS τ he ra lo) v1 v2 v3 v4 = if (16 : Int32) ≤ v4 then (if ix v2 10 then (if ix v2 10 then (if ix v2 10 then (if ix v2 10 then (if ix v2 10 then ((gX11_manyBits (upd ra v2.toNatClampNeg (v3 &&& (he v2.toNatClampNeg ^^^ (-1 : Int32))) v2.toNatClampNeg)).bind (fun r2 => k8 (amS τ (upd he v2.toNatClampNeg v3) (upd ra v2.toNatClampNeg (v3 &&& (he v2.toNatClampNeg ^^^ (-1 : Int32)))) (upd lo v2.toNatClampNeg (vp_nar .boolean (1 : Int32)))) (v1 + r2) (v2 + (1 : Int32)))) else none) else none) else none) else none) else none) else ((gX11_holds (amS τ he ra lo) v2 v4).bind (fun r3 => if r3 = 0 then k21 (amS τ he ra lo) v1 v2 (v3 ||| 0) (v4 + (1 : Int32)) else k21 (amS τ he ra lo) v1 v2 (v3 ||| ((1 : Int32) <<< (v4 &&& 31))) (v4 + (1 : Int32)))) := rfl
theorem upd_s (f : Nat → Int32) (k : Nat) (x : Int32) : upd f k x k = x := if_pos rfl
theorem upd_n {f : Nat → Int32} {k j : Nat} {x : Int32} (h : j ≠ k) : upd f k x j = f j := if_neg h
theorem rin {σ τ : MS} {he ra lo : Nat → Int32} {k : Nat} (hk : k < 10) {f : Nat → Int32} (hf : ∀ p, p < 16 → gX11_holds (amS τ he ra lo) (Int32.ofNat k) (Int32.ofNat p) = some (f p)) (k8 : MS → Int32 → Int32 → Option (MS × Int32)) {c : Int32} (hc : gX11_manyBits (mkb f 16 &&& (he k ^^^ (-1 : Int32))) = some c) (s : Int32) :
    ∀ (d g p : Nat), p + d = 16 → d < g → lq5 (gX11_ring_21 σ k8) g (amS τ he ra lo) s (Int32.ofNat k) (mkb f p) (Int32.ofNat p) = k8 (amS τ (upd he k (mkb f 16)) (upd ra k (mkb f 16 &&& (he k ^^^ (-1 : Int32)))) (upd lo k 1)) (s + c) (Int32.ofNat k + 1) := by
  intro d
  have hix : ix (Int32.ofNat k) 10 := (ixo (by omega)).mpr hk
  induction d with
  | zero =>
    intro g p hp hg
    obtain ⟨g, rfl⟩ : ∃ g', g = g' + 1 := ⟨g - 1, by omega⟩
    obtain rfl : p = 16 := by omega
    show gX11_ring_21 σ k8 _ _ _ _ _ _ = _
    rw [ring21, if_pos (by decide), if_pos hix, if_pos hix, if_pos hix, if_pos hix, if_pos hix, tn (by omega), upd_s, hc]
    simp only [Option.bind_some]
    rw [nar01 (.inr rfl)]
  | succ d ih =>
    intro g p hp hg
    obtain ⟨g, rfl⟩ : ∃ g', g = g' + 1 := ⟨g - 1, by omega⟩
    have := ih g (p + 1) (by omega) (by omega)
    show gX11_ring_21 σ k8 (lq5 (gX11_ring_21 σ k8) g) _ _ _ _ _ = _
    generalize lq5 (gX11_ring_21 σ k8) g = K at this ⊢
    rw [ring21, if_neg (by rw [l16, o_le (by omega) (by omega)]; omega), hf p (by omega)]
    simp only [Option.bind_some]
    rw [o_succ, or_z]
    have em : mkb f (p + 1) = if f p = 0 then mkb f p else mkb f p ||| ((1 : Int32) <<< (Int32.ofNat p &&& 31)) := rfl
    rw [em] at this
    by_cases c : f p = 0
    · rw [if_pos c]; rw [if_pos c] at this; exact this
    · rw [if_neg c]; rw [if_neg c] at this; exact this
theorem ring20 (β0 β : BS) (k20 : BS → Int32 → Int32 → Option (BS × Int32)) (a1 a2 a3 a4 a5 a6 : Nat → Int32) (rn v1 v2 : Int32) : gX10_ring_20 β0 k20 (alS β a1 a2 a3 a4 a5 a6 rn) v1 v2 = if b_acnt β ≤ v2 then (some (alS β a1 a2 a3 a4 a5 a6 rn, v1)) else (if (10 : Int32) ≤ v2 then (some (alS β a1 a2 a3 a4 a5 a6 rn, v1)) else (if ix v2 10 then (if ix v2 10 then ((gX10_placesWhere (alS β a1 a2 a3 a4 a5 a6 rn) v2.toNatClampNeg).bind (fun r4 => if ix v2 10 then ((gJ6_bitCount_0f7a4 (va_up a6 v2.toNatClampNeg (r4 &&& (a5 v2.toNatClampNeg ^^^ (-1 : Int32))) v2.toNatClampNeg)).bind (fun r7 => k20 (alS β (va_up a1 v2.toNatClampNeg (a1 v2.toNatClampNeg)) (va_up a2 v2.toNatClampNeg (a2 v2.toNatClampNeg)) (va_up a3 v2.toNatClampNeg (a3 v2.toNatClampNeg)) (va_up a4 v2.toNatClampNeg 1) (va_up a5 v2.toNatClampNeg r4) (va_up a6 v2.toNatClampNeg (r4 &&& (a5 v2.toNatClampNeg ^^^ (-1 : Int32)))) rn) (v1 + r7) (v2 + (1 : Int32)))) else none)) else none) else none)) := rfl
theorem ring8 (σ τ : MS) (k8 : MS → Int32 → Int32 → Option (MS × Int32)) (he ra lo : Nat → Int32) (v1 v2 : Int32) : gX11_ring_8 σ k8 (amS τ he ra lo) v1 v2 = if m_alarmMany τ ≤ v2 then (some (amR τ he ra lo (m_rings τ + (1 : Int32)), v1)) else (lq5 (gX11_ring_21 σ k8) 20 (amS τ he ra lo) v1 v2 (0 : Int32) (0 : Int32)) := rfl
def AL (τ : MS) (a1 a2 a3 a4 a5 a6 he ra lo : Nat → Int32) : Prop := ∀ k, k < 10 → (a1 k = m_alarms τ (3 * k) ∧ a2 k = m_alarms τ (3 * k + 1) ∧ a3 k = m_alarms τ (3 * k + 2)) ∧ (a4 k = lo k ∧ a5 k = he k ∧ a6 k = ra k) ∧ (M16 (he k) ∧ M16 (ra k))
def VA (τ : MS) (k : Nat) : Prop := (0 ≤ (m_alarms τ (3 * k)).toInt ∧ (m_alarms τ (3 * k)).toInt < 12) ∧ (0 ≤ (m_alarms τ (3 * k + 1)).toInt ∧ (m_alarms τ (3 * k + 1)).toInt ≤ 11) ∧ (0 ≤ (m_alarms τ (3 * k + 2)).toInt ∧ ((m_alarms τ (3 * k + 2)).toInt < 12 ∨ (16 ≤ (m_alarms τ (3 * k + 2)).toInt ∧ (m_alarms τ (3 * k + 2)).toInt < 24)))
theorem ringL {β0 β : BS} {σ τ : MS} {P : PT} {am : Nat} (hW : WF P) (hB : BR β P) (hR : FR β P 12) (hRI : RI P 192 (m_now τ) (m_none τ)) (ham : am ≤ 10) (hac : b_acnt β = Int32.ofNat am) (hmm : m_alarmMany τ = Int32.ofNat am) (rn : Int32) (hv : ∀ k, k < am → VA τ k) :
    ∀ (d g k : Nat) (s : Int32) (a1 a2 a3 a4 a5 a6 he ra lo : Nat → Int32), k + d = am → d < g → AL τ a1 a2 a3 a4 a5 a6 he ra lo → ∃ a1' a2' a3' a4' a5' a6' he' ra' lo' r, lq3 (gX10_ring_20 β0) g (alS β a1 a2 a3 a4 a5 a6 rn) s (Int32.ofNat k) = some (alS β a1' a2' a3' a4' a5' a6' rn, r) ∧ lq3 (gX11_ring_8 σ) g (amS τ he ra lo) s (Int32.ofNat k) = some (amR τ he' ra' lo' (m_rings τ + (1 : Int32)), r) ∧ AL τ a1' a2' a3' a4' a5' a6' he' ra' lo' := by
  intro d
  induction d with
  | zero =>
    intro g k s a1 a2 a3 a4 a5 a6 he ra lo hk hg hA
    obtain ⟨g, rfl⟩ : ∃ g', g = g' + 1 := ⟨g - 1, by omega⟩
    obtain rfl : k = am := by omega
    refine ⟨a1, a2, a3, a4, a5, a6, he, ra, lo, s, ?_, ?_, hA⟩
    · show gX10_ring_20 β0 _ _ _ _ = _
      rw [ring20, hac, if_pos (by rw [o_le (by omega) (by omega)]; omega)]
    · show gX11_ring_8 σ _ _ _ _ = _
      rw [ring8, hmm, if_pos (by rw [o_le (by omega) (by omega)]; omega)]
  | succ d ih =>
    intro g k s a1 a2 a3 a4 a5 a6 he ra lo hk hg hA
    obtain ⟨g, rfl⟩ : ∃ g', g = g' + 1 := ⟨g - 1, by omega⟩
    have hk10 : k < 10 := by omega
    have hix : ix (Int32.ofNat k) 10 := (ixo (by omega)).mpr hk10
    obtain ⟨⟨e1, e2, e3⟩, ⟨e4, e5, e6⟩, m1, m2⟩ := hA k hk10
    obtain ⟨w1, w2, w3⟩ := hv k (by omega)
    have pw : gX10_placesWhere (alS β a1 a2 a3 a4 a5 a6 rn) k = some (mkb (hh P (a1 k) (a2 k) (a3 k)) 16) :=
      pwE (β := alS β a1 a2 a3 a4 a5 a6 rn) hW (by rw [BR_al]; exact hB) (by rw [FR_al]; exact hR) (j := k) (show 0 ≤ (a1 k).toInt ∧ (a1 k).toInt < 12 by rw [e1]; exact w1) (show 0 ≤ (a2 k).toInt ∧ (a2 k).toInt ≤ 11 by rw [e2]; exact w2) (show 0 ≤ (a3 k).toInt ∧ ((a3 k).toInt < 12 ∨ (16 ≤ (a3 k).toInt ∧ (a3 k).toInt < 24)) by rw [e3]; exact w3)
    have hd : ∀ p, p < 16 → gX11_holds (amS τ he ra lo) (Int32.ofNat k) (Int32.ofNat p) = some (hh P (a1 k) (a2 k) (a3 k) p) := by
      intro p hp
      rw [e1, e2, e3]
      exact holdE (τ := amS τ he ra lo) hW hRI hk10 hp w1 w2 w3
    generalize hh P (a1 k) (a2 k) (a3 k) = f at pw hd
    obtain ⟨c, b1, b2⟩ := bits_same (M16_and (y := he k ^^^ (-1 : Int32)) (mkb_M (f := f) 16 (Nat.le_refl _)))
    have hA' : AL τ (va_up a1 k (a1 k)) (va_up a2 k (a2 k)) (va_up a3 k (a3 k)) (va_up a4 k 1) (va_up a5 k (mkb f 16)) (va_up a6 k (mkb f 16 &&& (he k ^^^ (-1 : Int32)))) (upd he k (mkb f 16)) (upd ra k (mkb f 16 &&& (he k ^^^ (-1 : Int32)))) (upd lo k 1) := by
      intro j hj
      by_cases ej : j = k
      · subst ej
        rw [va_up_self, va_up_self, va_up_self, va_up_self, va_up_self, va_up_self, upd_s, upd_s, upd_s]
        exact ⟨⟨e1, e2, e3⟩, ⟨rfl, rfl, rfl⟩, mkb_M 16 (Nat.le_refl _), M16_and (mkb_M 16 (Nat.le_refl _))⟩
      · rw [va_up_ne _ _ ej, va_up_ne _ _ ej, va_up_ne _ _ ej, va_up_ne _ _ ej, va_up_ne _ _ ej, va_up_ne _ _ ej, upd_n ej, upd_n ej, upd_n ej]
        exact hA j hj
    obtain ⟨a1', a2', a3', a4', a5', a6', he', ra', lo', r, r1, r2, r3⟩ := ih g (k + 1) (s + c) _ _ _ _ _ _ _ _ _ (by omega) (by omega) hA'
    refine ⟨a1', a2', a3', a4', a5', a6', he', ra', lo', r, ?_, ?_, r3⟩
    · show gX10_ring_20 β0 (lq3 (gX10_ring_20 β0) g) _ _ _ = _
      generalize lq3 (gX10_ring_20 β0) g = K at r1 ⊢
      rw [ring20, hac, if_neg (by rw [o_le (by omega) (by omega)]; omega), if_neg (by rw [show (10 : Int32) = Int32.ofNat 10 from rfl, o_le (by omega) (by omega)]; omega), if_pos hix, if_pos hix, tn (by omega), pw]
      simp only [Option.bind_some]
      rw [if_pos hix, va_up_self, e5, b1]
      simp only [Option.bind_some]
      rw [o_succ]; exact r1
    · show gX11_ring_8 σ (lq3 (gX11_ring_8 σ) g) _ _ _ = _
      rw [ring8, hmm, if_neg (by rw [o_le (by omega) (by omega)]; omega)]
      have := rin (σ := σ) (τ := τ) (he := he) (ra := ra) (lo := lo) hk10 hd (lq3 (gX11_ring_8 σ) g) b2 s 16 20 0 rfl (by decide)
      rw [o_succ, r2] at this
      exact this
theorem alg_nar (β : BS) (a1 a2 a3 a4 a5 a6 : Nat → Int32) (rn : Int32) : b_nar (alS β a1 a2 a3 a4 a5 a6 rn) = b_nar β := rfl
theorem alg_ff (β : BS) (a1 a2 a3 a4 a5 a6 : Nat → Int32) (rn : Int32) : b_ff (alS β a1 a2 a3 a4 a5 a6 rn) = b_ff β := rfl
theorem alg_fa (β : BS) (a1 a2 a3 a4 a5 a6 : Nat → Int32) (rn : Int32) : b_fa (alS β a1 a2 a3 a4 a5 a6 rn) = b_fa β := rfl
theorem alg_fb (β : BS) (a1 a2 a3 a4 a5 a6 : Nat → Int32) (rn : Int32) : b_fb (alS β a1 a2 a3 a4 a5 a6 rn) = b_fb β := rfl
theorem alg_fc (β : BS) (a1 a2 a3 a4 a5 a6 : Nat → Int32) (rn : Int32) : b_fc (alS β a1 a2 a3 a4 a5 a6 rn) = b_fc β := rfl
theorem alg_num (β : BS) (a1 a2 a3 a4 a5 a6 : Nat → Int32) (rn : Int32) : b_num (alS β a1 a2 a3 a4 a5 a6 rn) = b_num β := rfl
theorem alg_bl (β : BS) (a1 a2 a3 a4 a5 a6 : Nat → Int32) (rn : Int32) : b_bl (alS β a1 a2 a3 a4 a5 a6 rn) = b_bl β := rfl
theorem alg_cn (β : BS) (a1 a2 a3 a4 a5 a6 : Nat → Int32) (rn : Int32) : b_cn (alS β a1 a2 a3 a4 a5 a6 rn) = b_cn β := rfl
theorem alg_cb (β : BS) (a1 a2 a3 a4 a5 a6 : Nat → Int32) (rn : Int32) : b_cb (alS β a1 a2 a3 a4 a5 a6 rn) = b_cb β := rfl
theorem alg_acnt (β : BS) (a1 a2 a3 a4 a5 a6 : Nat → Int32) (rn : Int32) : b_acnt (alS β a1 a2 a3 a4 a5 a6 rn) = b_acnt β := rfl
theorem alg_lat (β : BS) (a1 a2 a3 a4 a5 a6 : Nat → Int32) (rn : Int32) : b_lat (alS β a1 a2 a3 a4 a5 a6 rn) = b_lat β := rfl
theorem alg_chg (β : BS) (a1 a2 a3 a4 a5 a6 : Nat → Int32) (rn : Int32) : b_chg (alS β a1 a2 a3 a4 a5 a6 rn) = b_chg β := rfl
theorem alg_frs (β : BS) (a1 a2 a3 a4 a5 a6 : Nat → Int32) (rn : Int32) : b_frs (alS β a1 a2 a3 a4 a5 a6 rn) = b_frs β := rfl
theorem alg_a1 (β : BS) (a1 a2 a3 a4 a5 a6 : Nat → Int32) (rn : Int32) : b_a1 (alS β a1 a2 a3 a4 a5 a6 rn) = a1 := rfl
theorem alg_a2 (β : BS) (a1 a2 a3 a4 a5 a6 : Nat → Int32) (rn : Int32) : b_a2 (alS β a1 a2 a3 a4 a5 a6 rn) = a2 := rfl
theorem alg_a3 (β : BS) (a1 a2 a3 a4 a5 a6 : Nat → Int32) (rn : Int32) : b_a3 (alS β a1 a2 a3 a4 a5 a6 rn) = a3 := rfl
theorem alg_a4 (β : BS) (a1 a2 a3 a4 a5 a6 : Nat → Int32) (rn : Int32) : b_a4 (alS β a1 a2 a3 a4 a5 a6 rn) = a4 := rfl
theorem alg_a5 (β : BS) (a1 a2 a3 a4 a5 a6 : Nat → Int32) (rn : Int32) : b_a5 (alS β a1 a2 a3 a4 a5 a6 rn) = a5 := rfl
theorem alg_a6 (β : BS) (a1 a2 a3 a4 a5 a6 : Nat → Int32) (rn : Int32) : b_a6 (alS β a1 a2 a3 a4 a5 a6 rn) = a6 := rfl
theorem alg_rngs (β : BS) (a1 a2 a3 a4 a5 a6 : Nat → Int32) (rn : Int32) : b_rngs (alS β a1 a2 a3 a4 a5 a6 rn) = rn := rfl
theorem amg_told (σ : MS) (he ra lo : Nat → Int32) (ri : Int32) : m_told (amR σ he ra lo ri) = m_told σ := rfl
theorem amg_blank (σ : MS) (he ra lo : Nat → Int32) (ri : Int32) : m_blank (amR σ he ra lo ri) = m_blank σ := rfl
theorem amg_narrow (σ : MS) (he ra lo : Nat → Int32) (ri : Int32) : m_narrow (amR σ he ra lo ri) = m_narrow σ := rfl
theorem amg_made (σ : MS) (he ra lo : Nat → Int32) (ri : Int32) : m_made (amR σ he ra lo ri) = m_made σ := rfl
theorem amg_toldThen (σ : MS) (he ra lo : Nat → Int32) (ri : Int32) : m_toldThen (amR σ he ra lo ri) = m_toldThen σ := rfl
theorem amg_blankThen (σ : MS) (he ra lo : Nat → Int32) (ri : Int32) : m_blankThen (amR σ he ra lo ri) = m_blankThen σ := rfl
theorem amg_narrowThen (σ : MS) (he ra lo : Nat → Int32) (ri : Int32) : m_narrowThen (amR σ he ra lo ri) = m_narrowThen σ := rfl
theorem amg_madeThen (σ : MS) (he ra lo : Nat → Int32) (ri : Int32) : m_madeThen (amR σ he ra lo ri) = m_madeThen σ := rfl
theorem amg_changes (σ : MS) (he ra lo : Nat → Int32) (ri : Int32) : m_changes (amR σ he ra lo ri) = m_changes σ := rfl
theorem amg_alarms (σ : MS) (he ra lo : Nat → Int32) (ri : Int32) : m_alarms (amR σ he ra lo ri) = m_alarms σ := rfl
theorem amg_alarmMany (σ : MS) (he ra lo : Nat → Int32) (ri : Int32) : m_alarmMany (amR σ he ra lo ri) = m_alarmMany σ := rfl
theorem amg_held (σ : MS) (he ra lo : Nat → Int32) (ri : Int32) : m_held (amR σ he ra lo ri) = he := rfl
theorem amg_rang (σ : MS) (he ra lo : Nat → Int32) (ri : Int32) : m_rang (amR σ he ra lo ri) = ra := rfl
theorem amg_looked (σ : MS) (he ra lo : Nat → Int32) (ri : Int32) : m_looked (amR σ he ra lo ri) = lo := rfl
theorem amg_rings (σ : MS) (he ra lo : Nat → Int32) (ri : Int32) : m_rings (amR σ he ra lo ri) = ri := rfl
theorem al_IV {G : GG} {z t : Nat} {β : BS} {b : Nat → va_E} {N : Nat} {σ : MS} {n : Nat} {P : Nat → PT} {fr am : Nat} (h : IV G z t β b N σ n P fr am) {a1 a2 a3 a4 a5 a6 he ra lo : Nat → Int32} (hA : AL σ a1 a2 a3 a4 a5 a6 he ra lo) : IV G z t (alS β a1 a2 a3 a4 a5 a6 (b_rngs β + 1)) b N (amR σ he ra lo (m_rings σ + 1)) n P fr am := by
  obtain ⟨g1, g2, g3, g4, g5, k1, k2, k3, k4, k5⟩ := h
  refine ⟨g1, g2, ⟨?_, ?_, ?_⟩, ⟨?_, ?_, ?_, ?_⟩, ?_, ?_⟩
  · unfold MP; rw [amg_told, amg_blank, amg_narrow, amg_made]; exact g3.1
  · intro j hj
    have := g3.2.1 j hj
    unfold MT at this ⊢
    rw [amg_toldThen, amg_blankThen, amg_narrowThen, amg_madeThen]; exact this
  · rw [amg_changes]; exact g3.2.2
  · rw [BR_al]; exact g4.1
  · rw [FR_al]; exact g4.2.1
  · rw [alg_frs]; exact g4.2.2.1
  · rw [alg_chg]; exact g4.2.2.2
  · rw [alg_lat]; exact g5
  · unfold ALM
    rw [alg_acnt, amg_alarmMany, alg_rngs, amg_rings, k4]
    refine ⟨k1, k2, k3, rfl, fun k hk => ?_⟩
    rw [alg_a1, alg_a2, alg_a3, alg_a4, alg_a5, alg_a6, amg_alarms, amg_held, amg_rang, amg_looked]
    exact ⟨(hA k hk).1, (hA k hk).2.1, (hA k hk).2.2, (k5 k hk).2.2.2⟩
theorem op_ring {G : GG} {z t : Nat} {β : BS} {b : Nat → va_E} {N : Nat} {σ : MS} {n : Nat} {P : Nat → PT} {fr am : Nat} (h : IV G z t β b N σ n P fr am) : ∃ (β' : BS) (σ' : MS) (r : Int32), gX10_ring β = some (β', r) ∧ gX11_ring σ = some (σ', r) ∧ Inv G z (t + 1) β' b N σ' := by
  obtain ⟨m, nu, bl, xn, xb, yn, yb, nw, nn, w, c, a1, a2, a3, a4, a5, a6⟩ := look1 h (i := 11) (by decide)
  have hm : m = 12 := by have := a6.1.2.2; omega
  subst hm
  have hRI : RI (P n) 192 (m_now (rcS σ nw nn w c)) (m_none (rcS σ nw nn w c)) := a5
  generalize rfS β nu bl xn xb yn yb (Int32.ofNat 12) = β1 at a1 a6
  generalize rcS σ nw nn w c = σ1 at a2 a6 hRI
  have a6' := a6
  obtain ⟨g1, g2, g3, g4, g5, k1, k2, k3, k4, k5⟩ := a6
  obtain ⟨a1', a2', a3', a4', a5', a6'', he', ra', lo', r, r1, r2, r3⟩ := ringL (β0 := β) (σ := σ) (g2 n (Nat.le_refl _)) g4.1 g4.2.1 hRI k1 k2 k3 (b_rngs β1 + 1) (fun k hk => (k5 k (by omega)).2.2.2 hk) am 20 0 0 (b_a1 β1) (b_a2 β1) (b_a3 β1) (b_a4 β1) (b_a5 β1) (b_a6 β1) (m_held σ1) (m_rang σ1) (m_looked σ1) (by omega) (by omega) (fun k hk => ⟨(k5 k hk).1, (k5 k hk).2.1, (k5 k hk).2.2.1⟩)
  rw [am_self] at r2
  rw [← al_self] at r1
  refine ⟨alS β1 a1' a2' a3' a4' a5' a6'' (b_rngs β1 + 1), amR σ1 he' ra' lo' (m_rings σ1 + 1), r, ?_, ?_, n, P, 12, am, al_IV a6' r3⟩
  · unfold gX10_ring
    rw [show gX10_refresh β 11 = some β1 from a1]
    simp only [Option.bind_some]
    generalize lq3 (gX10_ring_20 β) 20 = K at r1 ⊢
    exact r1
  · unfold gX11_ring
    rw [a2]
    simp only [Option.bind_some]
    generalize lq3 (gX11_ring_8 σ) 20 = K at r2 ⊢
    exact r2
