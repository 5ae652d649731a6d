/-! ring -/
def alS (β : BS) (a1 a2 a3 a4 a5 a6 : Nat → Int32) (rn : Int32) : BS := (β.1, β.2.1, β.2.2.1, β.2.2.2.1, β.2.2.2.2.1, β.2.2.2.2.2.1, β.2.2.2.2.2.2.1, β.2.2.2.2.2.2.2.1, β.2.2.2.2.2.2.2.2.1, β.2.2.2.2.2.2.2.2.2.1, β.2.2.2.2.2.2.2.2.2.2.1, β.2.2.2.2.2.2.2.2.2.2.2.1, β.2.2.2.2.2.2.2.2.2.2.2.2.1, a1, a2, a3, a4, a5, a6, β.2.2.2.2.2.2.2.2.2.2.2.2.2.2.2.2.2.2.2.1, rn, β.2.2.2.2.2.2.2.2.2.2.2.2.2.2.2.2.2.2.2.2.2.1, β.2.2.2.2.2.2.2.2.2.2.2.2.2.2.2.2.2.2.2.2.2.2.1, β.2.2.2.2.2.2.2.2.2.2.2.2.2.2.2.2.2.2.2.2.2.2.2)
theorem al_self (β : BS) (v : Int32) : b_rngs_ β v = alS β (b_a1 β) (b_a2 β) (b_a3 β) (b_a4 β) (b_a5 β) (b_a6 β) v := rfl
theorem al_up (β : BS) (a1 a2 a3 a4 a5 a6 : Nat → Int32) (rn : Int32) (k : Nat) (v1 v2 v3 v4 v5 v6 : Int32) : b_alm_ (alS β a1 a2 a3 a4 a5 a6 rn) k v1 v2 v3 v4 v5 v6 = alS β (va_up a1 k v1) (va_up a2 k v2) (va_up a3 k v3) (va_up a4 k v4) (va_up a5 k v5) (va_up a6 k v6) rn := rfl
def amS (σ : MS) (he ra lo : Nat → Int32) : MS := (σ.1, σ.2.1, σ.2.2.1, σ.2.2.2.1, σ.2.2.2.2.1, σ.2.2.2.2.2.1, σ.2.2.2.2.2.2.1, σ.2.2.2.2.2.2.2.1, σ.2.2.2.2.2.2.2.2.1, σ.2.2.2.2.2.2.2.2.2.1, σ.2.2.2.2.2.2.2.2.2.2.1, σ.2.2.2.2.2.2.2.2.2.2.2.1, he, ra, lo, σ.2.2.2.2.2.2.2.2.2.2.2.2.2.2.2.1, σ.2.2.2.2.2.2.2.2.2.2.2.2.2.2.2.2.1, σ.2.2.2.2.2.2.2.2.2.2.2.2.2.2.2.2.2.1, σ.2.2.2.2.2.2.2.2.2.2.2.2.2.2.2.2.2.2)
theorem am_self (σ : MS) : amS σ (m_held σ) (m_rang σ) (m_looked σ) = σ := rfl
theorem am_up (σ : MS) (he ra lo he' ra' lo' : Nat → Int32) : m_looked_ (m_held_ (m_rang_ (amS σ he ra lo) ra') he') lo' = amS σ he' ra' lo' := rfl
def amR (σ : MS) (he ra lo : Nat → Int32) (ri : Int32) : MS := (σ.1, σ.2.1, σ.2.2.1, σ.2.2.2.1, σ.2.2.2.2.1, σ.2.2.2.2.2.1, σ.2.2.2.2.2.2.1, σ.2.2.2.2.2.2.2.1, σ.2.2.2.2.2.2.2.2.1, σ.2.2.2.2.2.2.2.2.2.1, σ.2.2.2.2.2.2.2.2.2.2.1, σ.2.2.2.2.2.2.2.2.2.2.2.1, he, ra, lo, σ.2.2.2.2.2.2.2.2.2.2.2.2.2.2.2.1, ri, σ.2.2.2.2.2.2.2.2.2.2.2.2.2.2.2.2.2.1, σ.2.2.2.2.2.2.2.2.2.2.2.2.2.2.2.2.2.2)
theorem am_ri (σ : MS) (he ra lo : Nat → Int32) (ri : Int32) : m_rings_ (amS σ he ra lo) ri = amR σ he ra lo ri := rfl
def mkb (f : Nat → Int32) : Nat → Int32
  | 0 => 0
  | p + 1 => if f p = 0 then mkb f p else mkb f p ||| ((1 : Int32) <<< (Int32.ofNat p &&& 31))
theorem mkb_M {f : Nat → Int32} : ∀ p, p ≤ 16 → M16 (mkb f p)
  | 0, _ => M16_0
  | p + 1, hp => by
    show M16 (if f p = 0 then mkb f p else mkb f p ||| ((1 : Int32) <<< (Int32.ofNat p &&& 31)))
    split
    · exact mkb_M p (by omega)
    · exact M16_or (mkb_M p (by omega)) (by omega)
def hh (P : PT) (a c d : Int32) (p : Nat) : Int32 := so c (NW P 12 (atN a p)).1 (NW P 12 (atN a p)).2 (NW P 12 (atN d p)).1 (NW P 12 (atN d p)).2
theorem pwC {β : BS} {j A B : Nat} {f : Nat → Int32} (hA : A < 12) (ha : b_a1 β j = Int32.ofNat A) (hb : b_a3 β j = Int32.ofNat B) (hB : B < 12) (ho : 0 ≤ (b_a2 β j).toInt ∧ (b_a2 β j).toInt ≤ 11)
    (h1 : ∀ p, p < 16 → NN (b_num β A p) ∧ (b_bl β A p = 0 ∨ b_bl β A p = 1)) (h2 : ∀ p, p < 16 → NN ((b_num β B) p) ∧ ((b_bl β B) p = 0 ∨ (b_bl β B) p = 1))
    (e1 : ∀ p, p < 16 → so (b_a2 β j) (b_num β A p) (b_bl β A p) ((b_num β B) p) ((b_bl β B) p) = f p) :
    ∀ (k g p : Nat), p + k = 16 → k < g → lq2 (gX10_placesWhereC_28 β j) g (mkb f p) (Int32.ofNat p) = some (mkb f 16) := by
  intro k
  induction k with
  | zero =>
    intro g p hp hg
    obtain ⟨g, rfl⟩ : ∃ g', g = g' + 1 := ⟨g - 1, by omega⟩
    obtain rfl : p = 16 := by omega
    show gX10_placesWhereC_28 β j _ _ _ = _
    unfold gX10_placesWhereC_28
    rw [if_pos (by decide)]
  | succ k ih =>
    intro g p hp hg
    obtain ⟨g, rfl⟩ : ∃ g', g = g' + 1 := ⟨g - 1, by omega⟩
    have hp16 : p < 16 := by omega
    have hq : p < 16 := by omega
    have := ih g (p + 1) (by omega) (by omega)
    have pin : gX10_placeIn (b_a3 β j) (Int32.ofNat p) = some (Int32.ofNat p) := by unfold gX10_placeIn; rw [hb, src_0 (by rw [o_int (by omega)]; omega)]; rfl
    have e := isSoC 16 (b_num β A) (b_bl β A) 16 (b_num β B) (b_bl β B) (b_a2 β j) (Int32.ofNat p) (Int32.ofNat p) ho ((ixo (by omega)).mpr hp16) ((ixo (by omega)).mpr hq) (by rw [tn (by omega)]; exact (h1 p hp16).2) (by rw [tn (by omega)]; exact (h2 p hp16).2) (by rw [tn (by omega)]; exact (h1 p hp16).1) (by rw [tn (by omega)]; exact (h2 p hp16).1)
    rw [tn (show p < 2147483648 by omega), e1 p hp16] at e
    show gX10_placesWhereC_28 β j (lq2 (gX10_placesWhereC_28 β j) g) _ _ = _
    generalize lq2 (gX10_placesWhereC_28 β j) g = K2 at this ⊢
    unfold gX10_placesWhereC_28 gX10_placesWhereC_67
    rw [if_neg (by rw [l16, o_le (by omega) (by omega)]; omega), pin]
    simp only [Option.bind_some]
    rw [ha, tn (show A < 2147483648 by omega), hb, tn (show B < 2147483648 by omega), e]
    simp only [Option.bind_some]
    rw [o_succ]
    have em : mkb f (p + 1) = if f p = 0 then mkb f p else mkb f p ||| ((1 : Int32) <<< (Int32.ofNat p &&& 31)) := rfl
    rw [em] at this
    by_cases c : f p = 0
    · rw [if_pos c]; rw [if_pos c] at this; exact this
    · rw [if_neg c]; rw [if_neg c] at this; exact this
theorem pwK {β : BS} {j A B : Nat} {f : Nat → Int32} (hA : A < 12) (ha : b_a1 β j = Int32.ofNat A) (hb : b_a3 β j = Int32.ofNat (B + 16)) (hB : B < 8) (ho : 0 ≤ (b_a2 β j).toInt ∧ (b_a2 β j).toInt ≤ 11)
    (h1 : ∀ p, p < 16 → NN (b_num β A p) ∧ (b_bl β A p = 0 ∨ b_bl β A p = 1)) (h2 : ∀ p, p < 16 → NN ((b_cn β) B) ∧ ((b_cb β) B = 0 ∨ (b_cb β) B = 1))
    (e1 : ∀ p, p < 16 → so (b_a2 β j) (b_num β A p) (b_bl β A p) ((b_cn β) B) ((b_cb β) B) = f p) :
    ∀ (k g p : Nat), p + k = 16 → k < g → lq2 (gX10_placesWhereK_28 β j) g (mkb f p) (Int32.ofNat p) = some (mkb f 16) := by
  intro k
  induction k with
  | zero =>
    intro g p hp hg
    obtain ⟨g, rfl⟩ : ∃ g', g = g' + 1 := ⟨g - 1, by omega⟩
    obtain rfl : p = 16 := by omega
    show gX10_placesWhereK_28 β j _ _ _ = _
    unfold gX10_placesWhereK_28
    rw [if_pos (by decide)]
  | succ k ih =>
    intro g p hp hg
    obtain ⟨g, rfl⟩ : ∃ g', g = g' + 1 := ⟨g - 1, by omega⟩
    have hp16 : p < 16 := by omega
    have hq : B < 8 := by omega
    have := ih g (p + 1) (by omega) (by omega)
    have pin : gX10_placeIn (b_a3 β j) (Int32.ofNat p) = some (Int32.ofNat B) := by unfold gX10_placeIn; rw [hb, src_1 (by rw [o_int (by omega)]; omega) (by rw [o_int (by omega)]; omega)]; simp only [Option.bind_some]; rw [if_neg (by decide), l16, ← Int32.ofNat_sub (B + 16) 16 (by omega), Nat.add_sub_cancel]
    have e := isSoC 16 (b_num β A) (b_bl β A) 8 (b_cn β) (b_cb β) (b_a2 β j) (Int32.ofNat p) (Int32.ofNat B) ho ((ixo (by omega)).mpr hp16) ((ixo (by omega)).mpr hq) (by rw [tn (by omega)]; exact (h1 p hp16).2) (by rw [tn (by omega)]; exact (h2 p hp16).2) (by rw [tn (by omega)]; exact (h1 p hp16).1) (by rw [tn (by omega)]; exact (h2 p hp16).1)
    rw [tn (show p < 2147483648 by omega), tn (show B < 2147483648 by omega), e1 p hp16] at e
    show gX10_placesWhereK_28 β j (lq2 (gX10_placesWhereK_28 β j) g) _ _ = _
    generalize lq2 (gX10_placesWhereK_28 β j) g = K2 at this ⊢
    unfold gX10_placesWhereK_28 gX10_placesWhereK_67
    rw [if_neg (by rw [l16, o_le (by omega) (by omega)]; omega), pin]
    simp only [Option.bind_some]
    rw [ha, tn (show A < 2147483648 by omega), e]
    simp only [Option.bind_some]
    rw [o_succ]
    have em : mkb f (p + 1) = if f p = 0 then mkb f p else mkb f p ||| ((1 : Int32) <<< (Int32.ofNat p &&& 31)) := rfl
    rw [em] at this
    by_cases c : f p = 0
    · rw [if_pos c]; rw [if_pos c] at this; exact this
    · rw [if_neg c]; rw [if_neg c] at this; exact this
theorem pwE {β : BS} {P : PT} (hW : WF P) (hB : BR β P) (hR : FR β P 12) {j : Nat} (v1 : 0 ≤ (b_a1 β j).toInt ∧ (b_a1 β j).toInt < 12) (v2 : 0 ≤ (b_a2 β j).toInt ∧ (b_a2 β j).toInt ≤ 11) (v3 : 0 ≤ (b_a3 β j).toInt ∧ ((b_a3 β j).toInt < 12 ∨ (16 ≤ (b_a3 β j).toInt ∧ (b_a3 β j).toInt < 24))) :
    gX10_placesWhere β j = some (mkb (hh P (b_a1 β j) (b_a2 β j) (b_a3 β j)) 16) := by
  obtain ⟨A, hA, fa⟩ := ex_o (x := b_a1 β j) (n := 12) v1.1 v1.2
  have h1 := (hB.1 A hA).2.2.2.2.2.2
  unfold gX10_placesWhere
  rcases v3.2 with hb | hb
  · obtain ⟨B, hBB, fb⟩ := ex_o (x := b_a3 β j) (n := 12) v3.1 hb
    have s0 := src_0 (b := b_a3 β j) (by omega)
    have e1 : ∀ p, p < 16 → so (b_a2 β j) (b_num β A p) (b_bl β A p) (b_num β B p) (b_bl β B p) = hh P (b_a1 β j) (b_a2 β j) (b_a3 β j) p := by
      intro p hp
      unfold hh
      rw [fa, fb, atN_col hA, atN_col hBB, (hR A hA p hp).1, (hR A hA p hp).2, (hR B hBB p hp).1, (hR B hBB p hp).2]
    have := pwC hA fa fb hBB v2 h1 (hB.1 B hBB).2.2.2.2.2.2 e1 16 20 0 rfl (by decide)
    rw [s0]
    simp only [Option.bind_some]
    rw [if_pos trivial]
    unfold gX10_placesWhereC gX10_sourceOfC
    rw [s0, if_pos (by rw [fa]; exact (ixo (by omega)).mpr hA), if_pos (by rw [fb]; exact (ixo (by omega)).mpr hBB)]
    simp only [Option.bind_some]
    rw [if_pos trivial, if_pos (by rw [fb]; exact (ixo (by omega)).mpr hBB)]
    simp only [Option.bind_some]
    exact this
  · obtain ⟨B', hBB, fb'⟩ := ex_o (x := b_a3 β j) (n := 24) v3.1 hb.2
    have hb16 : 16 ≤ B' := by have := hb.1; rw [fb', o_int (by omega)] at this; omega
    obtain ⟨B, rfl⟩ : ∃ B, B' = B + 16 := ⟨B' - 16, by omega⟩
    have hB8 : B < 8 := by omega
    have s0 := src_1 (b := b_a3 β j) hb.1 hb.2
    have ec := hB.2 B hB8
    have hk := hW.1 (192 + B) (by omega)
    have e1 : ∀ p, p < 16 → so (b_a2 β j) (b_num β A p) (b_bl β A p) (b_cn β B) (b_cb β B) = hh P (b_a1 β j) (b_a2 β j) (b_a3 β j) p := by
      intro p hp
      unfold hh
      rw [fa, fb', atN_col hA, atN_con hb16 hBB, (hR A hA p hp).1, (hR A hA p hp).2, ec.1, ec.2, NW_const (Nat.le_refl _) (show 192 ≤ 192 + (B + 16 - 16) by omega), Nat.add_sub_cancel]
    have := pwK hA fa fb' hB8 v2 h1 (fun p hp => by rw [ec.1, ec.2]; exact ⟨hk.1, hk.2.1⟩) e1 16 20 0 rfl (by decide)
    rw [s0]
    simp only [Option.bind_some]
    rw [if_neg (by decide)]
    unfold gX10_placesWhereK gX10_sourceOfK
    rw [s0, if_pos (by rw [fa]; exact (ixo (by omega)).mpr hA)]
    simp only [Option.bind_some]
    rw [if_neg (by decide)]
    simp only [Option.bind_some]
    exact this
theorem holdE {τ : MS} {P : PT} (hW : WF P) (hR : RI P 192 (m_now τ) (m_none τ)) {k p : Nat} (hk : k < 10) (hp : p < 16) (v1 : 0 ≤ (m_alarms τ (3 * k)).toInt ∧ (m_alarms τ (3 * k)).toInt < 12) (v2 : 0 ≤ (m_alarms τ (3 * k + 1)).toInt ∧ (m_alarms τ (3 * k + 1)).toInt ≤ 11) (v3 : 0 ≤ (m_alarms τ (3 * k + 2)).toInt ∧ ((m_alarms τ (3 * k + 2)).toInt < 12 ∨ (16 ≤ (m_alarms τ (3 * k + 2)).toInt ∧ (m_alarms τ (3 * k + 2)).toInt < 24))) :
    gX11_holds τ (Int32.ofNat k) (Int32.ofNat p) = some (hh P (m_alarms τ (3 * k)) (m_alarms τ (3 * k + 1)) (m_alarms τ (3 * k + 2)) p) := by
  obtain ⟨a1, a2⟩ := at_eq hp v1.1 (.inl v1.2)
  obtain ⟨c1, c2⟩ := at_eq hp v3.1 v3.2
  have e3 : (3 : Int32) * Int32.ofNat k = Int32.ofNat (3 * k) := o_mul 3 k
  have r1 := hR (atN (m_alarms τ (3 * k)) p) (by omega)
  have r2 := hR (atN (m_alarms τ (3 * k + 2)) p) (by omega)
  unfold gX11_holds hh
  rw [e3, show (1 : Int32) = Int32.ofNat 1 from rfl, show (2 : Int32) = Int32.ofNat 2 from rfl, o_add, o_add, if_pos ((ixo (by omega)).mpr (by omega)), tn (by omega), a1]
  simp only [Option.bind_some]
  rw [if_pos ((ixo (by omega)).mpr (by omega)), tn (by omega), c1]
  simp only [Option.bind_some]
  rw [if_pos ((ixo (by omega)).mpr (by omega)), if_pos ((ixo (by omega)).mpr a2), if_pos ((ixo (by omega)).mpr a2), if_pos ((ixo (by omega)).mpr c2), if_pos ((ixo (by omega)).mpr c2), tn (by omega), tn (by omega), tn (by omega), r1.1, r1.2, r2.1, r2.2, isSoM _ _ _ _ _ v2 (NW_ok hW 12 (Nat.le_refl _) _ a2).1 (NW_ok hW 12 (Nat.le_refl _) _ c2).1]
  simp only [Option.bind_some]
  rw [if_pos (nar01 (so01 _ _ _ _ _))]
