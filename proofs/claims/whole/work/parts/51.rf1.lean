/-! the class: the columns are brought up to date -/
def ldS (β : BS) (xn : Nat → UInt64) (xb : Nat → Int32) (yn : Nat → UInt64) (yb : Nat → Int32) : BS := (β.1, β.2.1, β.2.2.1, β.2.2.2.1, β.2.2.2.2.1, β.2.2.2.2.2.1, β.2.2.2.2.2.2.1, β.2.2.2.2.2.2.2.1, β.2.2.2.2.2.2.2.2.1, xn, xb, yn, yb, β.2.2.2.2.2.2.2.2.2.2.2.2.2.1, β.2.2.2.2.2.2.2.2.2.2.2.2.2.2.1, β.2.2.2.2.2.2.2.2.2.2.2.2.2.2.2.1, β.2.2.2.2.2.2.2.2.2.2.2.2.2.2.2.2.1, β.2.2.2.2.2.2.2.2.2.2.2.2.2.2.2.2.2.1, β.2.2.2.2.2.2.2.2.2.2.2.2.2.2.2.2.2.2.1, β.2.2.2.2.2.2.2.2.2.2.2.2.2.2.2.2.2.2.2.1, β.2.2.2.2.2.2.2.2.2.2.2.2.2.2.2.2.2.2.2.2.1, β.2.2.2.2.2.2.2.2.2.2.2.2.2.2.2.2.2.2.2.2.2.1, β.2.2.2.2.2.2.2.2.2.2.2.2.2.2.2.2.2.2.2.2.2.2.1, β.2.2.2.2.2.2.2.2.2.2.2.2.2.2.2.2.2.2.2.2.2.2.2)
theorem ld_self (β : BS) : ldS β (b_xn β) (b_xb β) (b_yn β) (b_yb β) = β := rfl
theorem ld_up (β : BS) (xn : Nat → UInt64) (xb : Nat → Int32) (yn : Nat → UInt64) (yb : Nat → Int32) (X : Nat → UInt64) (XB : Nat → Int32) (Y : Nat → UInt64) (YB : Nat → Int32) : b_yb_ (b_yn_ (b_xb_ (b_xn_ (ldS β xn xb yn yb) X) XB) Y) YB = ldS β X XB Y YB := rfl
def rfS (β : BS) (nu : Nat → Nat → UInt64) (bl : Nat → Nat → Int32) (xn : Nat → UInt64) (xb : Nat → Int32) (yn : Nat → UInt64) (yb : Nat → Int32) (fr : Int32) : BS := (β.1, β.2.1, β.2.2.1, β.2.2.2.1, β.2.2.2.2.1, nu, bl, β.2.2.2.2.2.2.2.1, β.2.2.2.2.2.2.2.2.1, xn, xb, yn, yb, β.2.2.2.2.2.2.2.2.2.2.2.2.2.1, β.2.2.2.2.2.2.2.2.2.2.2.2.2.2.1, β.2.2.2.2.2.2.2.2.2.2.2.2.2.2.2.1, β.2.2.2.2.2.2.2.2.2.2.2.2.2.2.2.2.1, β.2.2.2.2.2.2.2.2.2.2.2.2.2.2.2.2.2.1, β.2.2.2.2.2.2.2.2.2.2.2.2.2.2.2.2.2.2.1, β.2.2.2.2.2.2.2.2.2.2.2.2.2.2.2.2.2.2.2.1, β.2.2.2.2.2.2.2.2.2.2.2.2.2.2.2.2.2.2.2.2.1, β.2.2.2.2.2.2.2.2.2.2.2.2.2.2.2.2.2.2.2.2.2.1, β.2.2.2.2.2.2.2.2.2.2.2.2.2.2.2.2.2.2.2.2.2.2.1, fr)
theorem rf_self (β : BS) : rfS β (b_num β) (b_bl β) (b_xn β) (b_xb β) (b_yn β) (b_yb β) (b_frs β) = β := rfl
theorem rf_fr (β : BS) (nu : Nat → Nat → UInt64) (bl : Nat → Nat → Int32) (xn : Nat → UInt64) (xb : Nat → Int32) (yn : Nat → UInt64) (yb : Nat → Int32) (fr fr' : Int32) : b_frs_ (rfS β nu bl xn xb yn yb fr) fr' = rfS β nu bl xn xb yn yb fr' := rfl
theorem rf_ld (β : BS) (nu nu' : Nat → Nat → UInt64) (bl bl' : Nat → Nat → Int32) (xn : Nat → UInt64) (xb : Nat → Int32) (yn : Nat → UInt64) (yb : Nat → Int32) (X : Nat → UInt64) (XB : Nat → Int32) (Y : Nat → UInt64) (YB : Nat → Int32) (fr : Int32) : b_bl_ (b_num_ (ldS (rfS β nu bl xn xb yn yb fr) X XB Y YB) nu') bl' = rfS β nu' bl' X XB Y YB fr := rfl
def BRc (na ff fa fb fc : Nat → Int32) (nu : Nat → Nat → UInt64) (bl : Nat → Nat → Int32) (cn : Nat → UInt64) (cb : Nat → Int32) (P : PT) : Prop := (∀ i, i < 12 → na i = pN P i ∧ ff i = pM P (4 * i) ∧ fa i = pM P (4 * i + 1) ∧ fb i = pM P (4 * i + 2) ∧ fc i = pM P (4 * i + 3) ∧ ((pM P (4 * i)).toInt < 0 → ∀ p, p < 16 → nu i p = pT P (16 * i + p) ∧ bl i p = pB P (16 * i + p)) ∧ (∀ p, p < 16 → NN (nu i p) ∧ (bl i p = 0 ∨ bl i p = 1))) ∧ (∀ k, k < 8 → cn k = pT P (192 + k) ∧ cb k = pB P (192 + k))
def BR (β : BS) (P : PT) : Prop := BRc (b_nar β) (b_ff β) (b_fa β) (b_fb β) (b_fc β) (b_num β) (b_bl β) (b_cn β) (b_cb β) P
theorem BR_rf (β : BS) (nu : Nat → Nat → UInt64) (bl : Nat → Nat → Int32) (xn : Nat → UInt64) (xb : Nat → Int32) (yn : Nat → UInt64) (yb : Nat → Int32) (fr : Int32) (P : PT) : BR (rfS β nu bl xn xb yn yb fr) P = BRc (b_nar β) (b_ff β) (b_fa β) (b_fb β) (b_fc β) nu bl (b_cn β) (b_cb β) P := rfl
def FRc (nu : Nat → Nat → UInt64) (bl : Nat → Nat → Int32) (P : PT) (n : Nat) : Prop := ∀ i, i < n → ∀ p, p < 16 → nu i p = (NW P 12 (16 * i + p)).1 ∧ bl i p = (NW P 12 (16 * i + p)).2
def FR (β : BS) (P : PT) (n : Nat) : Prop := FRc (b_num β) (b_bl β) P n
theorem FR_rf (β : BS) (nu : Nat → Nat → UInt64) (bl : Nat → Nat → Int32) (xn : Nat → UInt64) (xb : Nat → Int32) (yn : Nat → UInt64) (yb : Nat → Int32) (fr : Int32) (P : PT) (n : Nat) : FR (rfS β nu bl xn xb yn yb fr) P n = FRc nu bl P n := rfl
theorem src_0 {b : Int32} (h : b.toInt < 16) : gX10_isConstantSource b = some 0 := if_pos (i32_lt.mpr h)
theorem src_1 {b : Int32} (h : 16 ≤ b.toInt) (h2 : b.toInt < 24) : gX10_isConstantSource b = some 1 := by
  unfold gX10_isConstantSource
  rw [if_neg (by rw [i32_lt]; exact Int.not_lt.mpr h), if_neg (by rw [i32_le]; exact Int.not_le.mpr h2)]
theorem atN_col {a p : Nat} (ha : a < 12) : atN (Int32.ofNat a) p = 16 * a + p := by
  unfold atN
  rw [tn (by omega), if_pos (by rw [l16, o_lt (by omega) (by omega)]; omega)]
theorem atN_con {a p : Nat} (ha : 16 ≤ a) (h2 : a < 24) : atN (Int32.ofNat a) p = 192 + (a - 16) := by
  unfold atN
  rw [tn (by omega), if_neg (by rw [l16, o_lt (by omega) (by omega)]; omega)]
  omega
def LI (P : PT) (j n : Nat) (xn : Nat → UInt64) (xb : Nat → Int32) (yn : Nat → UInt64) (yb : Nat → Int32) : Prop := ∀ q, q < n → (xn q = nX P j q ∧ xb q = nXB P j q) ∧ (yn q = nY P j q ∧ yb q = nYB P j q)
theorem LI_up {P : PT} {j n : Nat} {xn : Nat → UInt64} {xb : Nat → Int32} {yn : Nat → UInt64} {yb : Nat → Int32} (h : LI P j n xn xb yn yb) {x y : UInt64} {a b : Int32} (e : (x = nX P j n ∧ a = nXB P j n) ∧ (y = nY P j n ∧ b = nYB P j n)) : LI P j (n + 1) (vf_upd xn n x) (upd xb n a) (vf_upd yn n y) (upd yb n b) := by
  intro q hq
  by_cases c : q = n
  · subst c
    show ((if q = q then x else xn q) = _ ∧ (if q = q then a else xb q) = _) ∧ ((if q = q then y else yn q) = _ ∧ (if q = q then b else yb q) = _)
    rw [if_pos rfl, if_pos rfl, if_pos rfl, if_pos rfl]; exact e
  · show ((if q = n then x else xn q) = _ ∧ (if q = n then a else xb q) = _) ∧ ((if q = n then y else yn q) = _ ∧ (if q = n then b else yb q) = _)
    rw [if_neg c, if_neg c, if_neg c, if_neg c]; exact h q (by omega)
set_option maxHeartbeats 1000000 in
theorem ldC {β : BS} {P : PT} {j A B : Nat} (hA : A < 12) (ha : b_fa β j = Int32.ofNat A) (hb : b_fb β j = Int32.ofNat B) (hB : B < 12)
    (h1 : ∀ p, p < 16 → NN (b_num β A p) ∧ (b_bl β A p = 0 ∨ b_bl β A p = 1)) (h2 : ∀ p, p < 16 → NN ((b_num β B) p) ∧ ((b_bl β B) p = 0 ∨ (b_bl β B) p = 1))
    (e1 : ∀ p, p < 16 → br (b_nar β j) (b_num β A p) = nX P j p ∧ b_bl β A p = nXB P j p) (e2 : ∀ p, p < 16 → br (b_nar β j) ((b_num β B) p) = nY P j p ∧ (b_bl β B) p = nYB P j p) :
    ∀ (k f p : Nat) (xn : Nat → UInt64) (xb : Nat → Int32) (yn : Nat → UInt64) (yb : Nat → Int32), p + k = 16 → k < f → LI P j p xn xb yn yb → ∃ xn' xb' yn' yb', LI P j 16 xn' xb' yn' yb' ∧ lq2 (gX10_loadC_25 β j) f (ldS β xn xb yn yb) (Int32.ofNat p) = some (ldS β xn' xb' yn' yb') := by
  intro k
  induction k with
  | zero =>
    intro f p xn xb yn yb hp hf hI
    obtain ⟨f, rfl⟩ : ∃ g, f = g + 1 := ⟨f - 1, by omega⟩
    obtain rfl : p = 16 := by omega
    refine ⟨xn, xb, yn, yb, hI, ?_⟩
    show gX10_loadC_25 β j _ _ _ = _
    unfold gX10_loadC_25
    rw [if_pos (by decide)]
  | succ k ih =>
    intro f p xn xb yn yb hp hf hI
    obtain ⟨f, rfl⟩ : ∃ g, f = g + 1 := ⟨f - 1, by omega⟩
    have hp16 : p < 16 := by omega
    have p1 := c_putB (n := 16) xn xb (n2 := 16) (b_num β A) (b_bl β A) (b_nar β j) hp16 (p31 hp16) hp16 (p31 hp16) (h1 p hp16).1 (h1 p hp16).2
    have p2 := c_putB (n := 16) yn yb (n2 := 16) (b_num β B) (b_bl β B) (b_nar β j) hp16 (p31 hp16) (q := p) (by omega) (by omega) (h2 p hp16).1 (h2 p hp16).2
    have pin : gX10_placeIn (b_fb β j) (Int32.ofNat p) = some (Int32.ofNat p) := by unfold gX10_placeIn; rw [hb, src_0 (by rw [o_int (by omega)]; omega)]; rfl
    obtain ⟨xn', xb', yn', yb', a1, a2⟩ := ih f (p + 1) _ _ _ _ (by omega) (by omega) (LI_up hI ⟨e1 p hp16, e2 p hp16⟩)
    refine ⟨xn', xb', yn', yb', a1, ?_⟩
    rw [← a2]
    show gX10_loadC_25 β j (lq2 (gX10_loadC_25 β j) f) _ _ = _
    generalize lq2 (gX10_loadC_25 β j) f = K2
    unfold gX10_loadC_25
    rw [if_neg (by rw [l16, o_le (by omega) (by omega)]; omega), ha, tn (by omega)]
    show (gX8_putBrought 16 xn xb 16 (b_num β A) (b_bl β A) (Int32.ofNat p) (Int32.ofNat p) (b_nar β j)).bind _ = _
    rw [p1]
    simp only [Option.bind_some]
    show (gX10_placeIn (b_fb β j) (Int32.ofNat p)).bind _ = _
    rw [pin]
    simp only [Option.bind_some]
    rw [hb, tn (by omega)]
    show (gX8_putBrought 16 yn yb 16 (b_num β B) (b_bl β B) (Int32.ofNat p) (Int32.ofNat p) (b_nar β j)).bind _ = _
    rw [p2]
    simp only [Option.bind_some]
    rw [o_succ, ld_up]
set_option maxHeartbeats 1000000 in
theorem ldK {β : BS} {P : PT} {j A B : Nat} (hA : A < 12) (ha : b_fa β j = Int32.ofNat A) (hb : b_fb β j = Int32.ofNat (B + 16)) (hB : B < 8)
    (h1 : ∀ p, p < 16 → NN (b_num β A p) ∧ (b_bl β A p = 0 ∨ b_bl β A p = 1)) (h2 : ∀ p, p < 16 → NN ((b_cn β) B) ∧ ((b_cb β) B = 0 ∨ (b_cb β) B = 1))
    (e1 : ∀ p, p < 16 → br (b_nar β j) (b_num β A p) = nX P j p ∧ b_bl β A p = nXB P j p) (e2 : ∀ p, p < 16 → br (b_nar β j) ((b_cn β) B) = nY P j p ∧ (b_cb β) B = nYB P j p) :
    ∀ (k f p : Nat) (xn : Nat → UInt64) (xb : Nat → Int32) (yn : Nat → UInt64) (yb : Nat → Int32), p + k = 16 → k < f → LI P j p xn xb yn yb → ∃ xn' xb' yn' yb', LI P j 16 xn' xb' yn' yb' ∧ lq2 (gX10_loadK_25 β j) f (ldS β xn xb yn yb) (Int32.ofNat p) = some (ldS β xn' xb' yn' yb') := by
  intro k
  induction k with
  | zero =>
    intro f p xn xb yn yb hp hf hI
    obtain ⟨f, rfl⟩ : ∃ g, f = g + 1 := ⟨f - 1, by omega⟩
    obtain rfl : p = 16 := by omega
    refine ⟨xn, xb, yn, yb, hI, ?_⟩
    show gX10_loadK_25 β j _ _ _ = _
    unfold gX10_loadK_25
    rw [if_pos (by decide)]
  | succ k ih =>
    intro f p xn xb yn yb hp hf hI
    obtain ⟨f, rfl⟩ : ∃ g, f = g + 1 := ⟨f - 1, by omega⟩
    have hp16 : p < 16 := by omega
    have p1 := c_putB (n := 16) xn xb (n2 := 16) (b_num β A) (b_bl β A) (b_nar β j) hp16 (p31 hp16) hp16 (p31 hp16) (h1 p hp16).1 (h1 p hp16).2
    have p2 := c_putB (n := 16) yn yb (n2 := 8) (b_cn β) (b_cb β) (b_nar β j) hp16 (p31 hp16) (q := B) (by omega) (by omega) (h2 p hp16).1 (h2 p hp16).2
    have pin : gX10_placeIn (b_fb β j) (Int32.ofNat p) = some (Int32.ofNat B) := by unfold gX10_placeIn; rw [hb, src_1 (by rw [o_int (by omega)]; omega) (by rw [o_int (by omega)]; omega)]; simp only [Option.bind_some]; rw [if_neg (by decide), l16, ← Int32.ofNat_sub (B + 16) 16 (by omega), Nat.add_sub_cancel]
    obtain ⟨xn', xb', yn', yb', a1, a2⟩ := ih f (p + 1) _ _ _ _ (by omega) (by omega) (LI_up hI ⟨e1 p hp16, e2 p hp16⟩)
    refine ⟨xn', xb', yn', yb', a1, ?_⟩
    rw [← a2]
    show gX10_loadK_25 β j (lq2 (gX10_loadK_25 β j) f) _ _ = _
    generalize lq2 (gX10_loadK_25 β j) f = K2
    unfold gX10_loadK_25
    rw [if_neg (by rw [l16, o_le (by omega) (by omega)]; omega), ha, tn (by omega)]
    show (gX8_putBrought 16 xn xb 16 (b_num β A) (b_bl β A) (Int32.ofNat p) (Int32.ofNat p) (b_nar β j)).bind _ = _
    rw [p1]
    simp only [Option.bind_some]
    show (gX10_placeIn (b_fb β j) (Int32.ofNat p)).bind _ = _
    rw [pin]
    simp only [Option.bind_some]
    show (gX8_putBrought 16 yn yb 8 (b_cn β) (b_cb β) (Int32.ofNat p) (Int32.ofNat B) (b_nar β j)).bind _ = _
    rw [p2]
    simp only [Option.bind_some]
    rw [o_succ, ld_up]
theorem loadE {β : BS} {P : PT} (hB : BR β P) (hW : WF P) {j : Nat} (hj : j < 12) (hf : 0 ≤ (pM P (4 * j)).toInt) (hR : FR β P j) :
    ∃ xn xb yn yb, LI P j 16 xn xb yn yb ∧ gX10_load β j = some (ldS β xn xb yn yb) := by
  have hF := (hW.2 j hj).2.2.2 hf
  obtain ⟨n1, n2, n3, n4, n5, n6, n7⟩ := hB.1 j hj
  obtain ⟨A, hA, ea⟩ := ex_o (x := pM P (4 * j + 1)) (n := j) hF.1.1 hF.1.2
  have fa : b_fa β j = Int32.ofNat A := n3.trans ea
  have h1 : ∀ p, p < 16 → NN (b_num β A p) ∧ (b_bl β A p = 0 ∨ b_bl β A p = 1) := (hB.1 A (by omega)).2.2.2.2.2.2
  have e1 : ∀ p, p < 16 → br (b_nar β j) (b_num β A p) = nX P j p ∧ b_bl β A p = nXB P j p := by
    intro p hp
    unfold nX nXB
    rw [ea, atN_col (by omega), n1, (hR A hA p hp).1, (hR A hA p hp).2, NW_keep' (n := j) (by omega) (Nat.le_refl _) (.inl (by omega))]
    exact ⟨rfl, rfl⟩
  unfold gX10_load
  rcases hF.2.1.2 with hb | hb
  · obtain ⟨B, hBB, eb⟩ := ex_o (x := pM P (4 * j + 2)) (n := j) hF.2.1.1 hb
    have fb : b_fb β j = Int32.ofNat B := n4.trans eb
    have e2 : ∀ p, p < 16 → br (b_nar β j) (b_num β B p) = nY P j p ∧ b_bl β B p = nYB P j p := by
      intro p hp
      unfold nY nYB
      rw [eb, atN_col (by omega), n1, (hR B hBB p hp).1, (hR B hBB p hp).2, NW_keep' (n := j) (by omega) (Nat.le_refl _) (.inl (by omega))]
      exact ⟨rfl, rfl⟩
    obtain ⟨xn, xb, yn, yb, a1, a2⟩ := ldC (P := P) (by omega) fa fb (by omega) h1 (hB.1 B (by omega)).2.2.2.2.2.2 e1 e2 16 20 0 (b_xn β) (b_xb β) (b_yn β) (b_yb β) rfl (by decide) (fun q hq => absurd hq (by omega))
    refine ⟨xn, xb, yn, yb, a1, ?_⟩
    rw [src_0 (by rw [fb, o_int (by omega)]; omega)]
    simp only [Option.bind_some]
    rw [if_pos trivial]
    unfold gX10_loadC gX10_sourceOfC
    rw [src_0 (by rw [fb, o_int (by omega)]; omega), if_pos (by rw [fa]; exact (ixo (by omega)).mpr (by omega)), if_pos (by rw [fb]; exact (ixo (by omega)).mpr (by omega))]
    simp only [Option.bind_some]
    rw [if_pos trivial, if_pos (by rw [fb]; exact (ixo (by omega)).mpr (by omega))]
    simp only [Option.bind_some]
    exact a2
  · obtain ⟨B', hBB, eb⟩ := ex_o (x := pM P (4 * j + 2)) (n := 24) hF.2.1.1 hb.2
    have hb16 : 16 ≤ B' := by have := hb.1; rw [eb, o_int (by omega)] at this; omega
    obtain ⟨B, rfl⟩ : ∃ B, B' = B + 16 := ⟨B' - 16, by omega⟩
    have fb : b_fb β j = Int32.ofNat (B + 16) := n4.trans eb
    have ec := hB.2 B (by omega)
    have hk := hW.1 (192 + B) (by omega)
    have e2 : ∀ p, p < 16 → br (b_nar β j) (b_cn β B) = nY P j p ∧ b_cb β B = nYB P j p := by
      intro p hp
      unfold nY nYB
      rw [eb, atN_con (by omega) (by omega), n1, ec.1, ec.2, NW_const (by omega) (by omega), Nat.add_sub_cancel]
      exact ⟨rfl, rfl⟩
    obtain ⟨xn, xb, yn, yb, a1, a2⟩ := ldK (P := P) (by omega) fa fb (by omega) h1 (fun p hp => by rw [ec.1, ec.2]; exact ⟨hk.1, hk.2.1⟩) e1 e2 16 20 0 (b_xn β) (b_xb β) (b_yn β) (b_yb β) rfl (by decide) (fun q hq => absurd hq (by omega))
    refine ⟨xn, xb, yn, yb, a1, ?_⟩
    have s1 := src_1 (b := b_fb β j) (by rw [fb, o_int (by omega)]; omega) (by rw [fb, o_int (by omega)]; omega)
    rw [s1]
    simp only [Option.bind_some]
    rw [if_neg (by decide)]
    unfold gX10_loadK gX10_sourceOfK
    rw [s1, if_pos (by rw [fa]; exact (ixo (by omega)).mpr (by omega))]
    simp only [Option.bind_some]
    rw [if_neg (by decide)]
    simp only [Option.bind_some]
    exact a2
set_option maxHeartbeats 1000000 in
theorem refLoop {β : BS} {P : PT} (hW : WF P) {x : Nat} (hx : x < 12) : ∀ (k f n : Nat) (nu : Nat → Nat → UInt64) (bl : Nat → Nat → Int32) (xn : Nat → UInt64) (xb : Nat → Int32) (yn : Nat → UInt64) (yb : Nat → Int32) (v : Int32), n + k = 12 → k < f → v = Int32.ofNat n → BRc (b_nar β) (b_ff β) (b_fa β) (b_fb β) (b_fc β) nu bl (b_cn β) (b_cb β) P → FRc nu bl P n →
    ∃ m nu' bl' xn' xb' yn' yb', x < m ∧ m ≤ 12 ∧ BRc (b_nar β) (b_ff β) (b_fa β) (b_fb β) (b_fc β) nu' bl' (b_cn β) (b_cb β) P ∧ FRc nu' bl' P m ∧ lq2 (gX10_refresh_9 β (Int32.ofNat x)) f (rfS β nu bl xn xb yn yb v) v = some (rfS β nu' bl' xn' xb' yn' yb' (Int32.ofNat m)) := by
  intro k
  induction k with
  | zero =>
    intro f n nu bl xn xb yn yb v hn hf hv hB hR
    obtain ⟨f, rfl⟩ : ∃ g, f = g + 1 := ⟨f - 1, by omega⟩
    obtain rfl : n = 12 := by omega
    refine ⟨12, nu, bl, xn, xb, yn, yb, hx, Nat.le_refl _, hB, hR, ?_⟩
    show gX10_refresh_9 β _ _ _ _ = _
    unfold gX10_refresh_9
    rw [if_pos (by rw [hv]; exact (o_lt (by omega) (by omega)).mpr hx), hv]
  | succ k ih =>
    intro f n nu bl xn xb yn yb v hn hf hv hB hR
    obtain ⟨f, rfl⟩ : ∃ g, f = g + 1 := ⟨f - 1, by omega⟩
    by_cases hxn : x < n
    · refine ⟨n, nu, bl, xn, xb, yn, yb, hxn, by omega, hB, hR, ?_⟩
      show gX10_refresh_9 β _ _ _ _ = _
      unfold gX10_refresh_9
      rw [if_pos (by rw [hv]; exact (o_lt (by omega) (by omega)).mpr hxn), hv]
    have hn12 : n < 12 := by omega
    have hix : ix v 12 := by rw [hv]; exact (ixo (by omega)).mpr hn12
    have hvn : v.toNatClampNeg = n := by rw [hv]; exact tn (by omega)
    have hv1 : v + 1 = Int32.ofNat (n + 1) := by rw [hv]; exact o_succ n
    have c1 : ¬ Int32.ofNat x < v := by rw [hv, o_lt (by omega) (by omega)]; exact hxn
    have c2 : ¬ (12 : Int32) ≤ v := by rw [hv, show (12 : Int32) = Int32.ofNat 12 from rfl, o_le (by omega) (by omega)]; omega
    obtain ⟨n1, n2, n3, n4, n5, n6, n7⟩ := hB.1 n hn12
    have hwf := (hW.2 n hn12).2.1
    by_cases hf0 : 0 ≤ (pM P (4 * n)).toInt
    · obtain ⟨X, XB, Y, YB, l1, l2⟩ := loadE (β := rfS β nu bl xn xb yn yb v) (P := P) (j := n) (by rw [BR_rf]; exact hB) hW hn12 hf0 (by rw [FR_rf]; exact hR)
      obtain ⟨rA, rB⟩ := nAr hW hn12 hf0
      have hX : ∀ p, p < 16 → X p = nX P n p ∧ XB p = nXB P n p := fun p hp => (l1 p hp).1
      have hY : ∀ p, p < 16 → Y p = nY P n p ∧ YB p = nYB P n p := fun p hp => (l1 p hp).2
      have hF := (hW.2 n hn12).2.2.2 hf0
      obtain ⟨r, r1, r2⟩ := recC (nar := pN P n) (ff := pM P (4 * n)) (fc := pM P (4 * n + 3)) (Ar_congr hX rA) (Ar_congr hY rB) hf0 hwf.2 hF.2.2 (nu n) (bl n)
      have r3 : ∀ p, p < 16 → r.1 p = (NW P 12 (16 * n + p)).1 ∧ r.2 p = (NW P 12 (16 * n + p)).2 := by
        intro p hp
        rw [(r2 p hp).1, (r2 p hp).2, RV_congr hp hX hY, NW_at hn12 hp hf0]
        exact ⟨rfl, rfl⟩
      have hB' : BRc (b_nar β) (b_ff β) (b_fa β) (b_fb β) (b_fc β) (va_up nu n r.1) (va_up bl n r.2) (b_cn β) (b_cb β) P := by
        refine ⟨fun i hi => ?_, hB.2⟩
        obtain ⟨q1, q2, q3, q4, q5, q6, q7⟩ := hB.1 i hi
        refine ⟨q1, q2, q3, q4, q5, ?_, ?_⟩
        · intro hneg p hp
          have hin : i ≠ n := fun e => by subst e; omega
          rw [va_up_ne _ _ hin, va_up_ne _ _ hin]; exact q6 hneg p hp
        · intro p hp
          by_cases hin : i = n
          · subst hin
            rw [va_up_self, va_up_self, (r3 p hp).1, (r3 p hp).2]
            have := NW_row hW hi hp
            exact ⟨this.1, this.2.1⟩
          · rw [va_up_ne _ _ hin, va_up_ne _ _ hin]; exact q7 p hp
      have hR' : FRc (va_up nu n r.1) (va_up bl n r.2) P (n + 1) := by
        intro i hi p hp
        by_cases hin : i = n
        · subst hin
          rw [va_up_self, va_up_self]; exact r3 p hp
        · rw [va_up_ne _ _ hin, va_up_ne _ _ hin]; exact hR i (by omega) p hp
      obtain ⟨m, nu', bl', xn', xb', yn', yb', d1, d2, d3, d4, d5⟩ := ih f (n + 1) _ _ X XB Y YB (v + 1) (by omega) (by omega) hv1 hB' hR'
      refine ⟨m, nu', bl', xn', xb', yn', yb', d1, d2, d3, d4, ?_⟩
      rw [← d5]
      show gX10_refresh_9 β _ (lq2 (gX10_refresh_9 β (Int32.ofNat x)) f) _ _ = _
      generalize lq2 (gX10_refresh_9 β (Int32.ofNat x)) f = K2
      unfold gX10_refresh_9 gX10_refresh_55 gX3_hasFormula
      rw [if_neg c1, if_neg c2, if_pos hix, hvn, if_neg (show ¬ b_ff (rfS β nu bl xn xb yn yb v) n = -1 from fun c => by rw [n2.symm.trans c] at hf0; exact absurd hf0 (by decide))]
      simp only [Option.bind_some]
      rw [if_neg (by decide), if_pos hix, l2]
      simp only [Option.bind_some]
      rw [if_pos hix]
      show (gX9_reckon (b_nar β n) (b_ff β n) (b_fc β n) X XB Y YB (nu n) (bl n)).bind _ = _
      rw [n1, n2, n5, r1]
      simp only [Option.bind_some]
      show K2 (b_frs_ (b_bl_ (b_num_ (ldS (rfS β nu bl xn xb yn yb v) X XB Y YB) (va_up nu n r.1)) (va_up bl n r.2)) (v + 1)) _ = _
      rw [rf_ld, rf_fr]
    · have hR' : FRc nu bl P (n + 1) := by
        intro i hi p hp
        by_cases hin : i = n
        · subst hin
          rw [NW_told hp (by omega)]; exact n6 (by omega) p hp
        · exact hR i (by omega) p hp
      obtain ⟨m, nu', bl', xn', xb', yn', yb', d1, d2, d3, d4, d5⟩ := ih f (n + 1) nu bl xn xb yn yb (v + 1) (by omega) (by omega) hv1 hB hR'
      refine ⟨m, nu', bl', xn', xb', yn', yb', d1, d2, d3, d4, ?_⟩
      rw [← d5]
      show gX10_refresh_9 β _ (lq2 (gX10_refresh_9 β (Int32.ofNat x)) f) _ _ = _
      generalize lq2 (gX10_refresh_9 β (Int32.ofNat x)) f = K2
      have em : b_ff β n = -1 := n2.trans (Int32.toInt.inj (by rw [show (-1 : Int32).toInt = -1 from by decide]; omega))
      unfold gX10_refresh_9 gX10_refresh_55 gX3_hasFormula
      rw [if_neg c1, if_neg c2, if_pos hix, hvn, if_pos (show b_ff (rfS β nu bl xn xb yn yb v) n = -1 from em)]
      simp only [Option.bind_some]
      rw [if_pos trivial, rf_fr]
theorem refE {β : BS} {P : PT} (hW : WF P) (hB : BR β P) {n : Nat} (hn : n ≤ 12) (hfr : b_frs β = Int32.ofNat n) (hR : FR β P n) {x : Nat} (hx : x < 12) :
    ∃ m nu bl xn xb yn yb, x < m ∧ m ≤ 12 ∧ BRc (b_nar β) (b_ff β) (b_fa β) (b_fb β) (b_fc β) nu bl (b_cn β) (b_cb β) P ∧ FRc nu bl P m ∧ gX10_refresh β (Int32.ofNat x) = some (rfS β nu bl xn xb yn yb (Int32.ofNat m)) := by
  have := refLoop (β := β) hW hx (12 - n) 20 n (b_num β) (b_bl β) (b_xn β) (b_xb β) (b_yn β) (b_yb β) (b_frs β) (by omega) (by omega) hfr hB hR
  rw [rf_self] at this
  unfold gX10_refresh
  rw [if_neg (by rw [hfr, show (0 : Int32) = Int32.ofNat 0 from rfl, o_lt (by omega) (by omega)]; omega)]
  exact this
