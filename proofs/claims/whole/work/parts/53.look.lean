/-! calls that only look -/
theorem inC1 {x : Int32} (h : 0 ≤ x.toInt ∧ x.toInt < 12) : gX11_isIn x (0) 11 = some 1 := by
  rw [isIn_eq, if_pos (by rw [show (0 : Int32).toInt = 0 from by decide, show (11 : Int32).toInt = 11 from by decide]; omega)]
theorem inC0 {x : Int32} (h : ¬ (0 ≤ x.toInt ∧ x.toInt < 12)) : gX11_isIn x (0) 11 = some 0 := by
  rw [isIn_eq, if_neg (by rw [show (0 : Int32).toInt = 0 from by decide, show (11 : Int32).toInt = 11 from by decide]; omega)]
theorem inP1 {x : Int32} (h : 0 ≤ x.toInt ∧ x.toInt < 16) : gX11_isIn x (0) 15 = some 1 := by
  rw [isIn_eq, if_pos (by rw [show (0 : Int32).toInt = 0 from by decide, show (15 : Int32).toInt = 15 from by decide]; omega)]
theorem inP0 {x : Int32} (h : ¬ (0 ≤ x.toInt ∧ x.toInt < 16)) : gX11_isIn x (0) 15 = some 0 := by
  rw [isIn_eq, if_neg (by rw [show (0 : Int32).toInt = 0 from by decide, show (15 : Int32).toInt = 15 from by decide]; omega)]
theorem inK1 {x : Int32} (h : 0 ≤ x.toInt ∧ x.toInt < 8) : gX11_isIn x (0) 7 = some 1 := by
  rw [isIn_eq, if_pos (by rw [show (0 : Int32).toInt = 0 from by decide, show (7 : Int32).toInt = 7 from by decide]; omega)]
theorem inK0 {x : Int32} (h : ¬ (0 ≤ x.toInt ∧ x.toInt < 8)) : gX11_isIn x (0) 7 = some 0 := by
  rw [isIn_eq, if_neg (by rw [show (0 : Int32).toInt = 0 from by decide, show (7 : Int32).toInt = 7 from by decide]; omega)]
theorem inS1 {x : Int32} (h : 0 ≤ x.toInt ∧ x.toInt < 6) : gX11_isIn x (0) 5 = some 1 := by
  rw [isIn_eq, if_pos (by rw [show (0 : Int32).toInt = 0 from by decide, show (5 : Int32).toInt = 5 from by decide]; omega)]
theorem inS0 {x : Int32} (h : ¬ (0 ≤ x.toInt ∧ x.toInt < 6)) : gX11_isIn x (0) 5 = some 0 := by
  rw [isIn_eq, if_neg (by rw [show (0 : Int32).toInt = 0 from by decide, show (5 : Int32).toInt = 5 from by decide]; omega)]
theorem inF1 {x : Int32} (h : 0 ≤ x.toInt ∧ x.toInt < 27) : gX11_isIn x (0) 26 = some 1 := by
  rw [isIn_eq, if_pos (by rw [show (0 : Int32).toInt = 0 from by decide, show (26 : Int32).toInt = 26 from by decide]; omega)]
theorem inF0 {x : Int32} (h : ¬ (0 ≤ x.toInt ∧ x.toInt < 27)) : gX11_isIn x (0) 26 = some 0 := by
  rw [isIn_eq, if_neg (by rw [show (0 : Int32).toInt = 0 from by decide, show (26 : Int32).toInt = 26 from by decide]; omega)]
theorem inB1 {x : Int32} (h : 16 ≤ x.toInt ∧ x.toInt < 24) : gX11_isIn x (16) 23 = some 1 := by
  rw [isIn_eq, if_pos (by rw [show (16 : Int32).toInt = 16 from by decide, show (23 : Int32).toInt = 23 from by decide]; omega)]
theorem inB0 {x : Int32} (h : ¬ (16 ≤ x.toInt ∧ x.toInt < 24)) : gX11_isIn x (16) 23 = some 0 := by
  rw [isIn_eq, if_neg (by rw [show (16 : Int32).toInt = 16 from by decide, show (23 : Int32).toInt = 23 from by decide]; omega)]
theorem inE1 {x : Int32} (h : -1000 ≤ x.toInt ∧ x.toInt < 901) : gX11_isIn x (-1000) 900 = some 1 := by
  rw [isIn_eq, if_pos (by rw [show (-1000 : Int32).toInt = -1000 from by decide, show (900 : Int32).toInt = 900 from by decide]; omega)]
theorem inE0 {x : Int32} (h : ¬ (-1000 ≤ x.toInt ∧ x.toInt < 901)) : gX11_isIn x (-1000) 900 = some 0 := by
  rw [isIn_eq, if_neg (by rw [show (-1000 : Int32).toInt = -1000 from by decide, show (900 : Int32).toInt = 900 from by decide]; omega)]
theorem inW1 {x : Int32} (h : 0 ≤ x.toInt ∧ x.toInt < 3) : gX11_isIn x (0) 2 = some 1 := by
  rw [isIn_eq, if_pos (by rw [show (0 : Int32).toInt = 0 from by decide, show (2 : Int32).toInt = 2 from by decide]; omega)]
theorem inW0 {x : Int32} (h : ¬ (0 ≤ x.toInt ∧ x.toInt < 3)) : gX11_isIn x (0) 2 = some 0 := by
  rw [isIn_eq, if_neg (by rw [show (0 : Int32).toInt = 0 from by decide, show (2 : Int32).toInt = 2 from by decide]; omega)]
theorem col1 {x : Int32} (h : 0 ≤ x.toInt ∧ x.toInt < 12) : gX10_isColumn x = some 1 := by rw [isColumn_eq, if_pos h]
theorem col0 {x : Int32} (h : ¬ (0 ≤ x.toInt ∧ x.toInt < 12)) : gX10_isColumn x = some 0 := by rw [isColumn_eq, if_neg h]
theorem plc1 {x : Int32} (h : 0 ≤ x.toInt ∧ x.toInt < 16) : gX10_isPlace x = some 1 := by rw [isPlace_eq, if_pos h]
theorem plc0 {x : Int32} (h : ¬ (0 ≤ x.toInt ∧ x.toInt < 16)) : gX10_isPlace x = some 0 := by rw [isPlace_eq, if_neg h]
theorem con1 {x : Int32} (h : 0 ≤ x.toInt ∧ x.toInt < 8) : gX10_isConstant x = some 1 := by rw [isConstant_eq, if_pos h]
theorem con0 {x : Int32} (h : ¬ (0 ≤ x.toInt ∧ x.toInt < 8)) : gX10_isConstant x = some 0 := by rw [isConstant_eq, if_neg h]
theorem cmp1 {x : Int32} (h : 0 ≤ x.toInt ∧ x.toInt < 12) : gX10_isComparison x = some 1 := by rw [isComparison_eq, if_pos h]
theorem cmp0 {x : Int32} (h : ¬ (0 ≤ x.toInt ∧ x.toInt < 12)) : gX10_isComparison x = some 0 := by rw [isComparison_eq, if_neg h]
theorem spc1 {x : Int32} (h : 0 ≤ x.toInt ∧ x.toInt < 6) : gX10_isSpecial x = some 1 := by rw [isSpecial_eq, if_pos h]
theorem spc0 {x : Int32} (h : ¬ (0 ≤ x.toInt ∧ x.toInt < 6)) : gX10_isSpecial x = some 0 := by rw [isSpecial_eq, if_neg h]
theorem pow1 {x : Int32} (h : -1000 ≤ x.toInt ∧ x.toInt < 901) : gX10_isPower x = some 1 := by rw [isPower_eq, if_pos (by omega)]
theorem pow0 {x : Int32} (h : ¬ (-1000 ≤ x.toInt ∧ x.toInt < 901)) : gX10_isPower x = some 0 := by rw [isPower_eq, if_neg (by omega)]
theorem look1 {G : GG} {z t : Nat} {β : BS} {b : Nat → va_E} {N : Nat} {σ : MS} {n : Nat} {P : Nat → PT} {fr am : Nat} (h : IV G z t β b N σ n P fr am) {i : Nat} (hi : i < 12) :
    ∃ m nu bl xn xb yn yb nw nn w c, gX10_refresh β (Int32.ofNat i) = some (rfS β nu bl xn xb yn yb (Int32.ofNat m)) ∧ gX11_reckonAll σ = some (rcS σ nw nn w c) ∧ i < m ∧ FRc nu bl (P n) m ∧ RI (P n) 192 nw nn ∧ IV G z (t + 1) (rfS β nu bl xn xb yn yb (Int32.ofNat m)) b N (rcS σ nw nn w c) n P m am := by
  have h' := h
  obtain ⟨h1, h2, h3, h4, h5, h6⟩ := h
  obtain ⟨m, nu, bl, xn, xb, yn, yb, a1, a2, a3, a4, a5⟩ := refE (h2 n (Nat.le_refl _)) h4.1 h1.2.2 h4.2.2.1 h4.2.1 hi
  obtain ⟨nw, nn, w, c, c1, c2⟩ := reckAll h3.1 (h2 n (Nat.le_refl _))
  exact ⟨m, nu, bl, xn, xb, yn, yb, nw, nn, w, c, a5, c2, a1, a4, c1, inv_look h' a2 a3 a4 nw nn w c⟩
theorem cell_eq {P : PT} {m : Nat} {nu : Nat → Nat → UInt64} {bl : Nat → Nat → Int32} {nw : Nat → UInt64} {nn : Nat → Int32} (hW : WF P) (hF : FRc nu bl P m) (hR : RI P 192 nw nn) {i p : Nat} (hi : i < m) (h12 : i < 12) (hp : p < 16) : nw (16 * i + p) = nu i p ∧ nn (16 * i + p) = bl i p ∧ OKv (pN P i) (nu i p, bl i p) := by
  have a := hF i hi p hp
  have c := hR (16 * i + p) (by omega)
  refine ⟨c.1.trans a.1.symm, c.2.trans a.2.symm, ?_⟩
  rw [a.1, a.2]; exact NW_row hW h12 hp
theorem eidx (i p : Nat) : (16 : Int32) * Int32.ofNat i + Int32.ofNat p = Int32.ofNat (16 * i + p) := by rw [l16i, o_add]
theorem oC {i : Nat} (h : i < 12) : 0 ≤ (Int32.ofNat i).toInt ∧ (Int32.ofNat i).toInt < 12 := by rw [o_int (by omega)]; omega
theorem oP {i : Nat} (h : i < 16) : 0 ≤ (Int32.ofNat i).toInt ∧ (Int32.ofNat i).toInt < 16 := by rw [o_int (by omega)]; omega
theorem op_reading {G : GG} {z t : Nat} {β : BS} {b : Nat → va_E} {N : Nat} {σ : MS} {n : Nat} {P : Nat → PT} {fr am : Nat} (h : IV G z t β b N σ n P fr am) (x0 x1 : Int32) : ∃ (β' : BS) (σ' : MS) (r : UInt64), gX10_reading β x0 x1 = some (β', r) ∧ gX11_reading σ x0 x1 = some (σ', r) ∧ Inv G z (t + 1) β' b N σ' := by
  unfold gX10_reading gX11_reading gX11_isThere
  by_cases h0 : 0 ≤ x0.toInt ∧ x0.toInt < 12
  · by_cases h1 : 0 ≤ x1.toInt ∧ x1.toInt < 16
    · obtain ⟨i, hi, rfl⟩ := ex_o (n := 12) h0.1 h0.2
      obtain ⟨p, hp, rfl⟩ := ex_o (n := 16) h1.1 h1.2
      obtain ⟨m, nu, bl, xn, xb, yn, yb, nw, nn, w, c, a1, a2, a3, a4, a5, a6⟩ := look1 h hi
      obtain ⟨c1, c2, cN, cB, cZ, cD⟩ := cell_eq (h.2.1 n (Nat.le_refl _)) a4 a5 a3 hi hp
      have hix : ix (Int32.ofNat (16 * i + p)) 200 := (ixo (by omega)).mpr (by omega)
      have hic : ix (Int32.ofNat i) 12 := (ixo (by omega)).mpr hi
      rw [col1 h0, plc1 h1, inC1 h0, inP1 h1, a1, a2, eidx, tn (show i < 2147483648 by omega)]
      simp only [Option.bind_some]
      rw [if_neg (by decide), if_neg (by decide), if_pos hic, if_neg (by decide), if_neg (by decide)]
      simp only [Option.bind_some]
      rw [if_neg (by decide), if_pos hix, tn (show 16 * i + p < 2147483648 by omega)]
      rw [c_at _ _ hp (p31 hp)]
      refine ⟨_, _, nu i p, rfl, ?_, ⟨n, P, m, am, a6⟩⟩
      show (if nn (16 * i + p) = 0 then _ else _) = _
      rw [c2]
      by_cases hb : bl i p = 0
      · rw [if_pos hb, if_pos hix]
        show some (rcS σ nw nn w c, nw (16 * i + p)) = _
        rw [c1]
      · rw [if_neg hb, show nu i p = FP.dconst0 from cZ hb]
    · rw [col1 h0, plc0 h1, inC1 h0, inP0 h1]
      simp only [Option.bind_some]
      rw [if_neg (by decide), if_pos trivial, if_neg (by decide), if_pos trivial]
      exact ⟨_, _, _, rfl, rfl, inv_refuse h⟩
  · rw [col0 h0, inC0 h0]
    simp only [Option.bind_some]
    rw [if_pos trivial, if_pos trivial]
    exact ⟨_, _, _, rfl, rfl, inv_refuse h⟩
theorem op_isBlank {G : GG} {z t : Nat} {β : BS} {b : Nat → va_E} {N : Nat} {σ : MS} {n : Nat} {P : Nat → PT} {fr am : Nat} (h : IV G z t β b N σ n P fr am) (x0 x1 : Int32) : ∃ (β' : BS) (σ' : MS) (r : Int32), gX10_isBlank β x0 x1 = some (β', r) ∧ gX11_isBlank σ x0 x1 = some (σ', r) ∧ Inv G z (t + 1) β' b N σ' := by
  unfold gX10_isBlank gX11_isBlank gX11_isThere
  by_cases h0 : 0 ≤ x0.toInt ∧ x0.toInt < 12
  · by_cases h1 : 0 ≤ x1.toInt ∧ x1.toInt < 16
    · obtain ⟨i, hi, rfl⟩ := ex_o (n := 12) h0.1 h0.2
      obtain ⟨p, hp, rfl⟩ := ex_o (n := 16) h1.1 h1.2
      obtain ⟨m, nu, bl, xn, xb, yn, yb, nw, nn, w, c, a1, a2, a3, a4, a5, a6⟩ := look1 h hi
      obtain ⟨c1, c2, cN, cB, cZ, cD⟩ := cell_eq (h.2.1 n (Nat.le_refl _)) a4 a5 a3 hi hp
      have hix : ix (Int32.ofNat (16 * i + p)) 200 := (ixo (by omega)).mpr (by omega)
      have hic : ix (Int32.ofNat i) 12 := (ixo (by omega)).mpr hi
      rw [col1 h0, plc1 h1, inC1 h0, inP1 h1, a1, a2, eidx, tn (show i < 2147483648 by omega)]
      simp only [Option.bind_some]
      rw [if_neg (by decide), if_neg (by decide), if_pos hic, if_neg (by decide), if_neg (by decide)]
      simp only [Option.bind_some]
      rw [if_neg (by decide), if_pos hix, tn (show 16 * i + p < 2147483648 by omega)]
      rw [show gX8_blankAt 16 (b_num (rfS β nu bl xn xb yn yb (Int32.ofNat m)) i) (b_bl (rfS β nu bl xn xb yn yb (Int32.ofNat m)) i) (Int32.ofNat p) = some (bl i p) from c_blank (nu i) (bl i) hp (p31 hp) cB]
      simp only [Option.bind_some]
      rw [if_pos (nar01 (show bl i p = 0 ∨ bl i p = 1 from cB))]
      refine ⟨_, _, bl i p, rfl, ?_, ⟨n, P, m, am, a6⟩⟩
      show (if nn (16 * i + p) = 0 then some (rcS σ nw nn w c, (0 : Int32)) else some (rcS σ nw nn w c, (1 : Int32))) = _
      rw [c2]
      rcases (show bl i p = 0 ∨ bl i p = 1 from cB) with hb | hb
      · rw [hb, if_pos rfl]
      · rw [hb, if_neg (by decide)]
    · rw [col1 h0, plc0 h1, inC1 h0, inP0 h1]
      simp only [Option.bind_some]
      rw [if_neg (by decide), if_pos trivial, if_neg (by decide), if_pos trivial]
      exact ⟨_, _, _, rfl, rfl, inv_refuse h⟩
  · rw [col0 h0, inC0 h0]
    simp only [Option.bind_some]
    rw [if_pos trivial, if_pos trivial]
    exact ⟨_, _, _, rfl, rfl, inv_refuse h⟩
theorem op_isMinus {G : GG} {z t : Nat} {β : BS} {b : Nat → va_E} {N : Nat} {σ : MS} {n : Nat} {P : Nat → PT} {fr am : Nat} (h : IV G z t β b N σ n P fr am) (x0 x1 : Int32) : ∃ (β' : BS) (σ' : MS) (r : Int32), gX10_isMinus β x0 x1 = some (β', r) ∧ gX11_isMinus σ x0 x1 = some (σ', r) ∧ Inv G z (t + 1) β' b N σ' := by
  unfold gX10_isMinus gX11_isMinus gX11_isThere
  by_cases h0 : 0 ≤ x0.toInt ∧ x0.toInt < 12
  · by_cases h1 : 0 ≤ x1.toInt ∧ x1.toInt < 16
    · obtain ⟨i, hi, rfl⟩ := ex_o (n := 12) h0.1 h0.2
      obtain ⟨p, hp, rfl⟩ := ex_o (n := 16) h1.1 h1.2
      obtain ⟨m, nu, bl, xn, xb, yn, yb, nw, nn, w, c, a1, a2, a3, a4, a5, a6⟩ := look1 h hi
      obtain ⟨c1, c2, cN, cB, cZ, cD⟩ := cell_eq (h.2.1 n (Nat.le_refl _)) a4 a5 a3 hi hp
      have hix : ix (Int32.ofNat (16 * i + p)) 200 := (ixo (by omega)).mpr (by omega)
      have hic : ix (Int32.ofNat i) 12 := (ixo (by omega)).mpr hi
      rw [col1 h0, plc1 h1, inC1 h0, inP1 h1, a1, a2, eidx, tn (show i < 2147483648 by omega)]
      simp only [Option.bind_some]
      rw [if_neg (by decide), if_neg (by decide), if_pos hic, if_neg (by decide), if_neg (by decide)]
      simp only [Option.bind_some]
      rw [if_neg (by decide), if_pos hix, tn (show 16 * i + p < 2147483648 by omega)]
      rw [c_at _ _ hp (p31 hp)]
      simp only [Option.bind_some]
      have hm01 : mi (nu i p) = 0 ∨ mi (nu i p) = 1 := by unfold mi; split; exact .inr rfl; exact .inl rfl
      rw [show gX6_hasMinus (b_num (rfS β nu bl xn xb yn yb (Int32.ofNat m)) i p) = some (mi (nu i p)) from c_minC (nu i p) cN]
      simp only [Option.bind_some]
      rw [if_pos (nar01 hm01)]
      refine ⟨_, _, mi (nu i p), rfl, ?_, ⟨n, P, m, am, a6⟩⟩
      rw [if_pos hix]
      show (if nn (16 * i + p) = 0 then (gX11_hasMinus (nw (16 * i + p))).bind _ else _) = _
      rw [c2, c1, c_minM (nu i p) cN]
      simp only [Option.bind_some]
      by_cases hb : bl i p = 0
      · rw [if_pos hb]
        rcases hm01 with hm | hm
        · rw [hm, if_pos rfl]
        · rw [hm, if_neg (by decide)]
      · rw [if_neg hb, show nu i p = FP.dconst0 from cZ hb]; rfl
    · rw [col1 h0, plc0 h1, inC1 h0, inP0 h1]
      simp only [Option.bind_some]
      rw [if_neg (by decide), if_pos trivial, if_neg (by decide), if_pos trivial]
      exact ⟨_, _, _, rfl, rfl, inv_refuse h⟩
  · rw [col0 h0, inC0 h0]
    simp only [Option.bind_some]
    rw [if_pos trivial, if_pos trivial]
    exact ⟨_, _, _, rfl, rfl, inv_refuse h⟩
theorem op_bits {G : GG} {z t : Nat} {β : BS} {b : Nat → va_E} {N : Nat} {σ : MS} {n : Nat} {P : Nat → PT} {fr am : Nat} (h : IV G z t β b N σ n P fr am) (x0 x1 : Int32) : ∃ (β' : BS) (σ' : MS) (r : Int64), gX10_bits β x0 x1 = some (β', r) ∧ gX11_bits σ x0 x1 = some (σ', r) ∧ Inv G z (t + 1) β' b N σ' := by
  unfold gX10_bits gX11_bits gX11_isThere
  by_cases h0 : 0 ≤ x0.toInt ∧ x0.toInt < 12
  · by_cases h1 : 0 ≤ x1.toInt ∧ x1.toInt < 16
    · obtain ⟨i, hi, rfl⟩ := ex_o (n := 12) h0.1 h0.2
      obtain ⟨p, hp, rfl⟩ := ex_o (n := 16) h1.1 h1.2
      obtain ⟨m, nu, bl, xn, xb, yn, yb, nw, nn, w, c, a1, a2, a3, a4, a5, a6⟩ := look1 h hi
      obtain ⟨c1, c2, cN, cB, cZ, cD⟩ := cell_eq (h.2.1 n (Nat.le_refl _)) a4 a5 a3 hi hp
      have hix : ix (Int32.ofNat (16 * i + p)) 200 := (ixo (by omega)).mpr (by omega)
      have hic : ix (Int32.ofNat i) 12 := (ixo (by omega)).mpr hi
      rw [col1 h0, plc1 h1, inC1 h0, inP1 h1, a1, a2, eidx, tn (show i < 2147483648 by omega)]
      simp only [Option.bind_some]
      rw [if_neg (by decide), if_neg (by decide), if_pos hic, if_neg (by decide), if_neg (by decide)]
      simp only [Option.bind_some]
      rw [if_neg (by decide), if_pos hix, tn (show 16 * i + p < 2147483648 by omega)]
      rw [c_at _ _ hp (p31 hp)]
      simp only [Option.bind_some]
      rw [if_pos hic]
      have en : b_nar β i = pN (P n) i := (h.2.2.2.1.1.1 i hi).1
      have em : m_narrow σ i = pN (P n) i := h.2.2.1.1.2.1 i hi
      obtain ⟨r, r1, r2⟩ := bits_val σ (Int32.ofNat i) (Int32.ofNat p) (rcS σ nw nn w c) (nu i p) cN hic (by rw [tn (by omega)]; show nbd (m_narrow σ i) (nu i p); rw [em]; exact cD)
      rw [tn (by omega), show m_narrow (rcS σ nw nn w c) i = pN (P n) i from em] at r1
      rw [show gX1_of (b_num (rfS β nu bl xn xb yn yb (Int32.ofNat m)) i p) (b_nar (rfS β nu bl xn xb yn yb (Int32.ofNat m)) i) = some r from (congrArg (gX1_of (nu i p)) en).trans r1]
      refine ⟨_, _, r, rfl, ?_, ⟨n, P, m, am, a6⟩⟩
      rw [if_pos hix]
      show (if nn (16 * i + p) = 0 then (gX11_hasMinus (nw (16 * i + p))).bind (fun r2 => if r2 = 0 then gX11_bits_50 σ (Int32.ofNat i) (Int32.ofNat p) (rcS σ nw nn w c) (nw (16 * i + p)) (nw (16 * i + p)) else gX11_bits_50 σ (Int32.ofNat i) (Int32.ofNat p) (rcS σ nw nn w c) (nw (16 * i + p)) (FP.dneg (nw (16 * i + p)))) else _) = _
      rw [c2, c1, c_minM (nu i p) cN]
      simp only [Option.bind_some]
      by_cases hb : bl i p = 0
      · rw [if_pos hb]
        by_cases hm : mi (nu i p) = 0
        · rw [if_pos hm]
          rw [show absv (nu i p) = nu i p from if_pos hm] at r2; exact r2
        · rw [if_neg hm]
          rw [show absv (nu i p) = FP.dneg (nu i p) from if_neg hm] at r2; exact r2
      · rw [if_neg hb]
        rw [show nu i p = FP.dconst0 from cZ hb, show FP.dconst0 = 0 from rfl, of_zero] at r1
        cases r1; rfl
    · rw [col1 h0, plc0 h1, inC1 h0, inP0 h1]
      simp only [Option.bind_some]
      rw [if_neg (by decide), if_pos trivial, if_neg (by decide), if_pos trivial]
      exact ⟨_, _, _, rfl, rfl, inv_refuse h⟩
  · rw [col0 h0, inC0 h0]
    simp only [Option.bind_some]
    rw [if_pos trivial, if_pos trivial]
    exact ⟨_, _, _, rfl, rfl, inv_refuse h⟩
theorem cmpC {β β9 : BS} {i j : Nat} {op : Int32} (hi : i < 12) (hj : j < 12) (ho : 0 ≤ op.toInt ∧ op.toInt ≤ 11) (h1 : ∀ p, p < 16 → NN (b_num β9 i p) ∧ (b_bl β9 i p = 0 ∨ b_bl β9 i p = 1)) (h2 : ∀ p, p < 16 → NN (b_num β9 j p) ∧ (b_bl β9 j p = 0 ∨ b_bl β9 j p = 1)) :
    ∀ (k f p : Nat), p + k = 16 → k < f → lq3 (gX10_compared_60 β (Int32.ofNat i) op (Int32.ofNat j)) f β9 (Int32.ofNat (cso op (b_num β9 i) (b_bl β9 i) (b_num β9 j) (b_bl β9 j) p)) (Int32.ofNat p) = some (β9, Int32.ofNat (cso op (b_num β9 i) (b_bl β9 i) (b_num β9 j) (b_bl β9 j) 16)) := by
  intro k
  induction k with
  | zero =>
    intro f p hp hf
    obtain ⟨f, rfl⟩ : ∃ g, f = g + 1 := ⟨f - 1, by omega⟩
    obtain rfl : p = 16 := by omega
    show gX10_compared_60 _ _ _ _ _ _ _ _ = _
    unfold gX10_compared_60
    rw [if_pos (by decide)]
  | succ k ih =>
    intro f p hp hf
    obtain ⟨f, rfl⟩ : ∃ g, f = g + 1 := ⟨f - 1, by omega⟩
    have hp16 : p < 16 := by omega
    have := ih f (p + 1) (by omega) (by omega)
    show gX10_compared_60 _ _ _ _ (lq3 (gX10_compared_60 β (Int32.ofNat i) op (Int32.ofNat j)) f) _ _ _ = _
    generalize lq3 (gX10_compared_60 β (Int32.ofNat i) op (Int32.ofNat j)) f = K at this ⊢
    unfold gX10_compared_60 gX10_compared_85
    have hix : ix (Int32.ofNat p) 16 := (ixo (by omega)).mpr hp16
    have e := isSoC 16 (b_num β9 i) (b_bl β9 i) 16 (b_num β9 j) (b_bl β9 j) op (Int32.ofNat p) (Int32.ofNat p) ho hix hix (by rw [tn (by omega)]; exact (h1 p hp16).2) (by rw [tn (by omega)]; exact (h2 p hp16).2) (by rw [tn (by omega)]; exact (h1 p hp16).1) (by rw [tn (by omega)]; exact (h2 p hp16).1)
    rw [tn (by omega)] at e
    rw [if_neg (by rw [l16, o_le (by omega) (by omega)]; omega), tn (by omega), tn (by omega), e]
    simp only [Option.bind_some, o_succ]
    have ec : cso op (b_num β9 i) (b_bl β9 i) (b_num β9 j) (b_bl β9 j) (p + 1) = cso op (b_num β9 i) (b_bl β9 i) (b_num β9 j) (b_bl β9 j) p + (if so op (b_num β9 i p) (b_bl β9 i p) (b_num β9 j p) (b_bl β9 j p) ≠ 0 then 1 else 0) := by
      show cso op (b_num β9 i) (b_bl β9 i) (b_num β9 j) (b_bl β9 j) p + (if decide _ = true then 1 else 0) = _
      simp only [decide_eq_true_eq]
    rw [ec] at this
    by_cases hb : so op (b_num β9 i p) (b_bl β9 i p) (b_num β9 j p) (b_bl β9 j p) = 0
    · rw [if_pos hb]; rw [if_neg (fun c => c hb)] at this; exact this
    · rw [if_neg hb]; rw [if_pos hb] at this; exact this
theorem cmpM {σ τ : MS} {i j : Nat} {op : Int32} {X : Nat → UInt64} {XB : Nat → Int32} {Y : Nat → UInt64} {YB : Nat → Int32} (hi : i < 12) (hj : j < 12) (ho : 0 ≤ op.toInt ∧ op.toInt ≤ 11) (h1 : ∀ p, p < 16 → m_now τ (16 * i + p) = X p ∧ m_none τ (16 * i + p) = XB p ∧ NN (X p)) (h2 : ∀ p, p < 16 → m_now τ (16 * j + p) = Y p ∧ m_none τ (16 * j + p) = YB p ∧ NN (Y p)) :
    ∀ (k f p : Nat), p + k = 16 → k < f → lq3 (gX11_compared_42 σ (Int32.ofNat i) op (Int32.ofNat j)) f τ (Int32.ofNat (cso op X XB Y YB p)) (Int32.ofNat p) = some (τ, Int32.ofNat (cso op X XB Y YB 16)) := by
  intro k
  induction k with
  | zero =>
    intro f p hp hf
    obtain ⟨f, rfl⟩ : ∃ g, f = g + 1 := ⟨f - 1, by omega⟩
    obtain rfl : p = 16 := by omega
    show gX11_compared_42 _ _ _ _ _ _ _ _ = _
    unfold gX11_compared_42
    rw [if_pos (by decide)]
  | succ k ih =>
    intro f p hp hf
    obtain ⟨f, rfl⟩ : ∃ g, f = g + 1 := ⟨f - 1, by omega⟩
    have hp16 : p < 16 := by omega
    have := ih f (p + 1) (by omega) (by omega)
    show gX11_compared_42 _ _ _ _ (lq3 (gX11_compared_42 σ (Int32.ofNat i) op (Int32.ofNat j)) f) _ _ _ = _
    generalize lq3 (gX11_compared_42 σ (Int32.ofNat i) op (Int32.ofNat j)) f = K at this ⊢
    unfold gX11_compared_42 gX11_compared_109
    have x1 : ix (Int32.ofNat (16 * i + p)) 200 := (ixo (by omega)).mpr (by omega)
    have x2 : ix (Int32.ofNat (16 * j + p)) 200 := (ixo (by omega)).mpr (by omega)
    rw [if_neg (by rw [l16, o_le (by omega) (by omega)]; omega), eidx, eidx, if_pos x1, if_pos x1, if_pos x2, if_pos x2, tn (by omega), tn (by omega), (h1 p hp16).1, (h1 p hp16).2.1, (h2 p hp16).1, (h2 p hp16).2.1, isSoM op _ _ _ _ ho (h1 p hp16).2.2 (h2 p hp16).2.2]
    simp only [Option.bind_some, o_succ, Int32.add_zero]
    have ec : cso op X XB Y YB (p + 1) = cso op X XB Y YB p + (if so op (X p) (XB p) (Y p) (YB p) ≠ 0 then 1 else 0) := by
      show cso op X XB Y YB p + (if decide _ = true then 1 else 0) = _
      simp only [decide_eq_true_eq]
    rw [ec] at this
    by_cases hb : so op (X p) (XB p) (Y p) (YB p) = 0
    · rw [if_pos hb]; rw [if_neg (fun c => c hb)] at this; exact this
    · rw [if_neg hb]; rw [if_pos hb] at this; exact this
theorem op_compared {G : GG} {z t : Nat} {β : BS} {b : Nat → va_E} {N : Nat} {σ : MS} {n : Nat} {P : Nat → PT} {fr am : Nat} (h : IV G z t β b N σ n P fr am) (x0 x1 x2 : Int32) : ∃ (β' : BS) (σ' : MS) (r : Int32), gX10_compared β x0 x1 x2 = some (β', r) ∧ gX11_compared σ x0 x1 x2 = some (σ', r) ∧ Inv G z (t + 1) β' b N σ' := by
  unfold gX10_compared gX11_compared
  by_cases h0 : 0 ≤ x0.toInt ∧ x0.toInt < 12
  · by_cases h2 : 0 ≤ x2.toInt ∧ x2.toInt < 12
    · by_cases h1 : 0 ≤ x1.toInt ∧ x1.toInt < 12
      · obtain ⟨i, hi, rfl⟩ := ex_o (n := 12) h0.1 h0.2
        obtain ⟨j, hj, rfl⟩ := ex_o (n := 12) h2.1 h2.2
        have emax : (if Int32.ofNat i < Int32.ofNat j then Int32.ofNat j else Int32.ofNat i) = Int32.ofNat (max i j) := by
          by_cases hc : i < j
          · rw [if_pos ((o_lt (by omega) (by omega)).mpr hc), Nat.max_eq_right (by omega)]
          · rw [if_neg (by rw [o_lt (by omega) (by omega)]; exact hc), Nat.max_eq_left (by omega)]
        obtain ⟨m, nu, bl, xn, xb, yn, yb, nw, nn, w, c, a1, a2, a3, a4, a5, a6⟩ := look1 h (i := max i j) (by omega)
        have cI := fun p (hp : p < 16) => cell_eq (h.2.1 n (Nat.le_refl _)) a4 a5 (i := i) (by omega) hi hp
        have cJ := fun p (hp : p < 16) => cell_eq (h.2.1 n (Nat.le_refl _)) a4 a5 (i := j) (by omega) hj hp
        rw [col1 h0, col1 h2, cmp1 h1, inC1 h0, inC1 h2, inC1 h1, emax, a1, a2]
        simp only [Option.bind_some]
        rw [if_neg (by decide), if_neg (by decide), if_neg (by decide), if_pos ((ixo (by omega)).mpr hi), if_pos ((ixo (by omega)).mpr hj), if_neg (by decide), if_neg (by decide), if_neg (by decide)]
        have eC := cmpC (β := β) (β9 := rfS β nu bl xn xb yn yb (Int32.ofNat m)) (op := x1) hi hj (by omega) (fun p hp => ⟨(cI p hp).2.2.1, (cI p hp).2.2.2.1⟩) (fun p hp => ⟨(cJ p hp).2.2.1, (cJ p hp).2.2.2.1⟩) 16 20 0 rfl (by decide)
        have eM := cmpM (σ := σ) (τ := rcS σ nw nn w c) (op := x1) (X := nu i) (XB := bl i) (Y := nu j) (YB := bl j) hi hj (by omega) (fun p hp => ⟨(cI p hp).1, (cI p hp).2.1, (cI p hp).2.2.1⟩) (fun p hp => ⟨(cJ p hp).1, (cJ p hp).2.1, (cJ p hp).2.2.1⟩) 16 20 0 rfl (by decide)
        exact ⟨_, _, _, eC, eM, ⟨n, P, m, am, a6⟩⟩
      · rw [col1 h0, col1 h2, cmp0 h1, inC1 h0, inC1 h2, inC0 h1]
        simp only [Option.bind_some]
        rw [if_neg (by decide), if_neg (by decide), if_pos trivial, if_neg (by decide), if_neg (by decide), if_pos trivial]
        exact ⟨_, _, _, rfl, rfl, inv_refuse h⟩
    · rw [col1 h0, col0 h2, inC1 h0, inC0 h2]
      simp only [Option.bind_some]
      rw [if_neg (by decide), if_pos trivial, if_neg (by decide), if_pos trivial]
      exact ⟨_, _, _, rfl, rfl, inv_refuse h⟩
  · rw [col0 h0, inC0 h0]
    simp only [Option.bind_some]
    rw [if_pos trivial, if_pos trivial]
    exact ⟨_, _, _, rfl, rfl, inv_refuse h⟩
