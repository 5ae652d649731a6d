/-! set, special, constant, constantSpecial -/
set_option maxHeartbeats 2000000 in
theorem op_set {G : GG} {z t : Nat} {β : BS} {b : Nat → va_E} {N : Nat} {σ : MS} {n : Nat} {P : Nat → PT} {fr am : Nat} (h : IV G z t β b N σ n P fr am) (ht : t < 512) (x0 x1 x2 x3 : Int32) : ∃ (β' : BS) (b' : Nat → va_E) (N' : Nat) (σ' : MS) (r : Int32), gX10_set G z N (ctM G z b σ) β x0 x1 x2 x3 = some (β', ctM G z b' σ, N', r) ∧ gX11_set σ x0 x1 x2 x3 = some (σ', r) ∧ Inv G z (t + 1) β' b' N' σ' := by
  unfold gX10_set gX11_set
  by_cases h0 : 0 ≤ x0.toInt ∧ x0.toInt < 12
  · obtain ⟨i, hi, rfl⟩ := ex_o (n := 12) h0.1 h0.2
    by_cases hf : 0 ≤ (pM (P n) (4 * i)).toInt
    · rw [takes0 h hi hf, can0 h hi hf]
      simp only [Option.bind_some]
      rw [if_pos trivial, if_pos trivial]
      exact ⟨_, _, _, _, _, rfl, rfl, inv_refuse h⟩
    have hf' : (pM (P n) (4 * i)).toInt < 0 := by omega
    by_cases h1 : 0 ≤ x1.toInt ∧ x1.toInt < 16
    · obtain ⟨p, hp, rfl⟩ := ex_o (n := 16) h1.1 h1.2
      by_cases h3 : -1000 ≤ x3.toInt ∧ x3.toInt < 901
      · have h' := h
        obtain ⟨g1, g2, g3, g4, g5, g6⟩ := h
        have hWn := g2 n (Nat.le_refl _)
        have hic : ix (Int32.ofNat i) 12 := (ixo (by omega)).mpr hi
        obtain ⟨n1, n2, n3, n4, n5, n6, n7⟩ := g4.1.1 i hi
        have em : m_narrow σ i = b_nar β i := (g3.1.2.1 i hi).trans n1.symm
        obtain ⟨P0, p1, p2, p3⟩ := power_eq x2 x3 h3.1 (by omega)
        have hD : NN (FP.dmul (FP.i2d x2) P0) := fn_nn p2
        refine ⟨_, _, _, _, 1, ?_, ?_, ch_col h' hi hp hf' (x := br (b_nar β i) (FP.dmul (FP.i2d x2) P0)) (v := 0) (by rw [n1]; exact ok_Br (br_Br _ hD))⟩
        · rw [takes1 h' ht hi hf', plc1 (oP hp), pow1 h3]
          simp only [Option.bind_some]
          rw [if_neg (by decide), if_neg (by decide), if_neg (by decide), if_pos hic, if_pos (CH_isR g5), tn (by omega), i7 _ _ _ hp (p31 hp) (n7 p hp).2]
          simp only [Option.bind_some]
          rw [rem3 z N g4.2.2.2 g4.2.2.1 (by omega) g1.2.2]
          simp only [Option.bind_some]
          rw [p1]
          simp only [Option.bind_some]
          rw [if_pos hD, brC _ _ hD]
          simp only [Option.bind_some]
          rw [c_put _ _ _ hp (p31 hp)]
          simp only [Option.bind_some]
          rw [cm_up g1.2.1]
          rfl
        · rw [can1 h' hi hp hf', inE1 h3, picE (by omega) g3.2.2 g3.1 hWn, p3]
          simp only [Option.bind_some]
          rw [if_neg (by decide), if_neg (by decide), if_pos hic, eidx, tn (by omega), brM _ _ hD]
          simp only [Option.bind_some]
          rw [putM _ (by omega)]
          simp only [Option.bind_some]
          rw [show m_narrow (pcN σ n) i = b_nar β i from em, chg1 g3.2.2]
          rfl
      · rw [takes1 h ht hi hf', plc1 (oP hp), pow0 h3, can1 h hi hp hf', inE0 h3]
        simp only [Option.bind_some]
        rw [if_neg (by decide), if_neg (by decide), if_pos trivial, if_neg (by decide), if_pos trivial]
        exact ⟨_, _, _, _, _, rfl, rfl, inv_refuse h⟩
    · rw [takes1 h ht hi hf', plc0 h1, can_p σ hi h1]
      simp only [Option.bind_some]
      rw [if_neg (by decide), if_pos trivial, if_pos trivial]
      exact ⟨_, _, _, _, _, rfl, rfl, inv_refuse h⟩
  · rw [takes_c β h0, can_c σ h0]
    simp only [Option.bind_some]
    rw [if_pos trivial, if_pos trivial]
    exact ⟨_, _, _, _, _, rfl, rfl, inv_refuse h⟩
set_option maxHeartbeats 2000000 in
theorem op_special {G : GG} {z t : Nat} {β : BS} {b : Nat → va_E} {N : Nat} {σ : MS} {n : Nat} {P : Nat → PT} {fr am : Nat} (h : IV G z t β b N σ n P fr am) (ht : t < 512) (x0 x1 x2 : Int32) : ∃ (β' : BS) (b' : Nat → va_E) (N' : Nat) (σ' : MS) (r : Int32), gX10_special G z N (ctM G z b σ) β x0 x1 x2 = some (β', ctM G z b' σ, N', r) ∧ gX11_special σ x0 x1 x2 = some (σ', r) ∧ Inv G z (t + 1) β' b' N' σ' := by
  unfold gX10_special gX11_special
  by_cases h0 : 0 ≤ x0.toInt ∧ x0.toInt < 12
  · obtain ⟨i, hi, rfl⟩ := ex_o (n := 12) h0.1 h0.2
    by_cases hf : 0 ≤ (pM (P n) (4 * i)).toInt
    · rw [takes0 h hi hf, can0 h hi hf]
      simp only [Option.bind_some]
      rw [if_pos trivial, if_pos trivial]
      exact ⟨_, _, _, _, _, rfl, rfl, inv_refuse h⟩
    have hf' : (pM (P n) (4 * i)).toInt < 0 := by omega
    by_cases h1 : 0 ≤ x1.toInt ∧ x1.toInt < 16
    · obtain ⟨p, hp, rfl⟩ := ex_o (n := 16) h1.1 h1.2
      by_cases h3 : 0 ≤ x2.toInt ∧ x2.toInt < 6
      · have h' := h
        obtain ⟨g1, g2, g3, g4, g5, g6⟩ := h
        have hWn := g2 n (Nat.le_refl _)
        have hic : ix (Int32.ofNat i) 12 := (ixo (by omega)).mpr hi
        obtain ⟨n1, n2, n3, n4, n5, n6, n7⟩ := g4.1.1 i hi
        have em : m_narrow σ i = b_nar β i := (g3.1.2.1 i hi).trans n1.symm
        refine ⟨_, _, _, _, 1, ?_, ?_, ch_col h' hi hp hf' (x := spv x2 (b_nar β i)) (v := spb x2) (by rw [n1]; exact sp_ok)⟩
        · rw [takes1 h' ht hi hf', plc1 (oP hp), spc1 h3]
          simp only [Option.bind_some]
          rw [if_neg (by decide), if_neg (by decide), if_neg (by decide), if_pos hic, if_pos (CH_isR g5), tn (by omega), i7 _ _ _ hp (p31 hp) (n7 p hp).2]
          simp only [Option.bind_some]
          rw [rem3 z N g4.2.2.2 g4.2.2.1 (by omega) g1.2.2]
          simp only [Option.bind_some]
          rw [spC _ _ _ _ hp (p31 hp)]
          simp only [Option.bind_some]
          rw [cm_up g1.2.1]
          rfl
        · rw [can1 h' hi hp hf', inS1 h3, picE (by omega) g3.2.2 g3.1 hWn]
          simp only [Option.bind_some]
          rw [if_neg (by decide), if_neg (by decide), if_pos hic, eidx, tn (by omega), spM _ (by omega)]
          simp only [Option.bind_some]
          rw [show m_narrow (pcN σ n) i = b_nar β i from em, chg1 g3.2.2]
          rfl
      · rw [takes1 h ht hi hf', plc1 (oP hp), spc0 h3, can1 h hi hp hf', inS0 h3]
        simp only [Option.bind_some]
        rw [if_neg (by decide), if_neg (by decide), if_pos trivial, if_neg (by decide), if_pos trivial]
        exact ⟨_, _, _, _, _, rfl, rfl, inv_refuse h⟩
    · rw [takes1 h ht hi hf', plc0 h1, can_p σ hi h1]
      simp only [Option.bind_some]
      rw [if_neg (by decide), if_pos trivial, if_pos trivial]
      exact ⟨_, _, _, _, _, rfl, rfl, inv_refuse h⟩
  · rw [takes_c β h0, can_c σ h0]
    simp only [Option.bind_some]
    rw [if_pos trivial, if_pos trivial]
    exact ⟨_, _, _, _, _, rfl, rfl, inv_refuse h⟩
set_option maxHeartbeats 2000000 in
theorem op_constant {G : GG} {z t : Nat} {β : BS} {b : Nat → va_E} {N : Nat} {σ : MS} {n : Nat} {P : Nat → PT} {fr am : Nat} (h : IV G z t β b N σ n P fr am) (ht : t < 512) (x0 x1 x2 : Int32) : ∃ (β' : BS) (b' : Nat → va_E) (N' : Nat) (σ' : MS) (r : Int32), gX10_constant G z N (ctM G z b σ) β x0 x1 x2 = some (β', ctM G z b' σ, N', r) ∧ gX11_constant σ x0 x1 x2 = some (σ', r) ∧ Inv G z (t + 1) β' b' N' σ' := by
  unfold gX10_constant gX11_constant
  by_cases h0 : 0 ≤ x0.toInt ∧ x0.toInt < 8
  · obtain ⟨k, hk, rfl⟩ := ex_o (n := 8) h0.1 h0.2
    by_cases h3 : -1000 ≤ x2.toInt ∧ x2.toInt < 901
    · have h' := h
      obtain ⟨g1, g2, g3, g4, g5, g6⟩ := h
      have hWn := g2 n (Nat.le_refl _)
      have ek : (192 : Int32) + Int32.ofNat k = Int32.ofNat (192 + k) := o_add 192 k
      have hb : b_cb β k = 0 ∨ b_cb β k = 1 := by rw [(g4.1.2 k hk).2]; exact (hWn.1 (192 + k) (by omega)).2.1
      obtain ⟨P0, p1, p2, p3⟩ := power_eq x1 x2 h3.1 (by omega)
      have hD : NN (FP.dmul (FP.i2d x1) P0) := fn_nn p2
      refine ⟨_, _, _, _, 1, ?_, ?_, ch_con h' hk (x := FP.dmul (FP.i2d x1) P0) (v := 0) ⟨hD, .inl rfl, fun c => absurd rfl c⟩⟩
      · rw [con1 h0, pow1 h3, room_eq g4.2.2.2 (by omega)]
        simp only [Option.bind_some]
        rw [if_neg (by decide), if_neg (by decide), if_neg (by decide), if_pos (CH_isR g5), i7 _ _ _ hk (by omega) hb]
        simp only [Option.bind_some]
        rw [show gX10_remember3 β z N (0 : Int32) = some (rmS β z N n (min 0 fr)) from rem3 (i := 0) z N g4.2.2.2 g4.2.2.1 (by omega) g1.2.2]
        simp only [Option.bind_some]
        rw [p1]
        simp only [Option.bind_some]
        rw [if_pos hD, c_put _ _ _ hk (by omega)]
        simp only [Option.bind_some]
        rw [cm_up g1.2.1]
        rfl
      · rw [inK1 h0, inE1 h3, picE (by omega) g3.2.2 g3.1 hWn, p3, ek]
        simp only [Option.bind_some]
        rw [if_neg (by decide), if_neg (by decide), putM _ (by omega)]
        simp only [Option.bind_some]
        rw [chg1 g3.2.2]
        rfl
    · rw [con1 h0, pow0 h3, inK1 h0, inE0 h3]
      simp only [Option.bind_some]
      rw [if_neg (by decide), if_pos trivial, if_neg (by decide), if_pos trivial]
      exact ⟨_, _, _, _, _, rfl, rfl, inv_refuse h⟩
  · rw [con0 h0, inK0 h0]
    simp only [Option.bind_some]
    rw [if_pos trivial, if_pos trivial]
    exact ⟨_, _, _, _, _, rfl, rfl, inv_refuse h⟩
set_option maxHeartbeats 2000000 in
theorem op_constantSpecial {G : GG} {z t : Nat} {β : BS} {b : Nat → va_E} {N : Nat} {σ : MS} {n : Nat} {P : Nat → PT} {fr am : Nat} (h : IV G z t β b N σ n P fr am) (ht : t < 512) (x0 x1 : Int32) : ∃ (β' : BS) (b' : Nat → va_E) (N' : Nat) (σ' : MS) (r : Int32), gX10_constantSpecial G z N (ctM G z b σ) β x0 x1 = some (β', ctM G z b' σ, N', r) ∧ gX11_constantSpecial σ x0 x1 = some (σ', r) ∧ Inv G z (t + 1) β' b' N' σ' := by
  unfold gX10_constantSpecial gX11_constantSpecial
  by_cases h0 : 0 ≤ x0.toInt ∧ x0.toInt < 8
  · obtain ⟨k, hk, rfl⟩ := ex_o (n := 8) h0.1 h0.2
    by_cases h3 : 0 ≤ x1.toInt ∧ x1.toInt < 6
    · have h' := h
      obtain ⟨g1, g2, g3, g4, g5, g6⟩ := h
      have hWn := g2 n (Nat.le_refl _)
      have ek : (192 : Int32) + Int32.ofNat k = Int32.ofNat (192 + k) := o_add 192 k
      have hb : b_cb β k = 0 ∨ b_cb β k = 1 := by rw [(g4.1.2 k hk).2]; exact (hWn.1 (192 + k) (by omega)).2.1
      refine ⟨_, _, _, _, 1, ?_, ?_, ch_con h' hk (x := spv x1 0) (v := spb x1) ⟨(sp_ok (nar := 0)).1, (sp_ok (nar := 0)).2.1, (sp_ok (nar := 0)).2.2.1⟩⟩
      · rw [con1 h0, spc1 h3, room_eq g4.2.2.2 (by omega)]
        simp only [Option.bind_some]
        rw [if_neg (by decide), if_neg (by decide), if_neg (by decide), if_pos (CH_isR g5), i7 _ _ _ hk (by omega) hb]
        simp only [Option.bind_some]
        rw [show gX10_remember3 β z N (0 : Int32) = some (rmS β z N n (min 0 fr)) from rem3 (i := 0) z N g4.2.2.2 g4.2.2.1 (by omega) g1.2.2]
        simp only [Option.bind_some]
        rw [spC _ _ _ _ hk (by omega)]
        simp only [Option.bind_some]
        rw [cm_up g1.2.1]
        rfl
      · rw [inK1 h0, inS1 h3, picE (by omega) g3.2.2 g3.1 hWn, ek]
        simp only [Option.bind_some]
        rw [if_neg (by decide), if_neg (by decide), spM _ (by omega)]
        simp only [Option.bind_some]
        rw [chg1 g3.2.2]
        rfl
    · rw [con1 h0, spc0 h3, inK1 h0, inS0 h3]
      simp only [Option.bind_some]
      rw [if_neg (by decide), if_pos trivial, if_neg (by decide), if_pos trivial]
      exact ⟨_, _, _, _, _, rfl, rfl, inv_refuse h⟩
  · rw [con0 h0, inK0 h0]
    simp only [Option.bind_some]
    rw [if_pos trivial, if_pos trivial]
    exact ⟨_, _, _, _, _, rfl, rfl, inv_refuse h⟩
