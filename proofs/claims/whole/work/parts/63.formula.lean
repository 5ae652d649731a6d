/-! formula -/
theorem z_0 : (0 : Int32).toInt = 0 := rfl
theorem z_27 : (27 : Int32).toInt = 27 := rfl
theorem z_11 : (11 : Int32).toInt = 11 := rfl
theorem z_26 : (26 : Int32).toInt = 26 := rfl
theorem z_16 : (16 : Int32).toInt = 16 := rfl
theorem z_23 : (23 : Int32).toInt = 23 := rfl
theorem z_1 : (1 : Int32).toInt = 1 := rfl
def FV (x0 x1 x2 x3 x4 : Int32) : Prop := (0 ≤ x0.toInt ∧ x0.toInt < 12) ∧ (0 ≤ x1.toInt ∧ x1.toInt < 27) ∧ (0 ≤ x2.toInt ∧ x2.toInt < x0.toInt) ∧ (0 ≤ x3.toInt ∧ (x3.toInt < x0.toInt ∨ (16 ≤ x3.toInt ∧ x3.toInt < 24))) ∧ (0 ≤ x4.toInt ∧ x4.toInt < 12)
theorem fC1 {G : GG} {z N : Nat} {b : Nat → va_E} {β : BS} {x0 x1 x2 x3 x4 : Int32} (hv : FV x0 x1 x2 x3 x4) : gX10_formula G z N b β x0 x1 x2 x3 x4 = gX10_formula_55 G z N b β x0 x1 x2 x3 x4 β b N := by
  obtain ⟨h0, h1, h2, h3, h4⟩ := hv
  unfold gX10_formula
  rw [col1 h0, cmp1 h4]
  simp only [Option.bind_some]
  rw [if_neg (by decide), if_neg (by decide), if_neg (by rw [i32_lt, z_0]; omega), if_pos (by rw [i32_lt, z_27]; omega), if_neg (by rw [i32_lt, z_0]; omega), if_neg (by rw [i32_le]; omega), if_neg (by rw [i32_lt, z_0]; omega)]
  by_cases c : x3 < x0
  · rw [if_pos c]
  · rw [if_neg c]
    rw [i32_lt] at c
    have := h3.2
    rw [src_1 (by omega) (by omega)]
    simp only [Option.bind_some]
    rw [if_neg (by decide)]
theorem fC0 {G : GG} {z N : Nat} {b : Nat → va_E} {β : BS} {x0 x1 x2 x3 x4 : Int32} (hv : ¬ FV x0 x1 x2 x3 x4) : gX10_formula G z N b β x0 x1 x2 x3 x4 = some (β, b, N, 0) := by
  unfold gX10_formula
  by_cases h0 : 0 ≤ x0.toInt ∧ x0.toInt < 12
  · rw [col1 h0]
    simp only [Option.bind_some]
    rw [if_neg (by decide)]
    by_cases h4 : 0 ≤ x4.toInt ∧ x4.toInt < 12
    · rw [cmp1 h4]
      simp only [Option.bind_some]
      rw [if_neg (by decide)]
      by_cases a1 : x1 < 0
      · rw [if_pos a1]
      rw [if_neg a1]
      by_cases a2 : x1 < 27
      · rw [if_pos a2]
        by_cases a3 : x2 < 0
        · rw [if_pos a3]
        rw [if_neg a3]
        by_cases a4 : x0 ≤ x2
        · rw [if_pos a4]
        rw [if_neg a4]
        by_cases a5 : x3 < 0
        · rw [if_pos a5]
        rw [if_neg a5]
        rw [i32_lt, z_0] at a1 a3 a5
        rw [i32_lt, z_27] at a2
        rw [i32_le] at a4
        by_cases a6 : x3 < x0
        · rw [i32_lt] at a6
          exact absurd ⟨h0, ⟨by omega, by omega⟩, ⟨by omega, by omega⟩, ⟨by omega, .inl a6⟩, h4⟩ hv
        · rw [if_neg a6, isSource_eq]
          rw [i32_lt] at a6
          by_cases a7 : 16 ≤ x3.toInt ∧ x3.toInt < 24
          · exact absurd ⟨h0, ⟨by omega, by omega⟩, ⟨by omega, by omega⟩, ⟨by omega, .inr a7⟩, h4⟩ hv
          · rw [if_neg a7]
            simp only [Option.bind_some]
            rw [if_pos trivial]
      · rw [if_neg a2]
    · rw [cmp0 h4]
      simp only [Option.bind_some]
      rw [if_pos trivial]
  · rw [col0 h0]
    simp only [Option.bind_some]
    rw [if_pos trivial]
theorem inN1 {v hi : Int32} (h : 0 ≤ v.toInt ∧ v.toInt ≤ hi.toInt) : gX11_isIn v 0 hi = some 1 := by rw [isIn_eq, if_pos (by rw [z_0]; exact h)]
theorem inN0 {v hi : Int32} (h : ¬ (0 ≤ v.toInt ∧ v.toInt ≤ hi.toInt)) : gX11_isIn v 0 hi = some 0 := by rw [isIn_eq, if_neg (by rw [z_0]; exact h)]
theorem sub1 {x : Int32} (h : 0 ≤ x.toInt ∧ x.toInt < 12) : (x - 1).toInt = x.toInt - 1 := by
  rw [i32_sub] <;> rw [z_1] <;> omega
theorem fM1 {σ : MS} {x0 x1 x2 x3 x4 : Int32} (hv : FV x0 x1 x2 x3 x4) : gX11_formula σ x0 x1 x2 x3 x4 = gX11_formula_71 σ x0 x1 x2 x3 x4 σ 1 := by
  obtain ⟨h0, h1, h2, h3, h4⟩ := hv
  have e := sub1 h0
  unfold gX11_formula gX11_formula_55
  rw [inC1 h0, inF1 h1, inN1 (v := x2) (by omega), inC1 h4]
  simp only [Option.bind_some]
  rw [if_neg (by decide), if_neg (by decide), if_neg (by decide)]
  by_cases c : x3.toInt < x0.toInt
  · rw [inN1 (v := x3) (by omega)]
    simp only [Option.bind_some]
    rw [if_neg (by decide), if_neg (by decide)]
  · have := h3.2
    rw [inN0 (v := x3) (by omega), inB1 (by omega)]
    simp only [Option.bind_some]
    rw [if_pos trivial, if_neg (by decide), if_neg (by decide)]
theorem f70 (σ τ : MS) (x0 x1 x2 x3 x4 : Int32) : gX11_formula_70 σ x0 x1 x2 x3 x4 τ = some (τ, 0) := by
  unfold gX11_formula_70 gX11_formula_71
  rw [if_pos rfl]
theorem fM0 {σ : MS} {x0 x1 x2 x3 x4 : Int32} (hv : ¬ FV x0 x1 x2 x3 x4) : gX11_formula σ x0 x1 x2 x3 x4 = some (σ, 0) := by
  unfold gX11_formula gX11_formula_55
  simp only [f70]
  by_cases h0 : 0 ≤ x0.toInt ∧ x0.toInt < 12
  · have e := sub1 h0
    rw [inC1 h0]
    simp only [Option.bind_some]
    rw [if_neg (by decide)]
    by_cases h1 : 0 ≤ x1.toInt ∧ x1.toInt < 27
    · rw [inF1 h1]
      simp only [Option.bind_some]
      rw [if_neg (by decide)]
      by_cases h2 : 0 ≤ x2.toInt ∧ x2.toInt < x0.toInt
      · rw [inN1 (v := x2) (by omega)]
        simp only [Option.bind_some]
        rw [if_neg (by decide)]
        by_cases h4 : 0 ≤ x4.toInt ∧ x4.toInt < 12
        · have h3 : ¬ (0 ≤ x3.toInt ∧ (x3.toInt < x0.toInt ∨ (16 ≤ x3.toInt ∧ x3.toInt < 24))) := fun c => hv ⟨h0, h1, h2, c, h4⟩
          rw [inN0 (v := x3) (by omega), inB0 (by omega)]
          simp only [Option.bind_some]
          rw [if_pos trivial, if_pos trivial]
        · rw [inC0 h4]
          simp only [Option.bind_some]
          rw [if_pos trivial]
          by_cases c : 0 ≤ x3.toInt ∧ x3.toInt < x0.toInt
          · rw [inN1 (v := x3) (by omega)]
            simp only [Option.bind_some]
            rw [if_neg (by decide)]
          · rw [inN0 (v := x3) (by omega)]
            simp only [Option.bind_some]
            rw [if_pos trivial]
            by_cases c2 : 16 ≤ x3.toInt ∧ x3.toInt < 24
            · rw [inB1 c2]
              simp only [Option.bind_some]
              rw [if_neg (by decide)]
            · rw [inB0 c2]
              simp only [Option.bind_some]
              rw [if_pos trivial]
      · rw [inN0 (v := x2) (by omega)]
        simp only [Option.bind_some]
        rw [if_pos trivial]
    · rw [inF0 h1]
      simp only [Option.bind_some]
      rw [if_pos trivial]
  · rw [inC0 h0]
    simp only [Option.bind_some]
    rw [if_pos trivial]
set_option maxHeartbeats 2000000 in
theorem op_formula {G : GG} {z t : Nat} {β : BS} {b : Nat → va_E} {N : Nat} {σ : MS} {n : Nat} {P : Nat → PT} {fr am : Nat} (h : IV G z t β b N σ n P fr am) (ht : t < 512) (x0 x1 x2 x3 x4 : Int32) : ∃ (β' : BS) (b' : Nat → va_E) (N' : Nat) (σ' : MS) (r : Int32), gX10_formula G z N (ctM G z b σ) β x0 x1 x2 x3 x4 = some (β', ctM G z b' σ, N', r) ∧ gX11_formula σ x0 x1 x2 x3 x4 = some (σ', r) ∧ Inv G z (t + 1) β' b' N' σ' := by
  by_cases hv : FV x0 x1 x2 x3 x4
  · rw [fC1 hv, fM1 hv]
    obtain ⟨h0, v1, v2, v3, v4⟩ := hv
    obtain ⟨i, hi, rfl⟩ := ex_o (n := 12) h0.1 h0.2
    rw [o_int (by omega)] at v2 v3
    have h' := h
    obtain ⟨g1, g2, g3, g4, g5, g6⟩ := h
    have hWn := g2 n (Nat.le_refl _)
    have hic : ix (Int32.ofNat i) 12 := (ixo (by omega)).mpr hi
    obtain ⟨n1, n2, n3, n4, n5, n6, n7⟩ := g4.1.1 i hi
    have hn01 : b_nar β i = 0 ∨ b_nar β i = 1 := by rw [n1]; exact (hWn.2 i hi).1
    obtain ⟨m1, m2, m3, m4⟩ := cuQ_m (P n) i (pT (P n)) (pB (P n)) (pN (P n) i) x1 x2 x3 x4
    refine ⟨_, _, _, _, 1, ?_, ?_, ch_mk h' hi (Q := cuQ (P n) i (pT (P n)) (pB (P n)) (pN (P n) i) x1 x2 x3 x4) ?_ ?_ ?_ (na := b_nar β) (ff := va_up (b_ff β) i x1) (fa := va_up (b_fa β) i x2) (fb := va_up (b_fb β) i x3) (fc := va_up (b_fc β) i x4) (nu := b_num β) (bl := b_bl β) ?_ ?_ ?_ n7 (T := m_told σ) (B := m_blank σ) (nr := m_narrow σ) (md := upd (upd (upd (upd (m_made σ) (4 * i) x1) (4 * i + 1) x2) (4 * i + 2) x3) (4 * i + 3) x4) (nw := m_now σ) (nn := m_none σ) (w := m_worth σ) (c := m_isNone σ) ?_ (F2 := cp 16 (b_num β i) (fun _ => 0)) (H2 := cp 16 (b_bl β i) (cp 16 (fun _ => 1) (fun _ => 0))) ?_⟩
    · unfold gX10_formula_55
      rw [room_eq g4.2.2.2 (by omega)]
      simp only [Option.bind_some]
      rw [if_neg (by decide), if_pos hic, if_pos (CH_isR g5), tn (by omega), i4 _ hn01 n7]
      simp only [Option.bind_some]
      rw [rem2 z N g4.2.2.2 g4.2.2.1 (by omega) g1.2.2]
      simp only [Option.bind_some]
      rw [rm_cg]
      simp only [gg_ff, gs_ff, gg_fa, gs_fa, gg_fb, gs_fb, gg_fc, gs_fc]
      exact congrArg (fun q => some (cgS β z N n (min i fr) (b_nar β) (va_up (b_ff β) i x1) (va_up (b_fa β) i x2) (va_up (b_fb β) i x3) (va_up (b_fc β) i x4) (b_num β) (b_bl β) (b_cn β) (b_cb β), q, N + 5, (1 : Int32))) (b5_cm g1.2.1 (b_lat β) i (b_nar β i) (b_ff β i) (b_fa β i) (b_fb β i) (b_fc β i) (cp 16 (b_num β i) (fun _ => 0)) (cp 16 (b_bl β i) (cp 16 (fun _ => 1) (fun _ => 0))))
    · unfold gX11_formula_71
      rw [if_neg (by decide), picE (by omega) g3.2.2 g3.1 hWn, k_pc]
      simp only [Option.bind_some]
      rw [o4, show (1 : Int32) = Int32.ofNat 1 from rfl, show (2 : Int32) = Int32.ofNat 2 from rfl, show (3 : Int32) = Int32.ofNat 3 from rfl, o_add, o_add, o_add, if_pos ((ixo (by omega)).mpr (by omega)), if_pos ((ixo (by omega)).mpr (by omega)), if_pos ((ixo (by omega)).mpr (by omega)), if_pos ((ixo (by omega)).mpr (by omega)), tn (by omega), tn (by omega), tn (by omega), tn (by omega)]
      simp only [kg_made, ks_made]
      rw [k_chg g3.2.2]
      rfl
    · refine cuQ_WF hWn (fun k hk => hWn.1 k hk) (fun k _ _ => rfl) (hWn.2 i hi).1 (by omega) (fun c => absurd c (by omega)) (fun _ => ⟨v2, v3, by omega⟩)
    · intro j hj e
      obtain ⟨q1, q2, q3, q4⟩ := cuQ_o (P := P n) (T := pT (P n)) (B := pB (P n)) (nar := pN (P n) i) (ff := x1) (fa := x2) (fb := x3) (fc := x4) e
      exact ⟨cuQ_N e, q1, q2, q3, q4⟩
    · intro k _ _
      exact ⟨rfl, rfl⟩
    · intro j hj e
      rw [va_up_ne _ _ e, va_up_ne _ _ e, va_up_ne _ _ e, va_up_ne _ _ e]
      exact ⟨⟨rfl, rfl, rfl, rfl, rfl⟩, rfl, rfl⟩
    · rw [m1, m2, m3, m4, va_up_self, va_up_self, va_up_self, va_up_self, cuQ_n]
      exact ⟨n1, rfl, rfl, rfl, rfl⟩
    · rw [m1]
      exact fun c => absurd c (by omega)
    · refine ch_MP (fun k hk => g3.1.1 k hk) (fun j hj => ?_) (fun k hk => ?_)
      · by_cases e : j = i
        · subst e; rw [cuQ_n]; exact g3.1.2.1 j hj
        · rw [cuQ_N e]; exact g3.1.2.1 j hj
      · rw [cuQ_M]
        show (if k = 4 * i + 3 then x4 else if k = 4 * i + 2 then x3 else if k = 4 * i + 1 then x2 else if k = 4 * i then x1 else m_made σ k) = _
        rw [g3.1.2.2 k hk]
    · intro p hp
      rw [cp_in hp, cp_in hp]; exact ⟨rfl, rfl⟩
  · rw [fC0 hv, fM0 hv]
    exact ⟨_, _, _, _, _, rfl, rfl, inv_refuse h⟩
