/-! the start, and the law's walk out of the calls -/
def inS (B md : Nat → Int32) : MS := m_made_ (m_blank_ m_0 B) md
theorem in124 (k : MS → Int32 → Option MS) (B md : Nat → Int32) (v1 : Int32) : gX11_init_124 k (inS B md) v1 = if (200 : Int32) ≤ v1 then (lq2 (gX11_init_146) 300 (inS B md) (0 : Int32)) else (if ix v1 200 then (k (inS (upd B v1.toNatClampNeg (vp_nar .boolean (1 : Int32))) md) (v1 + (1 : Int32))) else none) := rfl
theorem in146 (k : MS → Int32 → Option MS) (B md : Nat → Int32) (v1 : Int32) : gX11_init_146 k (inS B md) v1 = if (12 : Int32) ≤ v1 then (some (inS B md)) else (if ix ((4 : Int32) * v1) 48 then (k (inS B (upd md ((4 : Int32) * v1).toNatClampNeg (-1 : Int32))) (v1 + (1 : Int32))) else none) := rfl
def mdk (k : Nat) : Nat → Int32 := fun q => if q % 4 = 0 ∧ q < 4 * k then -1 else 0
theorem mdk_0 : mdk 0 = fun _ => 0 := by
  funext q
  exact if_neg (by omega)
theorem mdk_s (k : Nat) : upd (mdk k) (4 * k) (-1) = mdk (k + 1) := by
  funext q
  unfold upd mdk
  by_cases e : q = 4 * k
  · rw [if_pos e, if_pos (by omega)]
  · rw [if_neg e]
    by_cases c : q % 4 = 0 ∧ q < 4 * k
    · rw [if_pos c, if_pos (by omega)]
    · rw [if_neg c, if_neg (by omega)]
theorem inA (md : Nat → Int32) : ∀ (d g k : Nat), k + d = 200 → d < g → lq2 gX11_init_124 g (inS (cp k (fun _ => 1) (fun _ => 0)) md) (Int32.ofNat k) = lq2 gX11_init_146 300 (inS (cp 200 (fun _ => 1) (fun _ => 0)) md) 0 := by
  intro d
  induction d with
  | zero =>
    intro g k hk hg
    obtain ⟨g, rfl⟩ : ∃ g', g = g' + 1 := ⟨g - 1, by omega⟩
    obtain rfl : k = 200 := by omega
    rw [lq2_s, in124, if_pos (by decide)]
  | succ d ih =>
    intro g k hk hg
    obtain ⟨g, rfl⟩ : ∃ g', g = g' + 1 := ⟨g - 1, by omega⟩
    have := ih g (k + 1) (by omega) (by omega)
    rw [lq2_s]
    generalize lq2 gX11_init_124 g = K at this ⊢
    rw [in124, if_neg (by rw [show (200 : Int32) = Int32.ofNat 200 from rfl, o_le (by omega) (by omega)]; omega), if_pos ((ixo (by omega)).mpr (by omega)), tn (by omega), nar01 (.inr rfl), show upd (cp k (fun _ => 1) (fun _ => 0)) k 1 = cp (k + 1) (fun _ => 1) (fun _ => 0) from cp_u, o_succ]
    exact this
theorem inB (B : Nat → Int32) : ∀ (d g k : Nat), k + d = 12 → d < g → lq2 gX11_init_146 g (inS B (mdk k)) (Int32.ofNat k) = some (inS B (mdk 12)) := by
  intro d
  induction d with
  | zero =>
    intro g k hk hg
    obtain ⟨g, rfl⟩ : ∃ g', g = g' + 1 := ⟨g - 1, by omega⟩
    obtain rfl : k = 12 := by omega
    rw [lq2_s, in146, if_pos (by decide)]
  | succ d ih =>
    intro g k hk hg
    obtain ⟨g, rfl⟩ : ∃ g', g = g' + 1 := ⟨g - 1, by omega⟩
    have := ih g (k + 1) (by omega) (by omega)
    rw [lq2_s]
    generalize lq2 gX11_init_146 g = K at this ⊢
    rw [in146, if_neg (by rw [show (12 : Int32) = Int32.ofNat 12 from rfl, o_le (by omega) (by omega)]; omega), o4, if_pos ((ixo (by omega)).mpr (by omega)), tn (by omega), mdk_s, o_succ]
    exact this
theorem inM : gX11_init = some (inS (cp 200 (fun _ => 1) (fun _ => 0)) (mdk 12)) := by
  have e1 := inA (mdk 0) 200 300 0 rfl (by decide)
  have e2 := inB (cp 200 (fun _ => 1) (fun _ => 0)) 12 300 0 rfl (by decide)
  rw [cp_0] at e1
  have e0 : inS (fun _ => 0) (mdk 0) = m_0 := by rw [mdk_0]; rfl
  rw [e0] at e1
  unfold gX11_init
  exact e1.trans e2
theorem cp1 {w k : Nat} (h : k < w) : cp w (fun _ => (1 : Int32)) (fun _ => 0) k = 1 := if_pos h
def P_0 : PT := (fun _ => FP.dconst0, fun _ => 1, fun _ => 0, mdk 12)
theorem mdk_i {i : Nat} (hi : i < 12) : mdk 12 (4 * i) = -1 ∧ mdk 12 (4 * i + 1) = 0 ∧ mdk 12 (4 * i + 2) = 0 ∧ mdk 12 (4 * i + 3) = 0 := by
  refine ⟨if_pos (by omega), if_neg (by omega), if_neg (by omega), if_neg (by omega)⟩
theorem P0_neg {i : Nat} (hi : i < 12) : (pM P_0 (4 * i)).toInt = -1 := by
  show (mdk 12 (4 * i)).toInt = -1
  rw [(mdk_i hi).1]; decide
theorem P0_WF : WF P_0 := by
  refine ⟨fun k _ => ⟨nn0, .inr rfl, fun _ => rfl⟩, fun i hi => ?_⟩
  have e := P0_neg hi
  exact ⟨.inl rfl, by omega, fun _ p _ => .inl rfl, fun c => absurd c (by omega)⟩
theorem i_start (G : GG) (z : Nat) (b : Nat → va_E) : Inv G z 0 (b_0 (cp 8 (fun _ => 1) (fun _ => 0)) (cp 16 (fun _ => 1) (fun _ => 0), cp 16 (fun _ => 1) (fun _ => 0)) (cp 16 (fun _ => 1) (fun _ => 0))) b 86 (inS (cp 200 (fun _ => 1) (fun _ => 0)) (mdk 12)) := by
  refine ⟨0, fun _ => P_0, 12, 0, ⟨by omega, by omega, by omega⟩, fun _ _ => P0_WF, ⟨⟨fun k hk => ⟨rfl, ?_⟩, fun _ _ => rfl, fun _ _ => rfl⟩, fun j hj => absurd hj (by omega), rfl⟩, ⟨?_, ?_, rfl, rfl⟩, rfl, ?_⟩
  · exact cp1 hk
  · refine ⟨fun i hi => ?_, fun k hk => ⟨rfl, cp1 hk⟩⟩
    obtain ⟨e1, e2, e3, e4⟩ := mdk_i hi
    exact ⟨rfl, e1.symm, e2.symm, e3.symm, e4.symm, fun _ p hp => ⟨rfl, cp1 hp⟩, fun p hp => ⟨nn0, .inr (cp1 hp)⟩⟩
  · intro i hi p hp
    have e := P0_neg hi
    rw [NW_told hp (show (pM P_0 (4 * i)).toInt < 0 by omega)]
    exact ⟨rfl, cp1 hp⟩
  · refine ⟨by omega, rfl, rfl, rfl, fun k hk => ⟨⟨rfl, rfl, rfl⟩, ⟨rfl, rfl, rfl⟩, ⟨M16_0, M16_0⟩, fun c => absurd c (by omega)⟩⟩
theorem s_set : ∀ (G : GG) (l : Launch) (z : Nat), ∀ (t : Nat) (β : BS) (b : Nat → va_E) (N : Nat) (σ : MS), t < 512 → Inv G z t β b N σ → ∀ (x0 x1 x2 x3 : Int32), ∃ (β' : BS) (b' : Nat → va_E) (N' : Nat) (σ' : MS) (r : Int32), Ct G l yX10_set cX10_set 6 (some .int) ({ frames := 3, cells := 1, slots := 6, locals := 66 } : Room) [.ref (z + 0), .int x0, .int x1, .int x2, .int x3] z (ctB G z β (ctM G z b σ)) N (some (.int r)) (ctB G z β' (ctM G z b' σ)) N' ∧ Ct G l yX11_set cX11_set 5 (some .int) ({ frames := 2, cells := 0, slots := 0, locals := 44 } : Room) [.ref (z + 71), .int x0, .int x1, .int x2, .int x3] z (ctM G z (ctB G z β' b') σ) N' (some (.int r)) (ctM G z (ctB G z β' b') σ') N' ∧ Inv G z (t + 1) β' b' N' σ' := by
  intro G l z t β b N σ ht hI x0 x1 x2 x3
  obtain ⟨n, P, fr, am, h⟩ := hI
  have hN : 86 ≤ N := h.1.2.1
  obtain ⟨β', b', N', σ', r, e1, e2, hI⟩ := op_set h ht x0 x1 x2 x3
  exact ⟨β', b', N', σ', r, tX10_set (b := ctM G z b σ) (by omega) β x0 x1 x2 x3 e1, tX11_set (b := ctB G z β' b') (inv_N _ _ _ _ _ _ _ hI) σ x0 x1 x2 x3 e2, hI⟩
theorem s_special : ∀ (G : GG) (l : Launch) (z : Nat), ∀ (t : Nat) (β : BS) (b : Nat → va_E) (N : Nat) (σ : MS), t < 512 → Inv G z t β b N σ → ∀ (x0 x1 x2 : Int32), ∃ (β' : BS) (b' : Nat → va_E) (N' : Nat) (σ' : MS) (r : Int32), Ct G l yX10_special cX10_special 5 (some .int) ({ frames := 3, cells := 1, slots := 6, locals := 66 } : Room) [.ref (z + 0), .int x0, .int x1, .int x2] z (ctB G z β (ctM G z b σ)) N (some (.int r)) (ctB G z β' (ctM G z b' σ)) N' ∧ Ct G l yX11_special cX11_special 4 (some .int) ({ frames := 2, cells := 0, slots := 0, locals := 46 } : Room) [.ref (z + 71), .int x0, .int x1, .int x2] z (ctM G z (ctB G z β' b') σ) N' (some (.int r)) (ctM G z (ctB G z β' b') σ') N' ∧ Inv G z (t + 1) β' b' N' σ' := by
  intro G l z t β b N σ ht hI x0 x1 x2
  obtain ⟨n, P, fr, am, h⟩ := hI
  have hN : 86 ≤ N := h.1.2.1
  obtain ⟨β', b', N', σ', r, e1, e2, hI⟩ := op_special h ht x0 x1 x2
  exact ⟨β', b', N', σ', r, tX10_special (b := ctM G z b σ) (by omega) β x0 x1 x2 e1, tX11_special (b := ctB G z β' b') (inv_N _ _ _ _ _ _ _ hI) σ x0 x1 x2 e2, hI⟩
theorem s_constant : ∀ (G : GG) (l : Launch) (z : Nat), ∀ (t : Nat) (β : BS) (b : Nat → va_E) (N : Nat) (σ : MS), t < 512 → Inv G z t β b N σ → ∀ (x0 x1 x2 : Int32), ∃ (β' : BS) (b' : Nat → va_E) (N' : Nat) (σ' : MS) (r : Int32), Ct G l yX10_constant cX10_constant 4 (some .int) ({ frames := 3, cells := 1, slots := 6, locals := 66 } : Room) [.ref (z + 0), .int x0, .int x1, .int x2] z (ctB G z β (ctM G z b σ)) N (some (.int r)) (ctB G z β' (ctM G z b' σ)) N' ∧ Ct G l yX11_constant cX11_constant 4 (some .int) ({ frames := 1, cells := 0, slots := 0, locals := 24 } : Room) [.ref (z + 71), .int x0, .int x1, .int x2] z (ctM G z (ctB G z β' b') σ) N' (some (.int r)) (ctM G z (ctB G z β' b') σ') N' ∧ Inv G z (t + 1) β' b' N' σ' := by
  intro G l z t β b N σ ht hI x0 x1 x2
  obtain ⟨n, P, fr, am, h⟩ := hI
  have hN : 86 ≤ N := h.1.2.1
  obtain ⟨β', b', N', σ', r, e1, e2, hI⟩ := op_constant h ht x0 x1 x2
  exact ⟨β', b', N', σ', r, tX10_constant (b := ctM G z b σ) (by omega) β x0 x1 x2 e1, tX11_constant (b := ctB G z β' b') (inv_N _ _ _ _ _ _ _ hI) σ x0 x1 x2 e2, hI⟩
theorem s_constantSpecial : ∀ (G : GG) (l : Launch) (z : Nat), ∀ (t : Nat) (β : BS) (b : Nat → va_E) (N : Nat) (σ : MS), t < 512 → Inv G z t β b N σ → ∀ (x0 x1 : Int32), ∃ (β' : BS) (b' : Nat → va_E) (N' : Nat) (σ' : MS) (r : Int32), Ct G l yX10_constantSpecial cX10_constantSpecial 3 (some .int) ({ frames := 3, cells := 1, slots := 6, locals := 66 } : Room) [.ref (z + 0), .int x0, .int x1] z (ctB G z β (ctM G z b σ)) N (some (.int r)) (ctB G z β' (ctM G z b' σ)) N' ∧ Ct G l yX11_constantSpecial cX11_constantSpecial 3 (some .int) ({ frames := 2, cells := 0, slots := 0, locals := 46 } : Room) [.ref (z + 71), .int x0, .int x1] z (ctM G z (ctB G z β' b') σ) N' (some (.int r)) (ctM G z (ctB G z β' b') σ') N' ∧ Inv G z (t + 1) β' b' N' σ' := by
  intro G l z t β b N σ ht hI x0 x1
  obtain ⟨n, P, fr, am, h⟩ := hI
  have hN : 86 ≤ N := h.1.2.1
  obtain ⟨β', b', N', σ', r, e1, e2, hI⟩ := op_constantSpecial h ht x0 x1
  exact ⟨β', b', N', σ', r, tX10_constantSpecial (b := ctM G z b σ) (by omega) β x0 x1 e1, tX11_constantSpecial (b := ctB G z β' b') (inv_N _ _ _ _ _ _ _ hI) σ x0 x1 e2, hI⟩
theorem s_formula : ∀ (G : GG) (l : Launch) (z : Nat), ∀ (t : Nat) (β : BS) (b : Nat → va_E) (N : Nat) (σ : MS), t < 512 → Inv G z t β b N σ → ∀ (x0 x1 x2 x3 x4 : Int32), ∃ (β' : BS) (b' : Nat → va_E) (N' : Nat) (σ' : MS) (r : Int32), Ct G l yX10_formula cX10_formula 7 (some .int) ({ frames := 4, cells := 5, slots := 44, locals := 91 } : Room) [.ref (z + 0), .int x0, .int x1, .int x2, .int x3, .int x4] z (ctB G z β (ctM G z b σ)) N (some (.int r)) (ctB G z β' (ctM G z b' σ)) N' ∧ Ct G l yX11_formula cX11_formula 7 (some .int) ({ frames := 1, cells := 0, slots := 0, locals := 22 } : Room) [.ref (z + 71), .int x0, .int x1, .int x2, .int x3, .int x4] z (ctM G z (ctB G z β' b') σ) N' (some (.int r)) (ctM G z (ctB G z β' b') σ') N' ∧ Inv G z (t + 1) β' b' N' σ' := by
  intro G l z t β b N σ ht hI x0 x1 x2 x3 x4
  obtain ⟨n, P, fr, am, h⟩ := hI
  have hN : 86 ≤ N := h.1.2.1
  obtain ⟨β', b', N', σ', r, e1, e2, hI⟩ := op_formula h ht x0 x1 x2 x3 x4
  exact ⟨β', b', N', σ', r, tX10_formula (b := ctM G z b σ) (by omega) β x0 x1 x2 x3 x4 e1, tX11_formula (b := ctB G z β' b') (inv_N _ _ _ _ _ _ _ hI) σ x0 x1 x2 x3 x4 e2, hI⟩
theorem s_input : ∀ (G : GG) (l : Launch) (z : Nat), ∀ (t : Nat) (β : BS) (b : Nat → va_E) (N : Nat) (σ : MS), t < 512 → Inv G z t β b N σ → ∀ (x0 : Int32), ∃ (β' : BS) (b' : Nat → va_E) (N' : Nat) (σ' : MS) (r : Int32), Ct G l yX10_input cX10_input 3 (some .int) ({ frames := 6, cells := 5, slots := 44, locals := 166 } : Room) [.ref (z + 0), .int x0] z (ctB G z β (ctM G z b σ)) N (some (.int r)) (ctB G z β' (ctM G z b' σ)) N' ∧ Ct G l yX11_input cX11_input 3 (some .int) ({ frames := 7, cells := 0, slots := 0, locals := 168 } : Room) [.ref (z + 71), .int x0] z (ctM G z (ctB G z β' b') σ) N' (some (.int r)) (ctM G z (ctB G z β' b') σ') N' ∧ Inv G z (t + 1) β' b' N' σ' := by
  intro G l z t β b N σ ht hI x0
  obtain ⟨n, P, fr, am, h⟩ := hI
  have hN : 86 ≤ N := h.1.2.1
  obtain ⟨β', b', N', σ', r, e1, e2, hI⟩ := op_input h ht x0
  exact ⟨β', b', N', σ', r, tX10_input (b := ctM G z b σ) (by omega) β x0 e1, tX11_input (b := ctB G z β' b') (inv_N _ _ _ _ _ _ _ hI) σ x0 e2, hI⟩
theorem s_width : ∀ (G : GG) (l : Launch) (z : Nat), ∀ (t : Nat) (β : BS) (b : Nat → va_E) (N : Nat) (σ : MS), t < 512 → Inv G z t β b N σ → ∀ (x0 x1 : Int32), (x1 = 0 ∨ x1 = 1) → ∃ (β' : BS) (b' : Nat → va_E) (N' : Nat) (σ' : MS) (r : Int32), Ct G l yX10_width cX10_width 5 (some .int) ({ frames := 4, cells := 5, slots := 44, locals := 91 } : Room) [.ref (z + 0), .int x0, .int x1] z (ctB G z β (ctM G z b σ)) N (some (.int r)) (ctB G z β' (ctM G z b' σ)) N' ∧ Ct G l yX11_width cX11_width 4 (some .int) ({ frames := 1, cells := 0, slots := 0, locals := 22 } : Room) [.ref (z + 71), .int x0, .int x1] z (ctM G z (ctB G z β' b') σ) N' (some (.int r)) (ctM G z (ctB G z β' b') σ') N' ∧ Inv G z (t + 1) β' b' N' σ' := by
  intro G l z t β b N σ ht hI x0 x1 hx
  obtain ⟨n, P, fr, am, h⟩ := hI
  have hN : 86 ≤ N := h.1.2.1
  obtain ⟨β', b', N', σ', r, e1, e2, hI⟩ := op_width h ht x0 x1 hx
  exact ⟨β', b', N', σ', r, tX10_width (b := ctM G z b σ) (by omega) β x0 x1 e1, tX11_width (b := ctB G z β' b') (inv_N _ _ _ _ _ _ _ hI) σ x0 x1 e2, hI⟩
theorem s_back : ∀ (G : GG) (l : Launch) (z : Nat), ∀ (t : Nat) (β : BS) (b : Nat → va_E) (N : Nat) (σ : MS), t < 512 → Inv G z t β b N σ → ∃ (β' : BS) (b' : Nat → va_E) (N' : Nat) (σ' : MS) (r : Int32), Ct G l yX10_back cX10_back 2 (some .int) ({ frames := 4, cells := 0, slots := 0, locals := 88 } : Room) [.ref (z + 0)] z (ctB G z β (ctM G z b σ)) N (some (.int r)) (ctB G z β' (ctM G z b' σ)) N' ∧ Ct G l yX11_back cX11_back 2 (some .int) ({ frames := 0, cells := 0, slots := 0, locals := 0 } : Room) [.ref (z + 71)] z (ctM G z (ctB G z β' b') σ) N' (some (.int r)) (ctM G z (ctB G z β' b') σ') N' ∧ Inv G z (t + 1) β' b' N' σ' := by
  intro G l z t β b N σ ht hI
  obtain ⟨n, P, fr, am, h⟩ := hI
  have hN : 86 ≤ N := h.1.2.1
  obtain ⟨β', σ', r, e1, e2, hI⟩ := op_back h ht l
  exact ⟨β', b, N, σ', r, e1, tX11_back (b := ctB G z β' b) hN σ e2, hI⟩
theorem s_alarm : ∀ (G : GG) (l : Launch) (z : Nat), ∀ (t : Nat) (β : BS) (b : Nat → va_E) (N : Nat) (σ : MS), t < 512 → Inv G z t β b N σ → ∀ (x0 x1 x2 : Int32), ∃ (β' : BS) (b' : Nat → va_E) (N' : Nat) (σ' : MS) (r : Int32), Ct G l yX10_alarm cX10_alarm 5 (some .int) ({ frames := 1, cells := 0, slots := 0, locals := 20 } : Room) [.ref (z + 0), .int x0, .int x1, .int x2] z (ctB G z β (ctM G z b σ)) N (some (.int r)) (ctB G z β' (ctM G z b' σ)) N' ∧ Ct G l yX11_alarm cX11_alarm 4 (some .int) ({ frames := 1, cells := 0, slots := 0, locals := 22 } : Room) [.ref (z + 71), .int x0, .int x1, .int x2] z (ctM G z (ctB G z β' b') σ) N' (some (.int r)) (ctM G z (ctB G z β' b') σ') N' ∧ Inv G z (t + 1) β' b' N' σ' := by
  intro G l z t β b N σ ht hI x0 x1 x2
  obtain ⟨n, P, fr, am, h⟩ := hI
  have hN : 86 ≤ N := h.1.2.1
  obtain ⟨β', σ', r, e1, e2, hI⟩ := op_alarm h x0 x1 x2
  exact ⟨β', b, N, σ', r, tX10_alarm (b := ctM G z b σ) (by omega) β x0 x1 x2 e1, tX11_alarm (b := ctB G z β' b) hN σ x0 x1 x2 e2, hI⟩
theorem s_ring : ∀ (G : GG) (l : Launch) (z : Nat), ∀ (t : Nat) (β : BS) (b : Nat → va_E) (N : Nat) (σ : MS), t < 512 → Inv G z t β b N σ → ∃ (β' : BS) (b' : Nat → va_E) (N' : Nat) (σ' : MS) (r : Int32), Ct G l yX10_ring cX10_ring 3 (some .int) ({ frames := 6, cells := 0, slots := 0, locals := 166 } : Room) [.ref (z + 0)] z (ctB G z β (ctM G z b σ)) N (some (.int r)) (ctB G z β' (ctM G z b' σ)) N' ∧ Ct G l yX11_ring cX11_ring 5 (some .int) ({ frames := 7, cells := 0, slots := 0, locals := 168 } : Room) [.ref (z + 71)] z (ctM G z (ctB G z β' b') σ) N' (some (.int r)) (ctM G z (ctB G z β' b') σ') N' ∧ Inv G z (t + 1) β' b' N' σ' := by
  intro G l z t β b N σ ht hI
  obtain ⟨n, P, fr, am, h⟩ := hI
  have hN : 86 ≤ N := h.1.2.1
  obtain ⟨β', σ', r, e1, e2, hI⟩ := op_ring h
  exact ⟨β', b, N, σ', r, tX10_ring (b := ctM G z b σ) (by omega) β e1, tX11_ring (b := ctB G z β' b) hN σ e2, hI⟩
theorem s_reading : ∀ (G : GG) (l : Launch) (z : Nat), ∀ (t : Nat) (β : BS) (b : Nat → va_E) (N : Nat) (σ : MS), t < 512 → Inv G z t β b N σ → ∀ (x0 x1 : Int32), ∃ (β' : BS) (b' : Nat → va_E) (N' : Nat) (σ' : MS) (r : UInt64), Ct G l yX10_reading cX10_reading 3 (some .double) ({ frames := 6, cells := 0, slots := 0, locals := 166 } : Room) [.ref (z + 0), .int x0, .int x1] z (ctB G z β (ctM G z b σ)) N (some (.double r)) (ctB G z β' (ctM G z b' σ)) N' ∧ Ct G l yX11_reading cX11_reading 3 (some .double) ({ frames := 8, cells := 0, slots := 0, locals := 190 } : Room) [.ref (z + 71), .int x0, .int x1] z (ctM G z (ctB G z β' b') σ) N' (some (.double r)) (ctM G z (ctB G z β' b') σ') N' ∧ Inv G z (t + 1) β' b' N' σ' := by
  intro G l z t β b N σ ht hI x0 x1
  obtain ⟨n, P, fr, am, h⟩ := hI
  have hN : 86 ≤ N := h.1.2.1
  obtain ⟨β', σ', r, e1, e2, hI⟩ := op_reading h x0 x1
  exact ⟨β', b, N, σ', r, tX10_reading (b := ctM G z b σ) (by omega) β x0 x1 e1, tX11_reading (b := ctB G z β' b) hN σ x0 x1 e2, hI⟩
theorem s_isBlank : ∀ (G : GG) (l : Launch) (z : Nat), ∀ (t : Nat) (β : BS) (b : Nat → va_E) (N : Nat) (σ : MS), t < 512 → Inv G z t β b N σ → ∀ (x0 x1 : Int32), ∃ (β' : BS) (b' : Nat → va_E) (N' : Nat) (σ' : MS) (r : Int32), Ct G l yX10_isBlank cX10_isBlank 3 (some .boolean) ({ frames := 6, cells := 0, slots := 0, locals := 166 } : Room) [.ref (z + 0), .int x0, .int x1] z (ctB G z β (ctM G z b σ)) N (some (.int r)) (ctB G z β' (ctM G z b' σ)) N' ∧ Ct G l yX11_isBlank cX11_isBlank 3 (some .boolean) ({ frames := 8, cells := 0, slots := 0, locals := 190 } : Room) [.ref (z + 71), .int x0, .int x1] z (ctM G z (ctB G z β' b') σ) N' (some (.int r)) (ctM G z (ctB G z β' b') σ') N' ∧ Inv G z (t + 1) β' b' N' σ' := by
  intro G l z t β b N σ ht hI x0 x1
  obtain ⟨n, P, fr, am, h⟩ := hI
  have hN : 86 ≤ N := h.1.2.1
  obtain ⟨β', σ', r, e1, e2, hI⟩ := op_isBlank h x0 x1
  exact ⟨β', b, N, σ', r, tX10_isBlank (b := ctM G z b σ) (by omega) β x0 x1 e1, tX11_isBlank (b := ctB G z β' b) hN σ x0 x1 e2, hI⟩
theorem s_isMinus : ∀ (G : GG) (l : Launch) (z : Nat), ∀ (t : Nat) (β : BS) (b : Nat → va_E) (N : Nat) (σ : MS), t < 512 → Inv G z t β b N σ → ∀ (x0 x1 : Int32), ∃ (β' : BS) (b' : Nat → va_E) (N' : Nat) (σ' : MS) (r : Int32), Ct G l yX10_isMinus cX10_isMinus 3 (some .boolean) ({ frames := 6, cells := 0, slots := 0, locals := 166 } : Room) [.ref (z + 0), .int x0, .int x1] z (ctB G z β (ctM G z b σ)) N (some (.int r)) (ctB G z β' (ctM G z b' σ)) N' ∧ Ct G l yX11_isMinus cX11_isMinus 3 (some .boolean) ({ frames := 8, cells := 0, slots := 0, locals := 190 } : Room) [.ref (z + 71), .int x0, .int x1] z (ctM G z (ctB G z β' b') σ) N' (some (.int r)) (ctM G z (ctB G z β' b') σ') N' ∧ Inv G z (t + 1) β' b' N' σ' := by
  intro G l z t β b N σ ht hI x0 x1
  obtain ⟨n, P, fr, am, h⟩ := hI
  have hN : 86 ≤ N := h.1.2.1
  obtain ⟨β', σ', r, e1, e2, hI⟩ := op_isMinus h x0 x1
  exact ⟨β', b, N, σ', r, tX10_isMinus (b := ctM G z b σ) (by omega) β x0 x1 e1, tX11_isMinus (b := ctB G z β' b) hN σ x0 x1 e2, hI⟩
theorem s_bits : ∀ (G : GG) (l : Launch) (z : Nat), ∀ (t : Nat) (β : BS) (b : Nat → va_E) (N : Nat) (σ : MS), t < 512 → Inv G z t β b N σ → ∀ (x0 x1 : Int32), ∃ (β' : BS) (b' : Nat → va_E) (N' : Nat) (σ' : MS) (r : Int64), Ct G l yX10_bits cX10_bits 3 (some .long) ({ frames := 6, cells := 0, slots := 0, locals := 166 } : Room) [.ref (z + 0), .int x0, .int x1] z (ctB G z β (ctM G z b σ)) N (some (.long r)) (ctB G z β' (ctM G z b' σ)) N' ∧ Ct G l yX11_bits cX11_bits 9 (some .long) ({ frames := 8, cells := 0, slots := 0, locals := 190 } : Room) [.ref (z + 71), .int x0, .int x1] z (ctM G z (ctB G z β' b') σ) N' (some (.long r)) (ctM G z (ctB G z β' b') σ') N' ∧ Inv G z (t + 1) β' b' N' σ' := by
  intro G l z t β b N σ ht hI x0 x1
  obtain ⟨n, P, fr, am, h⟩ := hI
  have hN : 86 ≤ N := h.1.2.1
  obtain ⟨β', σ', r, e1, e2, hI⟩ := op_bits h x0 x1
  exact ⟨β', b, N, σ', r, tX10_bits (b := ctM G z b σ) (by omega) β x0 x1 e1, tX11_bits (b := ctB G z β' b) hN σ x0 x1 e2, hI⟩
theorem s_compared : ∀ (G : GG) (l : Launch) (z : Nat), ∀ (t : Nat) (β : BS) (b : Nat → va_E) (N : Nat) (σ : MS), t < 512 → Inv G z t β b N σ → ∀ (x0 x1 x2 : Int32), ∃ (β' : BS) (b' : Nat → va_E) (N' : Nat) (σ' : MS) (r : Int32), Ct G l yX10_compared cX10_compared 8 (some .int) ({ frames := 6, cells := 0, slots := 0, locals := 166 } : Room) [.ref (z + 0), .int x0, .int x1, .int x2] z (ctB G z β (ctM G z b σ)) N (some (.int r)) (ctB G z β' (ctM G z b' σ)) N' ∧ Ct G l yX11_compared cX11_compared 8 (some .int) ({ frames := 7, cells := 0, slots := 0, locals := 168 } : Room) [.ref (z + 71), .int x0, .int x1, .int x2] z (ctM G z (ctB G z β' b') σ) N' (some (.int r)) (ctM G z (ctB G z β' b') σ') N' ∧ Inv G z (t + 1) β' b' N' σ' := by
  intro G l z t β b N σ ht hI x0 x1 x2
  obtain ⟨n, P, fr, am, h⟩ := hI
  have hN : 86 ≤ N := h.1.2.1
  obtain ⟨β', σ', r, e1, e2, hI⟩ := op_compared h x0 x1 x2
  exact ⟨β', b, N, σ', r, tX10_compared (b := ctM G z b σ) (by omega) β x0 x1 x2 e1, tX11_compared (b := ctB G z β' b) hN σ x0 x1 x2 e2, hI⟩
theorem s_alarmed : ∀ (G : GG) (l : Launch) (z : Nat), ∀ (t : Nat) (β : BS) (b : Nat → va_E) (N : Nat) (σ : MS), t < 512 → Inv G z t β b N σ → ∀ (x0 x1 : Int32), ∃ (β' : BS) (b' : Nat → va_E) (N' : Nat) (σ' : MS) (r : Int32), Ct G l yX10_alarmed cX10_alarmed 3 (some .int) ({ frames := 2, cells := 0, slots := 0, locals := 42 } : Room) [.ref (z + 0), .int x0, .int x1] z (ctB G z β (ctM G z b σ)) N (some (.int r)) (ctB G z β' (ctM G z b' σ)) N' ∧ Ct G l yX11_alarmed cX11_alarmed 4 (some .int) ({ frames := 1, cells := 0, slots := 0, locals := 22 } : Room) [.ref (z + 71), .int x0, .int x1] z (ctM G z (ctB G z β' b') σ) N' (some (.int r)) (ctM G z (ctB G z β' b') σ') N' ∧ Inv G z (t + 1) β' b' N' σ' := by
  intro G l z t β b N σ ht hI x0 x1
  obtain ⟨n, P, fr, am, h⟩ := hI
  have hN : 86 ≤ N := h.1.2.1
  obtain ⟨r, e1, e2⟩ := op_alarmed h x0 x1
  exact ⟨β, b, N, σ, r, tX10_alarmed (b := ctM G z b σ) (by omega) β x0 x1 e1, tX11_alarmed (b := ctB G z β b) hN σ x0 x1 e2, inv_refuse h⟩
theorem s_told : ∀ (G : GG) (l : Launch) (z : Nat), ∀ (t : Nat) (β : BS) (b : Nat → va_E) (N : Nat) (σ : MS), t < 512 → Inv G z t β b N σ → ∀ (x0 x1 : Int32), ∃ (β' : BS) (b' : Nat → va_E) (N' : Nat) (σ' : MS) (r : Int32), Ct G l yX10_told cX10_told 3 (some .int) ({ frames := 6, cells := 0, slots := 0, locals := 166 } : Room) [.ref (z + 0), .int x0, .int x1] z (ctB G z β (ctM G z b σ)) N (some (.int r)) (ctB G z β' (ctM G z b' σ)) N' ∧ Ct G l yX11_told cX11_told 5 (some .int) ({ frames := 9, cells := 0, slots := 0, locals := 212 } : Room) [.ref (z + 71), .int x0, .int x1] z (ctM G z (ctB G z β' b') σ) N' (some (.int r)) (ctM G z (ctB G z β' b') σ') N' ∧ Inv G z (t + 1) β' b' N' σ' := by
  intro G l z t β b N σ ht hI x0 x1
  obtain ⟨n, P, fr, am, h⟩ := hI
  have hN : 86 ≤ N := h.1.2.1
  obtain ⟨β', σ', r, e1, e2, hI⟩ := op_told h x0 x1
  exact ⟨β', b, N, σ', r, tX10_told (b := ctM G z b σ) (by omega) β x0 x1 e1, tX11_told (b := ctB G z β' b) hN σ x0 x1 e2, hI⟩
theorem whole_start {p : Program} {e : Env} {s : State} {m : MethodId} {below : List Frame} {meth : Method} {c : Code} (l : Launch) {b L : Nat} {xs : Nat → Int32} (hL : L ≤ 3072) (C0 : lw_At p s m meth c b L xs) : W p l e room_1 s m #[Value.ref b] below meth c s.heap [] 0 0 (lw_Z below #[Value.ref b] s) (entryFrame m ([Value.ref b] : List Value).toArray 8) :=
  law_start l hL C0 init8 init9 init3 inM Inv inv_N inv_S s_set s_special s_constant s_constantSpecial s_formula s_input s_width s_back s_alarm s_ring s_reading s_isBlank s_isMinus s_bits s_compared s_alarmed s_told i_start
