/-! input, width -/
def cpw {α : Type} (a q : Nat) (f g : Nat → α) : Nat → α := fun k => if a ≤ k ∧ k < a + q then f k else g k
theorem cpw_0 {α : Type} (a : Nat) (f g : Nat → α) : cpw a 0 f g = g := by
  funext k
  exact if_neg (by omega)
theorem cpw_v {a q : Nat} {f g : Nat → UInt64} : vf_upd (cpw a q f g) (a + q) (f (a + q)) = cpw a (q + 1) f g := by
  funext k
  unfold vf_upd cpw
  by_cases e : k = a + q
  · rw [if_pos e, if_pos (by omega), e]
  · rw [if_neg e]
    by_cases c : a ≤ k ∧ k < a + q
    · rw [if_pos c, if_pos (by omega)]
    · rw [if_neg c, if_neg (by omega)]
theorem cpw_u {a q : Nat} {f g : Nat → Int32} : upd (cpw a q f g) (a + q) (f (a + q)) = cpw a (q + 1) f g := by
  funext k
  unfold upd cpw
  by_cases e : k = a + q
  · rw [if_pos e, if_pos (by omega), e]
  · rw [if_neg e]
    by_cases c : a ≤ k ∧ k < a + q
    · rw [if_pos c, if_pos (by omega)]
    · rw [if_neg c, if_neg (by omega)]
theorem cpw_i {α : Type} {a q k : Nat} {f g : Nat → α} (h : a ≤ k ∧ k < a + q) : cpw a q f g k = f k := if_pos h
theorem cpw_o {α : Type} {a q k : Nat} {f g : Nat → α} (h : ¬ (a ≤ k ∧ k < a + q)) : cpw a q f g k = g k := if_neg h
theorem inp36 (σ0 : MS) (x0 : Int32) (k36 : MS → Int32 → Option (MS × Int32)) (σ : MS) (n : Nat) (T : Nat → UInt64) (B nr md : Nat → Int32) (nw : Nat → UInt64) (nn : Nat → Int32) (w : UInt64) (c : Int32) (v2 : Int32) : gX11_input_36 σ0 x0 k36 (kS σ n T B nr md nw nn w c) v2 = if (((16 : Int32) * x0) + (16 : Int32)) ≤ v2 then (if ix ((4 : Int32) * x0) 48 then ((gX11_changed (kS σ n T B nr (upd md ((4 : Int32) * x0).toNatClampNeg (-1 : Int32)) nw nn w c)).bind (fun r4 => some (r4.1, r4.2))) else none) else (if ix v2 200 then (if ix v2 200 then (if ix v2 200 then (if ix v2 200 then (k36 (kS σ n (vf_upd T v2.toNatClampNeg (nw v2.toNatClampNeg)) (upd B v2.toNatClampNeg (vp_nar .boolean (nn v2.toNatClampNeg))) nr md nw nn w c) (v2 + (1 : Int32))) else none) else none) else none) else none) := rfl
theorem inpL {σ0 σ : MS} {n i : Nat} (hi : i < 12) (hc : m_changes σ = Int32.ofNat n) {T : Nat → UInt64} {B nr md : Nat → Int32} {nw : Nat → UInt64} {nn : Nat → Int32} {w : UInt64} {c : Int32} (hb : ∀ k, k < 200 → nn k = 0 ∨ nn k = 1) :
    ∀ (d g q : Nat), q + d = 16 → d < g → lq2 (gX11_input_36 σ0 (Int32.ofNat i)) g (kS σ n (cpw (16 * i) q nw T) (cpw (16 * i) q nn B) nr md nw nn w c) (Int32.ofNat (16 * i + q)) = some (chS σ n (cpw (16 * i) 16 nw T) (cpw (16 * i) 16 nn B) nr (upd md (4 * i) (-1)) nw nn w c, 1) := by
  intro d
  induction d with
  | zero =>
    intro g q hq hg
    obtain ⟨g, rfl⟩ : ∃ g', g = g' + 1 := ⟨g - 1, by omega⟩
    obtain rfl : q = 16 := by omega
    rw [lq2_s, inp36, l16i, o4, l16, o_add, if_pos (by rw [o_le (by omega) (by omega)]; omega), if_pos ((ixo (by omega)).mpr (by omega)), tn (by omega), k_chg hc]
    rfl
  | succ d ih =>
    intro g q hq hg
    obtain ⟨g, rfl⟩ : ∃ g', g = g' + 1 := ⟨g - 1, by omega⟩
    have := ih g (q + 1) (by omega) (by omega)
    have hix : ix (Int32.ofNat (16 * i + q)) 200 := (ixo (by omega)).mpr (by omega)
    rw [lq2_s]
    generalize lq2 (gX11_input_36 σ0 (Int32.ofNat i)) g = K at this ⊢
    rw [inp36, l16i, l16, o_add, if_neg (by rw [o_le (by omega) (by omega)]; omega), if_pos hix, if_pos hix, if_pos hix, if_pos hix, tn (by omega), nar01 (hb _ (by omega)), cpw_v, cpw_u, o_succ]
    exact this
set_option maxHeartbeats 2000000 in
theorem op_input {G : GG} {z t : Nat} {β : BS} {b : Nat → va_E} {N : Nat} {σ : MS} {n : Nat} {P : Nat → PT} {fr am : Nat} (h : IV G z t β b N σ n P fr am) (ht : t < 512) (x0 : Int32) : ∃ (β' : BS) (b' : Nat → va_E) (N' : Nat) (σ' : MS) (r : Int32), gX10_input G z N (ctM G z b σ) β x0 = some (β', ctM G z b' σ, N', r) ∧ gX11_input σ x0 = some (σ', r) ∧ Inv G z (t + 1) β' b' N' σ' := by
  unfold gX10_input gX11_input
  by_cases h0 : 0 ≤ x0.toInt ∧ x0.toInt < 12
  · obtain ⟨i, hi, rfl⟩ := ex_o (n := 12) h0.1 h0.2
    have hic : ix (Int32.ofNat i) 12 := (ixo (by omega)).mpr hi
    have hi4 : ix (Int32.ofNat (4 * i)) 48 := (ixo (by omega)).mpr (by omega)
    by_cases hf : 0 ≤ (pM (P n) (4 * i)).toInt
    · obtain ⟨m, nu, bl, xn, xb, yn, yb, nw0, nn0, w0, c0, a1, a2, a3, a4, a5, a6⟩ := look1 h hi
      have h0' := h
      obtain ⟨f1, f2, f3, f4, f5, f6⟩ := h
      have hr : ¬ b_ff β i = -1 := ff_pos f4.1 hi hf
      have hroom : gX10_hasRoom β = some 1 := room_eq f4.2.2.2 (by omega)
      have h' : IV G z t (rfS β nu bl xn xb yn yb (Int32.ofNat m)) b N σ n P m am := ⟨⟨f1.1, a6.1.2.1, a6.1.2.2⟩, a6.2⟩
      generalize rfS β nu bl xn xb yn yb (Int32.ofNat m) = β1 at a1 h'
      obtain ⟨g1, g2, g3, g4, g5, g6⟩ := id h'
      have hWn := g2 n (Nat.le_refl _)
      obtain ⟨n1, n2, n3, n4, n5, n6, n7⟩ := g4.1.1 i hi
      have hn01 : b_nar β1 i = 0 ∨ b_nar β1 i = 1 := by rw [n1]; exact (hWn.2 i hi).1
      have hM2 : MP (pcN σ n) (P n) := g3.1
      obtain ⟨nw, nn, w, c, r1, r2⟩ := reckAll hM2 hWn
      have hnn : ∀ k, k < 200 → nn k = 0 ∨ nn k = 1 := fun k hk => by rw [(r1 k (by omega)).2]; exact (NW_ok hWn 12 (Nat.le_refl _) k hk).2.1
      have hnow : ∀ p, p < 16 → b_num β1 i p = nw (16 * i + p) ∧ b_bl β1 i p = nn (16 * i + p) := fun p hp => by
        rw [(r1 (16 * i + p) (by omega)).1, (r1 (16 * i + p) (by omega)).2]; exact g4.2.1 i a3 p hp
      obtain ⟨m1, m2, m3, m4⟩ := cuQ_m (P n) i (cpw (16 * i) 16 nw (pT (P n))) (cpw (16 * i) 16 nn (pB (P n))) (pN (P n) i) (-1) (pM (P n) (4 * i + 1)) (pM (P n) (4 * i + 2)) (pM (P n) (4 * i + 3))
      refine ⟨_, _, _, _, 1, ?_, ?_, ch_mk h' hi (Q := cuQ (P n) i (cpw (16 * i) 16 nw (pT (P n))) (cpw (16 * i) 16 nn (pB (P n))) (pN (P n) i) (-1) (pM (P n) (4 * i + 1)) (pM (P n) (4 * i + 2)) (pM (P n) (4 * i + 3))) ?_ ?_ ?_ (na := b_nar β1) (ff := va_up (b_ff β1) i (-1)) (fa := b_fa β1) (fb := b_fb β1) (fc := b_fc β1) (nu := b_num β1) (bl := b_bl β1) ?_ ?_ ?_ n7 (T := cpw (16 * i) 16 nw (m_told σ)) (B := cpw (16 * i) 16 nn (m_blank σ)) (nr := m_narrow σ) (md := upd (m_made σ) (4 * i) (-1)) (nw := nw) (nn := nn) (w := w) (c := c) ?_ (F2 := cp 16 (b_num β1 i) (fun _ => 0)) (H2 := cp 16 (b_bl β1 i) (cp 16 (fun _ => 1) (fun _ => 0))) ?_⟩
      · rw [col1 h0]
        simp only [Option.bind_some]
        unfold gX3_hasFormula
        rw [if_neg (by decide), if_pos hic, tn (by omega), if_neg hr]
        simp only [Option.bind_some]
        rw [if_neg (by decide), hroom]
        simp only [Option.bind_some]
        rw [if_neg (by decide), a1]
        simp only [Option.bind_some]
        rw [if_pos hic, if_pos (CH_isR g5), i4 _ hn01 n7]
        simp only [Option.bind_some]
        rw [rem2 z N g4.2.2.2 g4.2.2.1 (by omega) g1.2.2]
        simp only [Option.bind_some]
        rw [rm_cg, gg_ff, gs_ff]
        exact congrArg (fun q => some (cgS β1 z N n (min i m) (b_nar β1) (va_up (b_ff β1) i (-1)) (b_fa β1) (b_fb β1) (b_fc β1) (b_num β1) (b_bl β1) (b_cn β1) (b_cb β1), q, N + 5, (1 : Int32))) (b5_cm g1.2.1 (b_lat β1) i (b_nar β1 i) (b_ff β1 i) (b_fa β1 i) (b_fb β1 i) (b_fc β1 i) (cp 16 (b_num β1 i) (fun _ => 0)) (cp 16 (b_bl β1 i) (cp 16 (fun _ => 1) (fun _ => 0))))
      · have := inpL (σ0 := σ) hi g3.2.2 (T := m_told σ) (B := m_blank σ) (nr := m_narrow σ) (md := m_made σ) (nw := nw) (nn := nn) (w := w) (c := c) hnn 16 20 0 rfl (by decide)
        rw [cpw_0, cpw_0, Nat.add_zero] at this
        rw [inC1 h0, o4]
        simp only [Option.bind_some]
        rw [if_neg (by decide), if_pos hi4, tn (by omega), g3.1.2.2 (4 * i) (by omega), if_pos (by rw [i32_0]; omega), picE (by omega) g3.2.2 g3.1 hWn]
        simp only [Option.bind_some]
        rw [r2, l16i]
        simp only [Option.bind_some]
        rw [k_pc, k_rc]
        exact this
      · refine cuQ_WF hWn (fun k hk => ?_) (fun k _ hk => cpw_o hk) (hWn.2 i hi).1 (by decide) (fun _ p hp => ?_) (fun q => absurd q (by decide))
        · by_cases e : 16 * i ≤ k ∧ k < 16 * i + 16
          · rw [cpw_i e, cpw_i e, (r1 k (by omega)).1, (r1 k (by omega)).2]; exact NW_ok hWn 12 (Nat.le_refl _) k hk
          · rw [cpw_o e, cpw_o e]; exact hWn.1 k hk
        · rw [cpw_i (by omega), (r1 _ (by omega)).1]; exact (NW_row hWn hi hp).2.2.2
      · intro j hj e
        obtain ⟨q1, q2, q3, q4⟩ := cuQ_o (P := P n) (T := cpw (16 * i) 16 nw (pT (P n))) (B := cpw (16 * i) 16 nn (pB (P n))) (nar := pN (P n) i) (ff := -1) (fa := pM (P n) (4 * i + 1)) (fb := pM (P n) (4 * i + 2)) (fc := pM (P n) (4 * i + 3)) e
        exact ⟨cuQ_N e, q1, q2, q3, q4⟩
      · intro k _ hk
        exact ⟨cpw_o hk, cpw_o hk⟩
      · intro j hj e
        rw [va_up_ne _ _ e]
        exact ⟨⟨rfl, rfl, rfl, rfl, rfl⟩, rfl, rfl⟩
      · rw [m1, m2, m3, m4, va_up_self, cuQ_n]
        exact ⟨n1, rfl, n3, n4, n5⟩
      · intro _ p hp
        rw [cuQ_T, cuQ_B, cpw_i (by omega), cpw_i (by omega)]
        exact hnow p hp
      · refine ch_MP (fun k hk => ?_) (fun j hj => ?_) (fun k hk => ?_)
        · rw [cuQ_T, cuQ_B]
          by_cases e : 16 * i ≤ k ∧ k < 16 * i + 16
          · rw [cpw_i e, cpw_i e, cpw_i e, cpw_i e]; exact ⟨rfl, rfl⟩
          · rw [cpw_o e, cpw_o e, cpw_o e, cpw_o e]; exact g3.1.1 k hk
        · by_cases e : j = i
          · subst e; rw [cuQ_n]; exact g3.1.2.1 j hj
          · rw [cuQ_N e]; exact g3.1.2.1 j hj
        · rw [cuQ_M]
          show (if k = 4 * i then (-1 : Int32) else m_made σ k) = _
          by_cases e0 : k = 4 * i
          · rw [if_pos e0, if_neg (by omega), if_neg (by omega), if_neg (by omega), if_pos e0]
          · rw [if_neg e0, if_neg e0, g3.1.2.2 k hk]
            by_cases e3 : k = 4 * i + 3
            · rw [if_pos e3, e3]
            rw [if_neg e3]
            by_cases e2 : k = 4 * i + 2
            · rw [if_pos e2, e2]
            rw [if_neg e2]
            by_cases e1 : k = 4 * i + 1
            · rw [if_pos e1, e1]
            rw [if_neg e1]
      · intro p hp
        rw [cp_in hp, cp_in hp]; exact ⟨rfl, rfl⟩
    · have h' := h
      obtain ⟨g1, g2, g3, g4, g5, g6⟩ := h
      rw [col1 h0, inC1 h0, o4]
      simp only [Option.bind_some]
      unfold gX3_hasFormula
      rw [if_neg (by decide), if_pos hic, tn (by omega), if_pos (ff_neg g4.1 (g2 n (Nat.le_refl _)) hi (by omega)), if_neg (by decide), if_pos hi4, tn (by omega), g3.1.2.2 (4 * i) (by omega), if_neg (by rw [i32_0]; omega)]
      simp only [Option.bind_some]
      rw [if_pos trivial]
      exact ⟨_, _, _, _, _, rfl, rfl, inv_refuse h'⟩
  · rw [col0 h0, inC0 h0]
    simp only [Option.bind_some]
    rw [if_pos trivial, if_pos trivial]
    exact ⟨_, _, _, _, _, rfl, rfl, inv_refuse h⟩
