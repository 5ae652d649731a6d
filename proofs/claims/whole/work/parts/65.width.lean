/-! width -/
theorem c_putSB {n p q : Nat} (F : Nat → UInt64) (H : Nat → Int32) (nar : Int32) (h : p < n) (hp : p < 2147483648) (h' : q < n) (hq : q < 2147483648) (hx : NN (F q)) (hb : H q = 0 ∨ H q = 1) : gX8_putBroughtS n F H (Int32.ofNat p) (Int32.ofNat q) nar = some (vf_upd F p (br nar (F q)), upd H p (H q)) := by
  unfold gX8_putBroughtS
  rw [if_pos ((ixo hq).mpr h'), tn hq, brC _ _ hx]
  simp only [Option.bind_some]
  rw [if_pos ((ixo hp).mpr h), if_pos ((ixo hq).mpr h'), if_pos ((ixo hp).mpr h), tn hp, nar01 hb]
theorem va_id {α : Type} (f : Nat → α) (i : Nat) : va_up f i (f i) = f := by
  funext j
  by_cases e : j = i
  · subst e; rw [va_up_self]
  · rw [va_up_ne _ _ e]
theorem va_va {α : Type} (f : Nat → α) (i : Nat) (a c : α) : va_up (va_up f i a) i c = va_up f i c := by
  funext j
  by_cases e : j = i
  · subst e; rw [va_up_self, va_up_self]
  · rw [va_up_ne _ _ e, va_up_ne _ _ e, va_up_ne _ _ e]
theorem upd_id (f : Nat → Int32) (i : Nat) : upd f i (f i) = f := by
  funext j
  by_cases e : j = i
  · subst e; rw [upd_s]
  · rw [upd_n e]
theorem wid38 (σ0 : MS) (x0 x1 : Int32) (k38 : MS → Int32 → Option (MS × Int32)) (σ : MS) (n : Nat) (T : Nat → UInt64) (B nr md : Nat → Int32) (nw : Nat → UInt64) (nn : Nat → Int32) (w : UInt64) (c : Int32) (v3 : Int32) : gX11_width_38 σ0 x0 x1 k38 (kS σ n T B nr md nw nn w c) v3 = if (((16 : Int32) * x0) + (16 : Int32)) ≤ v3 then ((gX11_changed (kS σ n T B nr md nw nn w c)).bind (fun r3 => some (r3.1, r3.2))) else (if ix v3 200 then ((gX11_brought (T v3.toNatClampNeg) x1).bind (fun r4 => if ix v3 200 then (k38 (kS σ n (vf_upd T v3.toNatClampNeg r4) B nr md nw nn w c) (v3 + (1 : Int32))) else none)) else none) := rfl
theorem widM {σ0 σ : MS} {n i : Nat} (hi : i < 12) (hc : m_changes σ = Int32.ofNat n) {x1 : Int32} {T : Nat → UInt64} {B nr md : Nat → Int32} {nw : Nat → UInt64} {nn : Nat → Int32} {w : UInt64} {c : Int32} (hb : ∀ k, k < 200 → NN (T k)) :
    ∀ (d g q : Nat), q + d = 16 → d < g → lq2 (gX11_width_38 σ0 (Int32.ofNat i) x1) g (kS σ n (cpw (16 * i) q (fun k => br x1 (T k)) T) B nr md nw nn w c) (Int32.ofNat (16 * i + q)) = some (chS σ n (cpw (16 * i) 16 (fun k => br x1 (T k)) T) B nr md nw nn w c, 1) := by
  intro d
  induction d with
  | zero =>
    intro g q hq hg
    obtain ⟨g, rfl⟩ : ∃ g', g = g' + 1 := ⟨g - 1, by omega⟩
    obtain rfl : q = 16 := by omega
    rw [lq2_s, wid38, l16i, l16, o_add, if_pos (by rw [o_le (by omega) (by omega)]; omega), k_chg hc]
    rfl
  | succ d ih =>
    intro g q hq hg
    obtain ⟨g, rfl⟩ : ∃ g', g = g' + 1 := ⟨g - 1, by omega⟩
    have := ih g (q + 1) (by omega) (by omega)
    have hix : ix (Int32.ofNat (16 * i + q)) 200 := (ixo (by omega)).mpr (by omega)
    rw [lq2_s]
    generalize lq2 (gX11_width_38 σ0 (Int32.ofNat i) x1) g = K at this ⊢
    rw [wid38, l16i, l16, o_add, if_neg (by rw [o_le (by omega) (by omega)]; omega), if_pos hix, tn (by omega), show cpw (16 * i) q (fun k => br x1 (T k)) T (16 * i + q) = T (16 * i + q) from cpw_o (by omega), brM _ _ (hb _ (by omega))]
    simp only [Option.bind_some]
    rw [if_pos hix, show vf_upd (cpw (16 * i) q (fun k => br x1 (T k)) T) (16 * i + q) (br x1 (T (16 * i + q))) = cpw (16 * i) (q + 1) (fun k => br x1 (T k)) T from cpw_v (f := fun k => br x1 (T k)), o_succ]
    exact this
theorem wid68 (G : GG) (z0 N0 : Nat) (b0 : Nat → va_E) (β0 : BS) (x0 x1 : Int32) (k68 : BS → (Nat → va_E) → Nat → Int32 → Option (BS × (Nat → va_E) × Nat × Int32)) (β : BS) (z N n f : Nat) (na ff fa fb fc : Nat → Int32) (nu : Nat → Nat → UInt64) (bl : Nat → Nat → Int32) (cn : Nat → UInt64) (cb : Nat → Int32) (b9 : Nat → va_E) (N9 : Nat) (v4 : Int32) : gX10_width_68 G z0 N0 b0 β0 x0 x1 k68 (cgS β z N n f na ff fa fb fc nu bl cn cb) b9 N9 v4 = if (16 : Int32) ≤ v4 then (some (cgS β z N n f na ff fa fb fc nu bl cn cb, b9, N9, (1 : Int32))) else ((gX8_putBroughtS 16 (nu x0.toNatClampNeg) (bl x0.toNatClampNeg) v4 v4 x1).bind (fun r8 => k68 (cgS β z N n f na ff fa fb fc (va_up nu x0.toNatClampNeg r8.1) (va_up bl x0.toNatClampNeg r8.2) cn cb) b9 N9 (v4 + (1 : Int32)))) := rfl
theorem widC {G : GG} {z0 N0 : Nat} {b0 : Nat → va_E} {β0 : BS} {i : Nat} (hi : i < 12) {x1 : Int32} {β : BS} {z N n f : Nat} {na ff fa fb fc : Nat → Int32} {nu : Nat → Nat → UInt64} {bl : Nat → Nat → Int32} {cn : Nat → UInt64} {cb : Nat → Int32} {b9 : Nat → va_E} {N9 : Nat} (hv : ∀ p, p < 16 → NN (nu i p) ∧ (bl i p = 0 ∨ bl i p = 1)) :
    ∀ (d g q : Nat), q + d = 16 → d < g → lq4 (gX10_width_68 G z0 N0 b0 β0 (Int32.ofNat i) x1) g (cgS β z N n f na ff fa fb fc (va_up nu i (cp q (fun p => br x1 (nu i p)) (nu i))) bl cn cb) b9 N9 (Int32.ofNat q) = some (cgS β z N n f na ff fa fb fc (va_up nu i (cp 16 (fun p => br x1 (nu i p)) (nu i))) bl cn cb, b9, N9, 1) := by
  intro d
  induction d with
  | zero =>
    intro g q hq hg
    obtain ⟨g, rfl⟩ : ∃ g', g = g' + 1 := ⟨g - 1, by omega⟩
    obtain rfl : q = 16 := by omega
    rw [lq4_s, wid68, if_pos (by decide)]
  | succ d ih =>
    intro g q hq hg
    obtain ⟨g, rfl⟩ : ∃ g', g = g' + 1 := ⟨g - 1, by omega⟩
    have hq16 : q < 16 := by omega
    have := ih g (q + 1) (by omega) (by omega)
    have eq : cp q (fun p => br x1 (nu i p)) (nu i) q = nu i q := if_neg (Nat.lt_irrefl q)
    rw [lq4_s]
    generalize lq4 (gX10_width_68 G z0 N0 b0 β0 (Int32.ofNat i) x1) g = K at this ⊢
    rw [wid68, if_neg (by rw [l16, o_le (by omega) (by omega)]; omega), tn (by omega), va_up_self, c_putSB _ _ _ hq16 (p31 hq16) hq16 (p31 hq16) (by rw [eq]; exact (hv q hq16).1) (hv q hq16).2]
    simp only [Option.bind_some]
    rw [eq, va_va, upd_id, va_id, show vf_upd (cp q (fun p => br x1 (nu i p)) (nu i)) q (br x1 (nu i q)) = cp (q + 1) (fun p => br x1 (nu i p)) (nu i) from cp_v (f := fun p => br x1 (nu i p)), o_succ]
    exact this
theorem wid_inv {G : GG} {z t : Nat} {β : BS} {b : Nat → va_E} {N : Nat} {σ : MS} {n : Nat} {P : Nat → PT} {fr am : Nat} (h : IV G z t β b N σ n P fr am) {i : Nat} (hi : i < 12) {x1 : Int32} (hx : x1 = 0 ∨ x1 = 1) {nu : Nat → Nat → UInt64} (ho : ∀ j, j < 12 → j ≠ i → nu j = b_num β j) (h1 : (pM (P n) (4 * i)).toInt < 0 → ∀ p, p < 16 → nu i p = br x1 (pT (P n) (16 * i + p))) (h2 : ∀ p, p < 16 → NN (nu i p)) :
    Inv G z (t + 1) (cgS β z N n (min i fr) (va_up (b_nar β) i x1) (b_ff β) (b_fa β) (b_fb β) (b_fc β) nu (b_bl β) (b_cn β) (b_cb β)) (b5 G z N b (b_lat β) i (b_nar β i) (b_ff β i) (b_fa β i) (b_fb β i) (b_fc β i) (cp 16 (b_num β i) (fun _ => 0)) (cp 16 (b_bl β i) (cp 16 (fun _ => 1) (fun _ => 0)))) (N + 5) (chS σ n (cpw (16 * i) 16 (fun k => br x1 (m_told σ k)) (m_told σ)) (m_blank σ) (upd (m_narrow σ) i x1) (m_made σ) (m_now σ) (m_none σ) (m_worth σ) (m_isNone σ)) := by
  have h' := h
  obtain ⟨g1, g2, g3, g4, g5, g6⟩ := h
  have hWn := g2 n (Nat.le_refl _)
  obtain ⟨n1, n2, n3, n4, n5, n6, n7⟩ := g4.1.1 i hi
  obtain ⟨w1, w2, w3, w4⟩ := hWn.2 i hi
  obtain ⟨m1, m2, m3, m4⟩ := cuQ_m (P n) i (cpw (16 * i) 16 (fun k => br x1 (pT (P n) k)) (pT (P n))) (pB (P n)) x1 (pM (P n) (4 * i)) (pM (P n) (4 * i + 1)) (pM (P n) (4 * i + 2)) (pM (P n) (4 * i + 3))
  refine ch_mk h' hi (Q := cuQ (P n) i (cpw (16 * i) 16 (fun k => br x1 (pT (P n) k)) (pT (P n))) (pB (P n)) x1 (pM (P n) (4 * i)) (pM (P n) (4 * i + 1)) (pM (P n) (4 * i + 2)) (pM (P n) (4 * i + 3))) ?_ ?_ ?_ ?_ ?_ ?_ ?_ ?_ ?_
  · refine cuQ_WF hWn (fun k hk => ?_) (fun k _ hk => cpw_o hk) hx w2 (fun hf p hp => ?_) w4
    · by_cases e : 16 * i ≤ k ∧ k < 16 * i + 16
      · rw [cpw_i e]
        obtain ⟨a1, a2, a3⟩ := hWn.1 k hk
        refine ⟨br_nn x1 a1, a2, fun c => ?_⟩
        show br x1 (pT (P n) k) = _
        rw [show pT (P n) k = FP.dconst0 from a3 c]; exact br0 x1
      · rw [cpw_o e]; exact hWn.1 k hk
    · rw [cpw_i (by omega)]
      exact Br_nbd (br_Br x1 (hWn.1 _ (by omega)).1)
  · intro j hj e
    obtain ⟨q1, q2, q3, q4⟩ := cuQ_o (P := P n) (T := cpw (16 * i) 16 (fun k => br x1 (pT (P n) k)) (pT (P n))) (B := pB (P n)) (nar := x1) (ff := pM (P n) (4 * i)) (fa := pM (P n) (4 * i + 1)) (fb := pM (P n) (4 * i + 2)) (fc := pM (P n) (4 * i + 3)) e
    exact ⟨cuQ_N e, q1, q2, q3, q4⟩
  · intro k _ hk
    exact ⟨by rw [cuQ_T]; exact cpw_o hk, rfl⟩
  · intro j hj e
    rw [va_up_ne _ _ e]
    exact ⟨⟨rfl, rfl, rfl, rfl, rfl⟩, ho j hj e, rfl⟩
  · rw [m1, m2, m3, m4, va_up_self, cuQ_n]
    exact ⟨rfl, n2, n3, n4, n5⟩
  · rw [m1]
    intro hneg p hp
    rw [cuQ_T, cuQ_B, cpw_i (by omega)]
    exact ⟨h1 hneg p hp, (n6 hneg p hp).2⟩
  · exact fun p hp => ⟨h2 p hp, (n7 p hp).2⟩
  · refine ch_MP (fun k hk => ?_) (fun j hj => ?_) (fun k hk => ?_)
    · rw [cuQ_T, cuQ_B]
      obtain ⟨e1, e2⟩ := g3.1.1 k hk
      refine ⟨?_, e2⟩
      by_cases e : 16 * i ≤ k ∧ k < 16 * i + 16
      · rw [cpw_i e, cpw_i e, e1]
      · rw [cpw_o e, cpw_o e, e1]
    · by_cases e : j = i
      · subst e; rw [cuQ_n, upd_s]
      · rw [cuQ_N e, upd_n e]; exact g3.1.2.1 j hj
    · rw [cuQ_M, g3.1.2.2 k hk]
      by_cases e3 : k = 4 * i + 3
      · rw [if_pos e3, e3]
      rw [if_neg e3]
      by_cases e2 : k = 4 * i + 2
      · rw [if_pos e2, e2]
      rw [if_neg e2]
      by_cases e1 : k = 4 * i + 1
      · rw [if_pos e1, e1]
      rw [if_neg e1]
      by_cases e0 : k = 4 * i
      · rw [if_pos e0, e0]
      rw [if_neg e0]
  · intro p hp
    rw [cp_in hp, cp_in hp]; exact ⟨rfl, rfl⟩
set_option maxHeartbeats 2000000 in
theorem op_width {G : GG} {z t : Nat} {β : BS} {b : Nat → va_E} {N : Nat} {σ : MS} {n : Nat} {P : Nat → PT} {fr am : Nat} (h : IV G z t β b N σ n P fr am) (ht : t < 512) (x0 x1 : Int32) (hx : x1 = 0 ∨ x1 = 1) : ∃ (β' : BS) (b' : Nat → va_E) (N' : Nat) (σ' : MS) (r : Int32), gX10_width G z N (ctM G z b σ) β x0 x1 = some (β', ctM G z b' σ, N', r) ∧ gX11_width σ x0 x1 = some (σ', r) ∧ Inv G z (t + 1) β' b' N' σ' := by
  unfold gX10_width gX11_width
  by_cases h0 : 0 ≤ x0.toInt ∧ x0.toInt < 12
  · obtain ⟨i, hi, rfl⟩ := ex_o (n := 12) h0.1 h0.2
    have hic : ix (Int32.ofNat i) 12 := (ixo (by omega)).mpr hi
    have h' := h
    obtain ⟨g1, g2, g3, g4, g5, g6⟩ := h
    have hWn := g2 n (Nat.le_refl _)
    obtain ⟨n1, n2, n3, n4, n5, n6, n7⟩ := g4.1.1 i hi
    have em : m_narrow σ i = b_nar β i := (g3.1.2.1 i hi).trans n1.symm
    have hn01 : b_nar β i = 0 ∨ b_nar β i = 1 := by rw [n1]; exact (hWn.2 i hi).1
    rw [col1 h0, inC1 h0]
    simp only [Option.bind_some]
    rw [if_neg (show ¬ (1 : Int32) = 0 by decide), if_pos hic, tn (by omega), if_neg (show ¬ (1 : Int32) = 0 by decide), if_pos hic, em]
    by_cases hs : b_nar β i = x1
    · rw [if_pos hs, if_pos hs]
      exact ⟨_, _, _, _, _, rfl, if_pos hic, inv_refuse h'⟩
    rw [if_neg hs, if_neg hs, room_eq g4.2.2.2 (by omega), picE (by omega) g3.2.2 g3.1 hWn]
    simp only [Option.bind_some]
    have hM : ∃ σ', (lq2 (gX11_width_38 σ (Int32.ofNat i) x1) 20 (m_narrow_ (pcN σ n) (upd (m_narrow (pcN σ n)) i (vp_nar .boolean x1))) ((16 : Int32) * Int32.ofNat i)) = some (σ', 1) ∧ σ' = chS σ n (cpw (16 * i) 16 (fun k => br x1 (m_told σ k)) (m_told σ)) (m_blank σ) (upd (m_narrow σ) i x1) (m_made σ) (m_now σ) (m_none σ) (m_worth σ) (m_isNone σ) := by
      refine ⟨_, ?_, rfl⟩
      have := widM (σ0 := σ) hi g3.2.2 (x1 := x1) (T := m_told σ) (B := m_blank σ) (nr := upd (m_narrow σ) i x1) (md := m_made σ) (nw := m_now σ) (nn := m_none σ) (w := m_worth σ) (c := m_isNone σ) (fun k hk => by rw [(g3.1.1 k hk).1]; exact (hWn.1 k hk).1) 16 20 0 rfl (by decide)
      rw [cpw_0, Nat.add_zero] at this
      rw [nar01 hx, l16i, k_pc, kg_narrow, ks_narrow]
      exact this
    obtain ⟨σ', s1, s2⟩ := hM
    rw [if_pos hic, s1, if_neg (show ¬ (1 : Int32) = 0 by decide), if_pos (CH_isR g5), i4 _ hn01 n7]
    simp only [Option.bind_some]
    rw [rem2 z N g4.2.2.2 g4.2.2.1 (by omega) g1.2.2]
    simp only [Option.bind_some]
    unfold gX3_hasFormula
    rw [if_pos (nar01 hx), rm_cg, gg_nar, gs_nar, gg_ff]
    have e5 := b5_cm (G := G) (z := z) (b := b) (σ := σ) g1.2.1 (b_lat β) i (b_nar β i) (b_ff β i) (b_fa β i) (b_fb β i) (b_fc β i) (cp 16 (b_num β i) (fun _ => 0)) (cp 16 (b_bl β i) (cp 16 (fun _ => 1) (fun _ => 0)))
    by_cases hf : 0 ≤ (pM (P n) (4 * i)).toInt
    · rw [if_neg (ff_pos g4.1 hi hf)]
      simp only [Option.bind_some]
      rw [if_neg (by decide)]
      refine ⟨cgS β z N n (min i fr) (va_up (b_nar β) i x1) (b_ff β) (b_fa β) (b_fb β) (b_fc β) (b_num β) (b_bl β) (b_cn β) (b_cb β), b5 G z N b (b_lat β) i (b_nar β i) (b_ff β i) (b_fa β i) (b_fb β i) (b_fc β i) (cp 16 (b_num β i) (fun _ => 0)) (cp 16 (b_bl β i) (cp 16 (fun _ => 1) (fun _ => 0))), N + 5, σ', 1, ?_, if_pos hic, ?_⟩
      · rw [← e5]; rfl
      · rw [s2]
        exact wid_inv h' hi hx (fun _ _ _ => rfl) (fun c => absurd c (by omega)) (fun p hp => (n7 p hp).1)
    · have hf' : (pM (P n) (4 * i)).toInt < 0 := by omega
      rw [if_pos (ff_neg g4.1 hWn hi hf')]
      simp only [Option.bind_some]
      rw [if_pos trivial]
      have hW := widC (G := G) (z0 := z) (N0 := N) (b0 := ctM G z b σ) (β0 := β) hi (x1 := x1) (β := β) (z := z) (N := N) (n := n) (f := min i fr) (na := va_up (b_nar β) i x1) (ff := b_ff β) (fa := b_fa β) (fb := b_fb β) (fc := b_fc β) (nu := b_num β) (bl := b_bl β) (cn := b_cn β) (cb := b_cb β) (b9 := ctM G z (b5 G z N b (b_lat β) i (b_nar β i) (b_ff β i) (b_fa β i) (b_fb β i) (b_fc β i) (cp 16 (b_num β i) (fun _ => 0)) (cp 16 (b_bl β i) (cp 16 (fun _ => 1) (fun _ => 0)))) σ) (N9 := N + 5) n7 16 20 0 rfl (by decide)
      rw [cp_0, va_id, ← e5] at hW
      refine ⟨cgS β z N n (min i fr) (va_up (b_nar β) i x1) (b_ff β) (b_fa β) (b_fb β) (b_fc β) (va_up (b_num β) i (cp 16 (fun p => br x1 (b_num β i p)) (b_num β i))) (b_bl β) (b_cn β) (b_cb β), b5 G z N b (b_lat β) i (b_nar β i) (b_ff β i) (b_fa β i) (b_fb β i) (b_fc β i) (cp 16 (b_num β i) (fun _ => 0)) (cp 16 (b_bl β i) (cp 16 (fun _ => 1) (fun _ => 0))), N + 5, σ', 1, ?_, if_pos hic, ?_⟩
      · rw [← e5]; exact hW
      · rw [s2]
        refine wid_inv h' hi hx (fun j _ e => va_up_ne _ _ e) (fun _ p hp => ?_) (fun p hp => ?_)
        · rw [va_up_self, cp_in hp, (n6 hf' p hp).1]
        · rw [va_up_self, cp_in hp]; exact br_nn x1 (n7 p hp).1
  · rw [col0 h0, inC0 h0]
    simp only [Option.bind_some]
    rw [if_pos trivial, if_pos trivial]
    exact ⟨_, _, _, _, _, rfl, rfl, inv_refuse h⟩
