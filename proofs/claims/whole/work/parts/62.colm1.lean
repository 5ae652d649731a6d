/-! changes of a column -/
def cp {α : Type} (k : Nat) (f g : Nat → α) : Nat → α := fun q => if q < k then f q else g q
theorem cp_0 {α : Type} (f g : Nat → α) : cp 0 f g = g := by
  funext q
  exact if_neg (by omega)
theorem cp_v {k : Nat} {f g : Nat → UInt64} : vf_upd (cp k f g) k (f k) = cp (k + 1) f g := by
  funext q
  unfold vf_upd cp
  by_cases e : q = k
  · rw [if_pos e, if_pos (by omega), e]
  · rw [if_neg e]
    by_cases c : q < k
    · rw [if_pos c, if_pos (by omega)]
    · rw [if_neg c, if_neg (by omega)]
theorem cp_u {k : Nat} {f g : Nat → Int32} : upd (cp k f g) k (f k) = cp (k + 1) f g := by
  funext q
  unfold upd cp
  by_cases e : q = k
  · rw [if_pos e, if_pos (by omega), e]
  · rw [if_neg e]
    by_cases c : q < k
    · rw [if_pos c, if_pos (by omega)]
    · rw [if_neg c, if_neg (by omega)]
theorem cp_in {α : Type} {k q : Nat} {f g : Nat → α} (h : q < k) : cp k f g q = f q := if_pos h
theorem becL {nar ff fa fb fc nar2 ff2 fa2 fb2 fc2 : Int32} {F F2 : Nat → UInt64} {H H2 : Nat → Int32} (hv : ∀ p, p < 16 → NN (F2 p) ∧ (H2 p = 0 ∨ H2 p = 1)) :
    ∀ (d g p : Nat), p + d = 16 → d < g → lq8 (gX3_become_42 nar ff fa fb fc F H nar2 ff2 fa2 fb2 fc2 F2 H2) g nar2 ff2 fa2 fb2 fc2 (cp p F2 F) (cp p H2 H) (Int32.ofNat p) = some (nar2, ff2, fa2, fb2, fc2, cp 16 F2 F, cp 16 H2 H) := by
  intro d
  induction d with
  | zero =>
    intro g p hp hg
    obtain ⟨g, rfl⟩ : ∃ g', g = g' + 1 := ⟨g - 1, by omega⟩
    obtain rfl : p = 16 := by omega
    show gX3_become_42 _ _ _ _ _ _ _ _ _ _ _ _ _ _ _ _ _ _ _ _ _ _ _ = _
    unfold gX3_become_42
    rw [if_pos (by decide)]
  | succ d ih =>
    intro g p hp hg
    obtain ⟨g, rfl⟩ : ∃ g', g = g' + 1 := ⟨g - 1, by omega⟩
    have hp16 : p < 16 := by omega
    have := ih g (p + 1) (by omega) (by omega)
    show gX3_become_42 _ _ _ _ _ _ _ _ _ _ _ _ _ _ (lq8 (gX3_become_42 nar ff fa fb fc F H nar2 ff2 fa2 fb2 fc2 F2 H2) g) _ _ _ _ _ _ _ _ = _
    generalize lq8 (gX3_become_42 nar ff fa fb fc F H nar2 ff2 fa2 fb2 fc2 F2 H2) g = K at this ⊢
    unfold gX3_become_42
    rw [if_neg (by rw [l16, o_le (by omega) (by omega)]; omega), c_putB _ _ _ _ _ hp16 (p31 hp16) hp16 (p31 hp16) (hv p hp16).1 (hv p hp16).2]
    simp only [Option.bind_some]
    rw [br00, cp_v, cp_u, o_succ]
    exact this
theorem becE {nar ff fa fb fc nar2 ff2 fa2 fb2 fc2 : Int32} {F F2 : Nat → UInt64} {H H2 : Nat → Int32} (hn : nar2 = 0 ∨ nar2 = 1) (hv : ∀ p, p < 16 → NN (F2 p) ∧ (H2 p = 0 ∨ H2 p = 1)) : gX3_become nar ff fa fb fc F H nar2 ff2 fa2 fb2 fc2 F2 H2 = some (nar2, ff2, fa2, fb2, fc2, cp 16 F2 F, cp 16 H2 H) := by
  have := becL (nar := nar) (ff := ff) (fa := fa) (fb := fb) (fc := fc) (nar2 := nar2) (ff2 := ff2) (fa2 := fa2) (fb2 := fb2) (fc2 := fc2) (F := F) (H := H) hv 16 20 0 rfl (by decide)
  rw [cp_0, cp_0] at this
  unfold gX3_become
  rw [if_pos (nar01 hn)]
  exact this
theorem i16L : ∀ (d g p : Nat), p + d = 16 → d < g → lq2 gX8_init16_20 g (cp p (fun _ => 1) (fun _ => 0)) (Int32.ofNat p) = some (cp 16 (fun _ => 1) (fun _ => 0)) := by
  intro d
  induction d with
  | zero =>
    intro g p hp hg
    obtain ⟨g, rfl⟩ : ∃ g', g = g' + 1 := ⟨g - 1, by omega⟩
    obtain rfl : p = 16 := by omega
    show gX8_init16_20 _ _ _ = _
    unfold gX8_init16_20
    rw [if_pos (by decide)]
  | succ d ih =>
    intro g p hp hg
    obtain ⟨g, rfl⟩ : ∃ g', g = g' + 1 := ⟨g - 1, by omega⟩
    have := ih g (p + 1) (by omega) (by omega)
    show gX8_init16_20 (lq2 gX8_init16_20 g) _ _ = _
    generalize lq2 gX8_init16_20 g = K at this ⊢
    unfold gX8_init16_20
    rw [if_neg (by rw [l16, o_le (by omega) (by omega)]; omega), if_pos ((ixo (by omega)).mpr (by omega)), tn (by omega), nar01 (.inr rfl), show upd (cp p (fun _ => 1) (fun _ => 0)) p 1 = cp (p + 1) (fun _ => 1) (fun _ => 0) from cp_u, o_succ]
    exact this
theorem init16 : gX8_init16 = some (cp 16 (fun _ => 1) (fun _ => 0)) := by
  have := i16L 16 20 0 rfl (by decide)
  rw [cp_0] at this
  exact this
theorem i8L : ∀ (d g p : Nat), p + d = 8 → d < g → lq2 gX8_init8_20 g (cp p (fun _ => 1) (fun _ => 0)) (Int32.ofNat p) = some (cp 8 (fun _ => 1) (fun _ => 0)) := by
  intro d
  induction d with
  | zero =>
    intro g p hp hg
    obtain ⟨g, rfl⟩ : ∃ g', g = g' + 1 := ⟨g - 1, by omega⟩
    obtain rfl : p = 8 := by omega
    show gX8_init8_20 _ _ _ = _
    unfold gX8_init8_20
    rw [if_pos (by decide)]
  | succ d ih =>
    intro g p hp hg
    obtain ⟨g, rfl⟩ : ∃ g', g = g' + 1 := ⟨g - 1, by omega⟩
    have := ih g (p + 1) (by omega) (by omega)
    show gX8_init8_20 (lq2 gX8_init8_20 g) _ _ = _
    generalize lq2 gX8_init8_20 g = K at this ⊢
    unfold gX8_init8_20
    rw [if_neg (by rw [show (8 : Int32) = Int32.ofNat 8 from rfl, o_le (by omega) (by omega)]; omega), if_pos ((ixo (by omega)).mpr (by omega)), tn (by omega), nar01 (.inr rfl), show upd (cp p (fun _ => 1) (fun _ => 0)) p 1 = cp (p + 1) (fun _ => 1) (fun _ => 0) from cp_u, o_succ]
    exact this
theorem init8 : gX8_init8 = some (cp 8 (fun _ => 1) (fun _ => 0)) := by
  have := i8L 8 20 0 rfl (by decide)
  rw [cp_0] at this
  exact this
theorem init3 : gX3_init = some (cp 16 (fun _ => 1) (fun _ => 0)) := by
  unfold gX3_init
  rw [init16]
  rfl
theorem init9 : gX9_init = some (cp 16 (fun _ => 1) (fun _ => 0), cp 16 (fun _ => 1) (fun _ => 0)) := by
  unfold gX9_init
  rw [init16]
  rfl
theorem i4 {nar2 ff2 fa2 fb2 fc2 : Int32} {F2 : Nat → UInt64} {H2 : Nat → Int32} (x : Int32) (hn : nar2 = 0 ∨ nar2 = 1) (hv : ∀ p, p < 16 → NN (F2 p) ∧ (H2 p = 0 ∨ H2 p = 1)) : gX4_init nar2 ff2 fa2 fb2 fc2 F2 H2 x = some (nar2, ff2, fa2, fb2, fc2, cp 16 F2 (fun _ => 0), cp 16 H2 (cp 16 (fun _ => 1) (fun _ => 0))) := by
  unfold gX4_init
  rw [init3]
  simp only [Option.bind_some]
  rw [becE hn hv]
  rfl
theorem tb4 {nar ff fa fb fc nar2 ff2 fa2 fb2 fc2 : Int32} {F F2 : Nat → UInt64} {H H2 : Nat → Int32} (hn : nar2 = 0 ∨ nar2 = 1) (hv : ∀ p, p < 16 → NN (F2 p) ∧ (H2 p = 0 ∨ H2 p = 1)) : gX4_takeBack nar ff fa fb fc F H nar2 ff2 fa2 fb2 fc2 F2 H2 = some (nar2, ff2, fa2, fb2, fc2, cp 16 F2 F, cp 16 H2 H) := by
  unfold gX4_takeBack
  rw [becE hn hv]
  rfl
/-- five new cells behind a changed column -/
def b5 (G : GG) (z N : Nat) (b : Nat → va_E) (w : Value) (i : Nat) (v1 v2 v3 v4 v5 : Int32) (F : Nat → UInt64) (H : Nat → Int32) : Nat → va_E := va_up (va_up (va_up (va_up (va_up b N (.inr (2, [w, .int (Int32.ofNat i), .ref (z + (13 + 4 * i)), .ref (z + (N + 1))]))) (N + 1) (.inr (1, [.ref (z + (N + 2)), .int v1, .int v2, .int v3, .int v4, .int v5]))) (N + 2) (.inr (4, [.ref (z + (N + 3)), .ref (z + (N + 4))]))) (N + 3) (cD G 16 F)) (N + 4) (cZ G 16 H)
theorem b5_cm {G : GG} {z N : Nat} {b : Nat → va_E} {σ : MS} (hN : 86 ≤ N) (w : Value) (i : Nat) (v1 v2 v3 v4 v5 : Int32) (F : Nat → UInt64) (H : Nat → Int32) : b5 G z N (ctM G z b σ) w i v1 v2 v3 v4 v5 F H = ctM G z (b5 G z N b w i v1 v2 v3 v4 v5 F H) σ := by
  unfold b5
  rw [cm_up hN, cm_up (show 86 ≤ N + 1 by omega), cm_up (show 86 ≤ N + 2 by omega), cm_up (show 86 ≤ N + 3 by omega), cm_up (show 86 ≤ N + 4 by omega)]
theorem b5_lt {G : GG} {z N : Nat} {b : Nat → va_E} {w : Value} {i : Nat} {v1 v2 v3 v4 v5 : Int32} {F : Nat → UInt64} {H : Nat → Int32} {k : Nat} (hk : k < N) : b5 G z N b w i v1 v2 v3 v4 v5 F H k = b k := by
  unfold b5
  rw [va_up_ne _ _ (by omega), va_up_ne _ _ (by omega), va_up_ne _ _ (by omega), va_up_ne _ _ (by omega), va_up_ne _ _ (by omega)]
theorem b5_0 {G : GG} {z N : Nat} {b : Nat → va_E} {w : Value} {i : Nat} {v1 v2 v3 v4 v5 : Int32} {F : Nat → UInt64} {H : Nat → Int32} : b5 G z N b w i v1 v2 v3 v4 v5 F H N = .inr (2, [w, .int (Int32.ofNat i), .ref (z + (13 + 4 * i)), .ref (z + (N + 1))]) := by
  unfold b5
  rw [va_up_ne _ _ (by omega), va_up_ne _ _ (by omega), va_up_ne _ _ (by omega), va_up_ne _ _ (by omega), va_up_self]
theorem b5_1 {G : GG} {z N : Nat} {b : Nat → va_E} {w : Value} {i : Nat} {v1 v2 v3 v4 v5 : Int32} {F : Nat → UInt64} {H : Nat → Int32} : b5 G z N b w i v1 v2 v3 v4 v5 F H (N + 1) = coO z (N + 1) v1 v2 v3 v4 v5 := by
  unfold b5
  rw [va_up_ne _ _ (by omega), va_up_ne _ _ (by omega), va_up_ne _ _ (by omega), va_up_self]
theorem b5_2 {G : GG} {z N : Nat} {b : Nat → va_E} {w : Value} {i : Nat} {v1 v2 v3 v4 v5 : Int32} {F : Nat → UInt64} {H : Nat → Int32} : b5 G z N b w i v1 v2 v3 v4 v5 F H (N + 2) = rdO z (N + 2) := by
  unfold b5
  rw [va_up_ne _ _ (by omega), va_up_ne _ _ (by omega), va_up_self]
theorem b5_3 {G : GG} {z N : Nat} {b : Nat → va_E} {w : Value} {i : Nat} {v1 v2 v3 v4 v5 : Int32} {F : Nat → UInt64} {H : Nat → Int32} : b5 G z N b w i v1 v2 v3 v4 v5 F H (N + 3) = cD G 16 F := by
  unfold b5
  rw [va_up_ne _ _ (by omega), va_up_self]
theorem b5_4 {G : GG} {z N : Nat} {b : Nat → va_E} {w : Value} {i : Nat} {v1 v2 v3 v4 v5 : Int32} {F : Nat → UInt64} {H : Nat → Int32} : b5 G z N b w i v1 v2 v3 v4 v5 F H (N + 4) = cZ G 16 H := by
  unfold b5
  rw [va_up_self]
/-- P with the column i anew -/
def cuQ (P : PT) (i : Nat) (T : Nat → UInt64) (B : Nat → Int32) (nar ff fa fb fc : Int32) : PT := (T, B, fun j => if j = i then nar else pN P j, fun k => if k = 4 * i + 3 then fc else if k = 4 * i + 2 then fb else if k = 4 * i + 1 then fa else if k = 4 * i then ff else pM P k)
theorem cuQ_T (P : PT) (i : Nat) (T : Nat → UInt64) (B : Nat → Int32) (nar ff fa fb fc : Int32) : pT (cuQ P i T B nar ff fa fb fc) = T := rfl
theorem cuQ_B (P : PT) (i : Nat) (T : Nat → UInt64) (B : Nat → Int32) (nar ff fa fb fc : Int32) : pB (cuQ P i T B nar ff fa fb fc) = B := rfl
theorem cuQ_n (P : PT) (i : Nat) (T : Nat → UInt64) (B : Nat → Int32) (nar ff fa fb fc : Int32) : pN (cuQ P i T B nar ff fa fb fc) i = nar := if_pos rfl
theorem cuQ_N {P : PT} {i : Nat} {T : Nat → UInt64} {B : Nat → Int32} {nar ff fa fb fc : Int32} {j : Nat} (h : j ≠ i) : pN (cuQ P i T B nar ff fa fb fc) j = pN P j := if_neg h
theorem cuQ_M (P : PT) (i : Nat) (T : Nat → UInt64) (B : Nat → Int32) (nar ff fa fb fc : Int32) (k : Nat) : pM (cuQ P i T B nar ff fa fb fc) k = if k = 4 * i + 3 then fc else if k = 4 * i + 2 then fb else if k = 4 * i + 1 then fa else if k = 4 * i then ff else pM P k := rfl
theorem cuQ_m (P : PT) (i : Nat) (T : Nat → UInt64) (B : Nat → Int32) (nar ff fa fb fc : Int32) : pM (cuQ P i T B nar ff fa fb fc) (4 * i) = ff ∧ pM (cuQ P i T B nar ff fa fb fc) (4 * i + 1) = fa ∧ pM (cuQ P i T B nar ff fa fb fc) (4 * i + 2) = fb ∧ pM (cuQ P i T B nar ff fa fb fc) (4 * i + 3) = fc := by
  refine ⟨?_, ?_, ?_, ?_⟩
  · rw [cuQ_M, if_neg (by omega), if_neg (by omega), if_neg (by omega), if_pos rfl]
  · rw [cuQ_M, if_neg (by omega), if_neg (by omega), if_pos rfl]
  · rw [cuQ_M, if_neg (by omega), if_pos rfl]
  · rw [cuQ_M, if_pos rfl]
theorem cuQ_o {P : PT} {i : Nat} {T : Nat → UInt64} {B : Nat → Int32} {nar ff fa fb fc : Int32} {j : Nat} (h : j ≠ i) : pM (cuQ P i T B nar ff fa fb fc) (4 * j) = pM P (4 * j) ∧ pM (cuQ P i T B nar ff fa fb fc) (4 * j + 1) = pM P (4 * j + 1) ∧ pM (cuQ P i T B nar ff fa fb fc) (4 * j + 2) = pM P (4 * j + 2) ∧ pM (cuQ P i T B nar ff fa fb fc) (4 * j + 3) = pM P (4 * j + 3) := by
  refine ⟨?_, ?_, ?_, ?_⟩ <;> rw [cuQ_M, if_neg (by omega), if_neg (by omega), if_neg (by omega), if_neg (by omega)]
theorem cuQ_WF {P : PT} (hW : WF P) {i : Nat} {T : Nat → UInt64} {B : Nat → Int32} {nar ff fa fb fc : Int32} (hT : ∀ k, k < 200 → NOK (T k, B k)) (hO : ∀ k, k < 200 → ¬ (16 * i ≤ k ∧ k < 16 * i + 16) → T k = pT P k) (hn : nar = 0 ∨ nar = 1) (hff : -1 ≤ ff.toInt ∧ ff.toInt ≤ 26) (hin : ff.toInt < 0 → ∀ p, p < 16 → nbd nar (T (16 * i + p)))
    (hFA : 0 ≤ ff.toInt → (0 ≤ fa.toInt ∧ fa.toInt < i) ∧ (0 ≤ fb.toInt ∧ (fb.toInt < i ∨ (16 ≤ fb.toInt ∧ fb.toInt < 24))) ∧ (0 ≤ fc.toInt ∧ fc.toInt ≤ 11)) : WF (cuQ P i T B nar ff fa fb fc) := by
  refine ⟨hT, fun j hj => ?_⟩
  by_cases e : j = i
  · subst e
    obtain ⟨m1, m2, m3, m4⟩ := cuQ_m P j T B nar ff fa fb fc
    unfold FA
    rw [m1, m2, m3, m4, cuQ_n]
    exact ⟨hn, hff, hin, hFA⟩
  · obtain ⟨w1, w2, w3, w4⟩ := hW.2 j hj
    obtain ⟨m1, m2, m3, m4⟩ := cuQ_o (P := P) (T := T) (B := B) (nar := nar) (ff := ff) (fa := fa) (fb := fb) (fc := fc) e
    unfold FA at w4 ⊢
    rw [m1, m2, m3, m4, cuQ_N e]
    refine ⟨w1, w2, fun hf p hp => ?_, w4⟩
    rw [cuQ_T, hO _ (by omega) (by omega)]
    exact w3 hf p hp
theorem ch_mk {G : GG} {z t : Nat} {β : BS} {b : Nat → va_E} {N : Nat} {σ : MS} {n : Nat} {P : Nat → PT} {fr am : Nat} (h : IV G z t β b N σ n P fr am) {i : Nat} (hi : i < 12) {Q : PT} (hW : WF Q)
    (hQ : ∀ j, j < 12 → j ≠ i → pN Q j = pN (P n) j ∧ pM Q (4 * j) = pM (P n) (4 * j) ∧ pM Q (4 * j + 1) = pM (P n) (4 * j + 1) ∧ pM Q (4 * j + 2) = pM (P n) (4 * j + 2) ∧ pM Q (4 * j + 3) = pM (P n) (4 * j + 3))
    (hO : ∀ k, k < 200 → ¬ (16 * i ≤ k ∧ k < 16 * i + 16) → pT Q k = pT (P n) k ∧ pB Q k = pB (P n) k)
    {na ff fa fb fc : Nat → Int32} {nu : Nat → Nat → UInt64} {bl : Nat → Nat → Int32}
    (ho : ∀ j, j < 12 → j ≠ i → (na j = b_nar β j ∧ ff j = b_ff β j ∧ fa j = b_fa β j ∧ fb j = b_fb β j ∧ fc j = b_fc β j) ∧ nu j = b_num β j ∧ bl j = b_bl β j)
    (hc : na i = pN Q i ∧ ff i = pM Q (4 * i) ∧ fa i = pM Q (4 * i + 1) ∧ fb i = pM Q (4 * i + 2) ∧ fc i = pM Q (4 * i + 3))
    (h1 : (pM Q (4 * i)).toInt < 0 → ∀ p, p < 16 → nu i p = pT Q (16 * i + p) ∧ bl i p = pB Q (16 * i + p))
    (h2 : ∀ p, p < 16 → NN (nu i p) ∧ (bl i p = 0 ∨ bl i p = 1))
    {T : Nat → UInt64} {B nr md : Nat → Int32} {nw : Nat → UInt64} {nn : Nat → Int32} {w : UInt64} {c : Int32} (hM : MP (chS σ n T B nr md nw nn w c) Q)
    {F2 : Nat → UInt64} {H2 : Nat → Int32} (hF2 : ∀ p, p < 16 → F2 p = b_num β i p ∧ H2 p = b_bl β i p) :
    Inv G z (t + 1) (cgS β z N n (min i fr) na ff fa fb fc nu bl (b_cn β) (b_cb β)) (b5 G z N b (b_lat β) i (b_nar β i) (b_ff β i) (b_fa β i) (b_fb β i) (b_fc β i) F2 H2) (N + 5) (chS σ n T B nr md nw nn w c) := by
  have h' := h
  obtain ⟨g1, g2, g3, g4, g5, g6⟩ := h
  have hWn := g2 n (Nat.le_refl _)
  refine inv_change (Q := Q) (fr' := min i fr) h' (by omega) hW hM (ch_MT g3.1 g3.2.1) rfl ?_ ?_ rfl rfl rfl (by omega) ?_ ?_ (cg_ALM g6)
  · rw [cg_BR]
    refine ⟨fun j hj => ?_, fun k hk => ?_⟩
    · by_cases e : j = i
      · subst e
        exact ⟨hc.1, hc.2.1, hc.2.2.1, hc.2.2.2.1, hc.2.2.2.2, h1, h2⟩
      · obtain ⟨n1, n2, n3, n4, n5, n6, n7⟩ := g4.1.1 j hj
        obtain ⟨⟨o1, o2, o3, o4, o5⟩, o6, o7⟩ := ho j hj e
        obtain ⟨q1, q2, q3, q4, q5⟩ := hQ j hj e
        rw [o1, o2, o3, o4, o5, o6, o7, q1, q2, q3, q4, q5]
        refine ⟨n1, n2, n3, n4, n5, fun hneg p hp => ?_, n7⟩
        obtain ⟨u1, u2⟩ := hO (16 * j + p) (by omega) (by omega)
        rw [u1, u2]; exact n6 hneg p hp
    · obtain ⟨u1, u2⟩ := hO (192 + k) (by omega) (by omega)
      rw [u1, u2]; exact g4.1.2 k hk
  · rw [cg_FR]
    refine FR_step hWn (by omega) ⟨fun j hj => ?_, fun k hk => ?_⟩ g4.2.1 (fun j hj q hq => ?_)
    · obtain ⟨q1, q2, q3, q4, q5⟩ := hQ j (by omega) (by omega)
      exact ⟨q1.symm, q2.symm, q3.symm, q4.symm, q5.symm⟩
    · obtain ⟨u1, u2⟩ := hO k (by omega) (by omega)
      exact ⟨u1.symm, u2.symm⟩
    · rw [(ho j (by omega) (by omega)).2.1, (ho j (by omega) (by omega)).2.2]; exact ⟨rfl, rfl⟩
  · intro k hk
    exact b5_lt hk
  · obtain ⟨n1, n2, n3, n4, n5, n6, n7⟩ := g4.1.1 i hi
    refine .inr (.inr ⟨i, b_nar β i, b_ff β i, b_fa β i, b_fb β i, b_fc β i, F2, H2, by omega, hi, b5_0, b5_1, b5_2, b5_3, b5_4, ?_, ⟨n1.symm, n2.symm, n3.symm, n4.symm, n5.symm⟩, ?_, ?_, ?_⟩)
    · intro j hj e
      obtain ⟨q1, q2, q3, q4, q5⟩ := hQ j hj e
      exact ⟨q1.symm, q2.symm, q3.symm, q4.symm, q5.symm⟩
    · intro k hk hk'
      obtain ⟨u1, u2⟩ := hO k hk hk'
      exact ⟨u1.symm, u2.symm⟩
    · intro hneg p hp
      rw [(hF2 p hp).1, (hF2 p hp).2]
      rw [n2] at hneg
      exact ⟨(n6 hneg p hp).1.symm, (n6 hneg p hp).2.symm⟩
    · intro p hp
      rw [(hF2 p hp).1, (hF2 p hp).2]; exact n7 p hp
/-- the reference between picture and count -/
def kS (σ : MS) (n : Nat) (T : Nat → UInt64) (B nr md : Nat → Int32) (nw : Nat → UInt64) (nn : Nat → Int32) (w : UInt64) (i : Int32) : MS := gS σ T B nr md nw nn (cpy 200 n 200 (m_told σ) (m_toldThen σ)) (cpy 200 n 200 (m_blank σ) (m_blankThen σ)) (cpy 12 n 12 (m_narrow σ) (m_narrowThen σ)) (cpy 48 n 48 (m_made σ) (m_madeThen σ)) (m_changes σ) w i
theorem k_pc (σ : MS) (n : Nat) : pcN σ n = kS σ n (m_told σ) (m_blank σ) (m_narrow σ) (m_made σ) (m_now σ) (m_none σ) (m_worth σ) (m_isNone σ) := rfl
theorem kg_told (σ : MS) (n : Nat) (T : Nat → UInt64) (B nr md : Nat → Int32) (nw : Nat → UInt64) (nn : Nat → Int32) (w : UInt64) (i : Int32) : m_told (kS σ n T B nr md nw nn w i) = T := rfl
theorem ks_told (σ : MS) (n : Nat) (T : Nat → UInt64) (B nr md : Nat → Int32) (nw : Nat → UInt64) (nn : Nat → Int32) (w : UInt64) (i : Int32) (u : Nat → UInt64) : m_told_ (kS σ n T B nr md nw nn w i) u = kS σ n u B nr md nw nn w i := rfl
theorem kg_blank (σ : MS) (n : Nat) (T : Nat → UInt64) (B nr md : Nat → Int32) (nw : Nat → UInt64) (nn : Nat → Int32) (w : UInt64) (i : Int32) : m_blank (kS σ n T B nr md nw nn w i) = B := rfl
theorem ks_blank (σ : MS) (n : Nat) (T : Nat → UInt64) (B nr md : Nat → Int32) (nw : Nat → UInt64) (nn : Nat → Int32) (w : UInt64) (i : Int32) (u : Nat → Int32) : m_blank_ (kS σ n T B nr md nw nn w i) u = kS σ n T u nr md nw nn w i := rfl
theorem kg_narrow (σ : MS) (n : Nat) (T : Nat → UInt64) (B nr md : Nat → Int32) (nw : Nat → UInt64) (nn : Nat → Int32) (w : UInt64) (i : Int32) : m_narrow (kS σ n T B nr md nw nn w i) = nr := rfl
theorem ks_narrow (σ : MS) (n : Nat) (T : Nat → UInt64) (B nr md : Nat → Int32) (nw : Nat → UInt64) (nn : Nat → Int32) (w : UInt64) (i : Int32) (u : Nat → Int32) : m_narrow_ (kS σ n T B nr md nw nn w i) u = kS σ n T B u md nw nn w i := rfl
theorem kg_made (σ : MS) (n : Nat) (T : Nat → UInt64) (B nr md : Nat → Int32) (nw : Nat → UInt64) (nn : Nat → Int32) (w : UInt64) (i : Int32) : m_made (kS σ n T B nr md nw nn w i) = md := rfl
theorem ks_made (σ : MS) (n : Nat) (T : Nat → UInt64) (B nr md : Nat → Int32) (nw : Nat → UInt64) (nn : Nat → Int32) (w : UInt64) (i : Int32) (u : Nat → Int32) : m_made_ (kS σ n T B nr md nw nn w i) u = kS σ n T B nr u nw nn w i := rfl
theorem k_rc (σ : MS) (n : Nat) (T : Nat → UInt64) (B nr md : Nat → Int32) (nw : Nat → UInt64) (nn : Nat → Int32) (w : UInt64) (i : Int32) (nw' : Nat → UInt64) (nn' : Nat → Int32) (w' : UInt64) (i' : Int32) : rcS (kS σ n T B nr md nw nn w i) nw' nn' w' i' = kS σ n T B nr md nw' nn' w' i' := rfl
theorem k_chg {σ : MS} {n : Nat} (hc : m_changes σ = Int32.ofNat n) (T : Nat → UInt64) (B nr md : Nat → Int32) (nw : Nat → UInt64) (nn : Nat → Int32) (w : UInt64) (i : Int32) : gX11_changed (kS σ n T B nr md nw nn w i) = some (chS σ n T B nr md nw nn w i, 1) := by
  show some (gS σ T B nr md nw nn (cpy 200 n 200 (m_told σ) (m_toldThen σ)) (cpy 200 n 200 (m_blank σ) (m_blankThen σ)) (cpy 12 n 12 (m_narrow σ) (m_narrowThen σ)) (cpy 48 n 48 (m_made σ) (m_madeThen σ)) (m_changes σ + (1 : Int32)) w i, (1 : Int32)) = _
  rw [hc, o_succ]
  rfl
theorem rm_cg (β : BS) (z N n f : Nat) : rmS β z N n f = cgS β z N n f (b_nar β) (b_ff β) (b_fa β) (b_fb β) (b_fc β) (b_num β) (b_bl β) (b_cn β) (b_cb β) := rfl
theorem gg_nar (β : BS) (z N n f : Nat) (na ff fa fb fc : Nat → Int32) (nu : Nat → Nat → UInt64) (bl : Nat → Nat → Int32) (cn : Nat → UInt64) (cb : Nat → Int32) : b_nar (cgS β z N n f na ff fa fb fc nu bl cn cb) = na := rfl
theorem gs_nar (β : BS) (z N n f : Nat) (na ff fa fb fc : Nat → Int32) (nu : Nat → Nat → UInt64) (bl : Nat → Nat → Int32) (cn : Nat → UInt64) (cb : Nat → Int32) (u : Nat → Int32) : b_nar_ (cgS β z N n f na ff fa fb fc nu bl cn cb) u = cgS β z N n f u ff fa fb fc nu bl cn cb := rfl
theorem gg_ff (β : BS) (z N n f : Nat) (na ff fa fb fc : Nat → Int32) (nu : Nat → Nat → UInt64) (bl : Nat → Nat → Int32) (cn : Nat → UInt64) (cb : Nat → Int32) : b_ff (cgS β z N n f na ff fa fb fc nu bl cn cb) = ff := rfl
theorem gs_ff (β : BS) (z N n f : Nat) (na ff fa fb fc : Nat → Int32) (nu : Nat → Nat → UInt64) (bl : Nat → Nat → Int32) (cn : Nat → UInt64) (cb : Nat → Int32) (u : Nat → Int32) : b_ff_ (cgS β z N n f na ff fa fb fc nu bl cn cb) u = cgS β z N n f na u fa fb fc nu bl cn cb := rfl
theorem gg_fa (β : BS) (z N n f : Nat) (na ff fa fb fc : Nat → Int32) (nu : Nat → Nat → UInt64) (bl : Nat → Nat → Int32) (cn : Nat → UInt64) (cb : Nat → Int32) : b_fa (cgS β z N n f na ff fa fb fc nu bl cn cb) = fa := rfl
theorem gs_fa (β : BS) (z N n f : Nat) (na ff fa fb fc : Nat → Int32) (nu : Nat → Nat → UInt64) (bl : Nat → Nat → Int32) (cn : Nat → UInt64) (cb : Nat → Int32) (u : Nat → Int32) : b_fa_ (cgS β z N n f na ff fa fb fc nu bl cn cb) u = cgS β z N n f na ff u fb fc nu bl cn cb := rfl
theorem gg_fb (β : BS) (z N n f : Nat) (na ff fa fb fc : Nat → Int32) (nu : Nat → Nat → UInt64) (bl : Nat → Nat → Int32) (cn : Nat → UInt64) (cb : Nat → Int32) : b_fb (cgS β z N n f na ff fa fb fc nu bl cn cb) = fb := rfl
theorem gs_fb (β : BS) (z N n f : Nat) (na ff fa fb fc : Nat → Int32) (nu : Nat → Nat → UInt64) (bl : Nat → Nat → Int32) (cn : Nat → UInt64) (cb : Nat → Int32) (u : Nat → Int32) : b_fb_ (cgS β z N n f na ff fa fb fc nu bl cn cb) u = cgS β z N n f na ff fa u fc nu bl cn cb := rfl
theorem gg_fc (β : BS) (z N n f : Nat) (na ff fa fb fc : Nat → Int32) (nu : Nat → Nat → UInt64) (bl : Nat → Nat → Int32) (cn : Nat → UInt64) (cb : Nat → Int32) : b_fc (cgS β z N n f na ff fa fb fc nu bl cn cb) = fc := rfl
theorem gs_fc (β : BS) (z N n f : Nat) (na ff fa fb fc : Nat → Int32) (nu : Nat → Nat → UInt64) (bl : Nat → Nat → Int32) (cn : Nat → UInt64) (cb : Nat → Int32) (u : Nat → Int32) : b_fc_ (cgS β z N n f na ff fa fb fc nu bl cn cb) u = cgS β z N n f na ff fa fb u nu bl cn cb := rfl
theorem gg_num (β : BS) (z N n f : Nat) (na ff fa fb fc : Nat → Int32) (nu : Nat → Nat → UInt64) (bl : Nat → Nat → Int32) (cn : Nat → UInt64) (cb : Nat → Int32) : b_num (cgS β z N n f na ff fa fb fc nu bl cn cb) = nu := rfl
theorem gs_num (β : BS) (z N n f : Nat) (na ff fa fb fc : Nat → Int32) (nu : Nat → Nat → UInt64) (bl : Nat → Nat → Int32) (cn : Nat → UInt64) (cb : Nat → Int32) (u : Nat → Nat → UInt64) : b_num_ (cgS β z N n f na ff fa fb fc nu bl cn cb) u = cgS β z N n f na ff fa fb fc u bl cn cb := rfl
theorem gg_bl (β : BS) (z N n f : Nat) (na ff fa fb fc : Nat → Int32) (nu : Nat → Nat → UInt64) (bl : Nat → Nat → Int32) (cn : Nat → UInt64) (cb : Nat → Int32) : b_bl (cgS β z N n f na ff fa fb fc nu bl cn cb) = bl := rfl
theorem gs_bl (β : BS) (z N n f : Nat) (na ff fa fb fc : Nat → Int32) (nu : Nat → Nat → UInt64) (bl : Nat → Nat → Int32) (cn : Nat → UInt64) (cb : Nat → Int32) (u : Nat → Nat → Int32) : b_bl_ (cgS β z N n f na ff fa fb fc nu bl cn cb) u = cgS β z N n f na ff fa fb fc nu u cn cb := rfl
