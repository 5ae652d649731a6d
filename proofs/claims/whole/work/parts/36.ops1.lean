-- the narrow numbers
abbrev FNN (f : UInt32) : Prop := FP.fIsNaN f = false
theorem d2f_nn {x : UInt64} (h : NN x) : FNN (FP.d2f x) := by
  show FP.fIsNaN _ = false; rw [FP.d2f_nan]; exact h
theorem f2d_nn {f : UInt32} (h : FNN f) : NN (FP.f2d f) := by
  show FP.dIsNaN _ = false; rw [FP.f2d_nan]; exact h
theorem d2f_f2d {f : UInt32} (h : FNN f) : FP.d2f (FP.f2d f) = f := by
  rw [FP.d2f_core (f2d_nn h), FP.f2d_core h]
  exact FP.Core.d2f_f2d ((FP.Core.notNaN_iff32 f).mp h)
-- brought: what a column of this width takes
def br (nar : Int32) (x : UInt64) : UInt64 := if nar = 0 then x else FP.f2d (FP.d2f x)
theorem brC (x : UInt64) (nar : Int32) (h : NN x) : gX6_brought x nar = some (br nar x) := by
  unfold gX6_brought br
  rw [if_pos (d2f_nn h), if_pos (f2d_nn (d2f_nn h))]
  split <;> rfl
theorem brM (x : UInt64) (nar : Int32) (h : NN x) : gX11_brought x nar = some (br nar x) := by
  unfold gX11_brought br
  rw [if_pos (d2f_nn h), if_pos (f2d_nn (d2f_nn h))]
  split <;> rfl
theorem br_nn {x : UInt64} (nar : Int32) (h : NN x) : NN (br nar x) := by
  unfold br; split
  · exact h
  · exact f2d_nn (d2f_nn h)
theorem br0 (nar : Int32) : br nar 0 = 0 := by
  unfold br; split
  · rfl
  · decide +kernel
theorem br_br {x : UInt64} (nar : Int32) (h : NN x) : br nar (br nar x) = br nar x := by
  unfold br; split
  · rfl
  · rw [d2f_f2d (d2f_nn h)]
-- x is a number of this width
def Br (nar : Int32) (x : UInt64) : Prop := NN x ∧ (nar = 0 ∨ ∃ f, FNN f ∧ x = FP.f2d f)
theorem br_Br {x : UInt64} (nar : Int32) (h : NN x) : Br nar (br nar x) := by
  refine ⟨br_nn nar h, ?_⟩
  unfold br
  by_cases hn : nar = 0
  · exact .inl hn
  · rw [if_neg hn]; exact .inr ⟨_, d2f_nn h, rfl⟩
theorem f2d_val (f : UInt32) (h : FNN f) : FP.Core.val64 (FP.f2d f) = FP.Core.round FP.Core.b64 (FP.Core.val32 f) := by
  rw [FP.f2d_core h]; exact FP.Core.val64_f2d f
theorem f2d_datum (f : UInt32) (h : FNN f) : (∀ s, FP.Core.val32 f = .inf s ↔ FP.Core.val64 (FP.f2d f) = .inf s) ∧ (FP.Core.FFin f ↔ FN (FP.f2d f)) ∧ (FP.Core.FZero f ↔ FP.Core.DZero (FP.f2d f)) := by
  have hv := f2d_val f h
  have hf := FP.Core.val32_fits f
  cases hd : FP.Core.val32 f with
  | nan => exact absurd hd ((FP.Core.notNaN_iff32 f).mp h)
  | inf s =>
    rw [hd] at hv
    have hv' : FP.Core.val64 (FP.f2d f) = .inf s := hv
    refine ⟨fun t => by rw [hv'], ⟨?_, ?_⟩, ⟨?_, ?_⟩⟩
    · rintro ⟨a, b, c, e⟩; rw [hd] at e; cases e
    · rintro ⟨a, b, c, e⟩; rw [hv'] at e; cases e
    · rintro ⟨a, b, e⟩; rw [hd] at e; cases e
    · rintro ⟨a, b, e⟩; rw [hv'] at e; cases e
  | fin s c q =>
    rw [hd] at hv hf
    obtain ⟨f1, f2, f3, f4⟩ := hf
    have q1 : FP.Core.b32.qmin = -149 := FP.Core.qmin_b32
    have q2 : FP.Core.b32.qmax = 104 := by decide
    have q3 : FP.Core.b32.p = 24 := rfl
    rw [q1] at f2
    rw [q2] at f3
    rw [q3] at f1
    obtain ⟨c', q', g1, g2⟩ := FP.Core.round_exact FP.Core.good_b64 s (c := c) (q := q) (Nat.lt_of_lt_of_le f1 (by decide)) (by rw [qn]; omega) (by rw [qx]; omega)
    rw [g1] at hv
    have hz : c = 0 ↔ c' = 0 := by
      unfold FP.Core.inUnits at g2
      have p1 := Nat.two_pow_pos (q' - FP.Core.b64.qmin).toNat
      have p2 := Nat.two_pow_pos (q - FP.Core.b64.qmin).toNat
      constructor
      · rintro rfl; rw [Nat.zero_mul] at g2; rcases Nat.mul_eq_zero.mp g2 with h | h <;> omega
      · rintro rfl; rw [Nat.zero_mul] at g2; rcases Nat.mul_eq_zero.mp g2.symm with h | h <;> omega
    refine ⟨fun t => by rw [hv]; exact ⟨fun h => (by cases h), fun h => (by cases h)⟩, ⟨fun _ => ⟨s, c', q', hv⟩, fun _ => ⟨s, c, q, hd⟩⟩, ⟨?_, ?_⟩⟩
    · rintro ⟨a, b, e⟩; rw [hd] at e; injection e with e1 e2 e3; exact ⟨s, q', by rw [hv, (hz.mp e2)]⟩
    · rintro ⟨a, b, e⟩; rw [hv] at e; injection e with e1 e2 e3; exact ⟨s, q, by rw [hd, (hz.mpr e2)]⟩
theorem f2d_mag (f : UInt32) (h : FNN f) : (FP.f2d f).toNat % 2 ^ 63 < 5183643171103440896 ∨ (FP.f2d f).toNat % 2 ^ 63 = 9218868437227405312 := by
  have hn := (nn_iff _).mp (f2d_nn h)
  by_cases hf : FN (FP.f2d f)
  · left
    have hv := f2d_val f h
    have hff := (f2d_datum f h).2.1.mpr hf
    obtain ⟨s, c, q, hd⟩ := hff
    have ht := FP.Core.val32_fits f
    rw [hd] at hv ht
    obtain ⟨f1, f2, f3, f4⟩ := ht
    have q1 : FP.Core.b32.qmin = -149 := FP.Core.qmin_b32
    have q2 : FP.Core.b32.qmax = 104 := by decide
    have q3 : FP.Core.b32.p = 24 := rfl
    rw [q1] at f2
    rw [q2] at f3
    rw [q3] at f1
    obtain ⟨c', q', g1, g2⟩ := FP.Core.round_exact FP.Core.good_b64 s (c := c) (q := q) (Nat.lt_of_lt_of_le f1 (by decide)) (by rw [qn]; omega) (by rw [qx]; omega)
    rw [g1] at hv
    have hm : mg (FP.f2d f) = c * 2 ^ (q + 1074).toNat := by
      show FP.Core.zmag _ (FP.Core.val64 (FP.f2d f)) = _
      rw [hv]
      show FP.Core.inUnits c' q' FP.Core.b64.qmin = _
      rw [g2, qn]; unfold FP.Core.inUnits; rw [show q - -1074 = q + 1074 by omega]
    have hlt : mg (FP.f2d f) < 1 * 2 ^ (24 + 1178) := by
      rw [hm, Nat.one_mul, Nat.pow_add]
      calc c * 2 ^ (q + 1074).toNat < 2 ^ 24 * 2 ^ (q + 1074).toNat := Nat.mul_lt_mul_of_pos_right f1 (Nat.two_pow_pos _)
        _ ≤ 2 ^ 24 * 2 ^ 1178 := Nat.mul_le_mul_left _ (Nat.pow_le_pow_right (by decide) (by omega))
    have hV : mg 5183643171103440896 = 1 * 2 ^ (24 + 1178) := by decide +kernel
    rw [← hV, mg_units (f2d_nn h), mg_units (show NN 5183643171103440896 by decide +kernel), FP.Core.unitsOf_lt_iff] at hlt
    exact hlt
  · right
    rw [fn_iff] at hf
    omega
theorem Br_nbd {nar : Int32} {x : UInt64} (h : Br nar x) : nbd nar x := by
  rcases h.2 with h | ⟨f, hf, rfl⟩
  · exact .inl h
  · exact .inr (f2d_mag f hf)
theorem isI_iff {x : UInt64} (h : NN x) : isI x = 0 ↔ FN x := by
  unfold isI
  rw [fn_iff]
  have := (nn_iff x).mp h
  split
  · exact ⟨fun h => absurd h (by decide), fun h => by omega⟩
  · exact ⟨fun _ => by omega, fun _ => rfl⟩
theorem dz_iff {x : UInt64} : FP.Core.DZero x ↔ dk x = 0 := by
  rw [FP.Core.zero_bits2, dk_eq]
  have := x.toNat_lt
  split <;> omega
