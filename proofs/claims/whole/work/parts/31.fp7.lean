-- m * 2^e, both ways
theorem i2d_sm (m : Int32) : FN (FP.i2d m) ∧ sg (FP.i2d m) = decide (m.toInt < 0) ∧ mg (FP.i2d m) = m.toInt.natAbs * 2 ^ 1074 := by
  have hz : zv (FP.i2d m) = m.toInt * (one : Int) := FP.Core.DInt_zval (FP.Core.i2d_int m)
  have hf : FN (FP.i2d m) := FP.Core.i2d_fin m
  have hs : sg (FP.i2d m) = decide (m.toInt < 0) := by
    obtain ⟨c, q, h⟩ := FP.Core.l2d_shape m.toInt64
    show FP.Core.sgn (FP.Core.val64 (FP.Core.i2d m)) = _
    rw [FP.Core.i2d_l2d, h, Int32.toInt_toInt64]; rfl
  refine ⟨hf, hs, ?_⟩
  rw [zv_def, hs, one_eq] at hz
  have : mg (FP.i2d m) = (m.toInt * ((2 ^ 1074 : Nat) : Int)).natAbs := by
    rw [← hz, FP.Core.natAbs_signed]
  rw [this, Int.natAbs_mul, Int.natAbs_natCast]
def SS (v : UInt64) (s : Bool) (c j : Nat) : Prop := FN v ∧ sg v = s ∧ mg v = c * 2 ^ j
theorem ss_inj {v w : UInt64} {s : Bool} {c j : Nat} (h : SS v s c j) (g : SS w s c j) : v = w :=
  mg_inj (fn_nn h.1) (fn_nn g.1) (by rw [h.2.1, g.2.1]) (by rw [h.2.2, g.2.2])
theorem ss_mul {v P : UInt64} {s : Bool} {c j i j' : Nat} (h : SS v s c j) (g : QQ P 1 i) (hc : c < 2 ^ 53) (hj : j' ≤ 2045) (e : j + i = j' + 1074) : SS (FP.dmul v P) s c j' := by
  obtain ⟨a1, a2, a3⟩ := mul_ex h.1 g.1 (c := c) (j := j') hc hj (by
    rw [h.2.2, g.2.2, one_eq, Nat.one_mul, Nat.mul_assoc, ← Nat.pow_add, e, Nat.pow_add, Nat.mul_assoc])
  exact ⟨a1, by rw [a2, h.2.1, g.2.1, Bool.bne_false], a3⟩
theorem ss_div2 {v : UInt64} {s : Bool} {c j : Nat} (h : SS v s c (j + 1)) (hc : c < 2 ^ 53) (hj : j ≤ 2045) : SS (FP.ddiv v 4611686018427387904) s c j := by
  obtain ⟨a1, a2, a3⟩ := div_ex h.1 q_2.1 (by rw [q_2.2.2, Nat.one_mul]; have := Nat.two_pow_pos 1075; omega) (c := c) (j := j) hc hj (by
    rw [h.2.2, q_2.2.2, one_eq, Nat.one_mul, Nat.mul_assoc, Nat.mul_assoc, ← Nat.pow_add, ← Nat.pow_add, show j + 1 + 1074 = j + 1075 by omega])
  exact ⟨a1, by rw [a2, h.2.1, q_2.2.1, Bool.bne_false], a3⟩
theorem pow_up (m x1 : Int32) (s : Bool) (c : Nat) (hc : c < 2 ^ 53) (h0 : 0 ≤ x1.toInt) (h9 : x1.toInt ≤ 900) : ∀ (k f i : Nat) (v : UInt64) (v4 : Int32), v4.toInt = i → (i : Int) + k = x1.toInt → k < f → SS v s c (1074 + i) →
    ∃ w, lq2 (gX11_power_6 m x1) f v v4 = some w ∧ SS w s c (x1.toInt + 1074).toNat := by
  intro k
  induction k with
  | zero =>
    intro f i v v4 e1 e2 hf hs
    obtain ⟨f, rfl⟩ : ∃ g, f = g + 1 := ⟨f - 1, by omega⟩
    refine ⟨v, ?_, ?_⟩
    · show gX11_power_6 m x1 _ v v4 = _
      unfold gX11_power_6
      rw [if_pos (i32_le.mpr (by omega))]
      show gX11_power_27 m x1 _ v 0 = _
      unfold gX11_power_27
      rw [if_pos (show (0 : Int32) ≤ x1 from i32_le.mpr h0)]
    · rwa [show (x1.toInt + 1074).toNat = 1074 + i by omega]
  | succ k ih =>
    intro f i v v4 e1 e2 hf hs
    obtain ⟨f, rfl⟩ : ∃ g, f = g + 1 := ⟨f - 1, by omega⟩
    have hn := ss_mul hs q_2 hc (j' := 1074 + (i + 1)) (by omega) (by omega)
    obtain ⟨w, h1, h2⟩ := ih f (i + 1) (FP.dmul v 4611686018427387904) (v4 + 1) (by
      have e : (1 : Int32).toInt = 1 := rfl
      rw [i32_add] <;> rw [e] <;> omega) (by omega) (by omega) hn
    refine ⟨w, ?_, h2⟩
    show gX11_power_6 m x1 _ v v4 = _
    unfold gX11_power_6
    rw [if_neg (by rw [i32_le]; omega), if_pos (fn_nn hn.1)]
    exact h1
theorem pow_dn (m x1 : Int32) (s : Bool) (c : Nat) (hc : c < 2 ^ 53) (h0 : x1.toInt ≤ 0) (h9 : -1000 ≤ x1.toInt) : ∀ (k f i : Nat) (v : UInt64) (v4 : Int32), v4.toInt = -(i : Int) → -(i : Int) - k = x1.toInt → k < f → SS v s c (1074 - i) →
    ∃ w, lq2 (gX11_power_27 m x1) f v v4 = some w ∧ SS w s c (x1.toInt + 1074).toNat := by
  intro k
  induction k with
  | zero =>
    intro f i v v4 e1 e2 hf hs
    obtain ⟨f, rfl⟩ : ∃ g, f = g + 1 := ⟨f - 1, by omega⟩
    refine ⟨v, ?_, ?_⟩
    · show gX11_power_27 m x1 _ v v4 = _
      unfold gX11_power_27
      rw [if_pos (i32_le.mpr (by omega))]
    · rwa [show (x1.toInt + 1074).toNat = 1074 - i by omega]
  | succ k ih =>
    intro f i v v4 e1 e2 hf hs
    obtain ⟨f, rfl⟩ : ∃ g, f = g + 1 := ⟨f - 1, by omega⟩
    have hn := ss_div2 (j := 1074 - (i + 1)) (by rwa [show 1074 - (i + 1) + 1 = 1074 - i by omega]) hc (by omega)
    obtain ⟨w, h1, h2⟩ := ih f (i + 1) (FP.ddiv v 4611686018427387904) (v4 + -1) (by
      have e : (-1 : Int32).toInt = -1 := rfl
      rw [i32_add] <;> rw [e] <;> omega) (by omega) (by omega) hn
    refine ⟨w, ?_, h2⟩
    show gX11_power_27 m x1 _ v v4 = _
    unfold gX11_power_27
    rw [if_neg (by rw [i32_le]; omega), if_pos (fn_nn hn.1)]
    exact h1
theorem power_eq (m e : Int32) (h1 : -1000 ≤ e.toInt) (h2 : e.toInt ≤ 900) : ∃ P, gX6_twoTo e = some P ∧ FN (FP.dmul (FP.i2d m) P) ∧ gX11_power m e = some (FP.dmul (FP.i2d m) P) := by
  obtain ⟨P, a1, a2⟩ := tt e.toInt (by omega) (by omega)
  rw [Int32.ofInt_toInt] at a1
  refine ⟨P, a1, ?_⟩
  have hi : SS (FP.i2d m) (decide (m.toInt < 0)) m.toInt.natAbs 1074 := i2d_sm m
  have hc : m.toInt.natAbs < 2 ^ 53 := by have := FP.Core.int32_abs m; omega
  have hP := ss_mul hi a2 hc (j' := (e.toInt + 1074).toNat) (by omega) (by omega)
  refine ⟨hP.1, ?_⟩
  unfold gX11_power
  by_cases h : 0 ≤ e.toInt
  · obtain ⟨w, b1, b2⟩ := pow_up m e _ _ hc h h2 e.toInt.toNat 1100 0 (FP.i2d m) 0 rfl (by omega) (by omega) hi
    rw [b1, ss_inj b2 hP]
  · obtain ⟨w, b1, b2⟩ := pow_dn m e _ _ hc (by omega) h1 (-e.toInt).toNat 1100 0 (FP.i2d m) 0 rfl (by omega) (by omega) hi
    rw [← ss_inj b2 hP, ← b1]
    show gX11_power_6 m e _ _ _ = _
    unfold gX11_power_6
    rw [if_pos (i32_le.mpr (by show e.toInt ≤ 0; omega))]
-- the digits behind the sign, the class's way
theorem qq_lp {v w : UInt64} {c j p : Nat} (i : Nat) (h : QQ v c j) (g : QQ w 1 p) (hp : p = i + 52) (h1 : 2 ^ 52 ≤ c) (h2 : c < 2 ^ 53) : dk v < dk w ↔ j < i := by
  subst hp; rw [qq_lt h g]; exact pw_lt h1 h2
theorem bs3 (x0 : UInt64) (x1 : Int32) (v5 : UInt64) (c : Nat) (hc1 : 2 ^ 52 ≤ c) (hc2 : c < 2 ^ 53) : ∀ (k f : Nat) (v7 : UInt64) (v9 v10 : Int32), QQ v7 c (1022 + k) → 0 ≤ v10.toInt → v10.toInt + k ≤ 32 → k < f → -9000 ≤ v9.toInt → v9.toInt + k ≤ 9000 →
    ∃ w u, lq4 (gX1_behindSign_122 x0 x1) f v5 v7 v9 v10 = gX1_behindSign_155 x0 x1 v5 w u ∧ QQ w c 1022 ∧ u.toInt = v9.toInt + k := by
  intro k
  induction k with
  | zero =>
    intro f v7 v9 v10 hq h0 h1 hf g1 g2
    obtain ⟨f, rfl⟩ : ∃ g, f = g + 1 := ⟨f - 1, by omega⟩
    refine ⟨v7, v9, ?_, hq, by omega⟩
    show gX1_behindSign_122 x0 x1 _ v5 v7 v9 v10 = _
    unfold gX1_behindSign_122
    split
    · rfl
    · rw [cv (fn_nn hq.1) nn_2]
      simp only [cq_lt]
      rw [if_pos ((qq_lp 1023 hq q_2 rfl hc1 hc2).mpr (by omega))]
  | succ k ih =>
    intro f v7 v9 v10 hq h0 h1 hf g1 g2
    obtain ⟨f, rfl⟩ : ∃ g, f = g + 1 := ⟨f - 1, by omega⟩
    have e : (1 : Int32).toInt = 1 := rfl
    have hn := qq_mul hq q_half hc2 (j' := 1022 + k) (by omega) ⟨Nat.mul_one c, by omega⟩
    have e9 : (v9 + 1).toInt = v9.toInt + 1 := by rw [i32_add] <;> rw [e] <;> omega
    obtain ⟨w, u, a1, a2, a3⟩ := ih f (FP.dmul v7 4602678819172646912) (v9 + 1) (v10 + 1) hn (by rw [i32_add] <;> rw [e] <;> omega) (by rw [i32_add] <;> rw [e] <;> omega) (by omega) (by omega) (by omega)
    refine ⟨w, u, ?_, a2, by omega⟩
    show gX1_behindSign_122 x0 x1 _ v5 v7 v9 v10 = _
    unfold gX1_behindSign_122
    have e32 : (32 : Int32).toInt = 32 := rfl
    rw [if_neg (by rw [i32_le, e32]; omega), cv (fn_nn hq.1) nn_2]
    simp only [cq_lt]
    rw [if_neg (by rw [qq_lp 1023 hq q_2 rfl hc1 hc2]; omega), if_pos (fn_nn hn.1)]
    exact a1
theorem bs2 (x0 : UInt64) (x1 : Int32) (v5 : UInt64) (c : Nat) (hc1 : 2 ^ 52 ≤ c) (hc2 : c < 2 ^ 53) : ∀ (k f jj : Nat) (v7 : UInt64) (v9 v10 : Int32), QQ v7 c jj → jj ≤ 1053 → 1022 ≤ jj + 32 * k → 0 ≤ v10.toInt → v10.toInt + k ≤ 32 → k < f → -9000 ≤ v9.toInt - 32 * k → v9.toInt ≤ 9000 →
    ∃ w u j', lq4 (gX1_behindSign_88 x0 x1) f v5 v7 v9 v10 = gX1_behindSign_119 x0 x1 v5 w u ∧ QQ w c j' ∧ 1022 ≤ j' ∧ j' ≤ 1053 ∧ u.toInt + j' = v9.toInt + jj := by
  intro k
  induction k with
  | zero =>
    intro f jj v7 v9 v10 hq hj hk h0 h1 hf g1 g2
    obtain ⟨f, rfl⟩ : ∃ g, f = g + 1 := ⟨f - 1, by omega⟩
    refine ⟨v7, v9, jj, ?_, hq, by omega, by omega, by omega⟩
    show gX1_behindSign_88 x0 x1 _ v5 v7 v9 v10 = _
    unfold gX1_behindSign_88
    split
    · rfl
    · rw [cv (fn_nn hq.1) nn1]
      simp only [cq_ge]
      rw [if_pos]
      have := (qq_lp 1022 hq q_1 rfl hc1 hc2)
      omega
  | succ k ih =>
    intro f jj v7 v9 v10 hq hj hk h0 h1 hf g1 g2
    obtain ⟨f, rfl⟩ : ∃ g, f = g + 1 := ⟨f - 1, by omega⟩
    by_cases hlt : jj < 1022
    · have e : (1 : Int32).toInt = 1 := rfl
      have em : (-32 : Int32).toInt = -32 := rfl
      have hn := qq_mul hq q_p32 hc2 (j' := jj + 32) (by omega) ⟨Nat.mul_one c, by omega⟩
      have e9 : (v9 + -32).toInt = v9.toInt - 32 := by rw [i32_add] <;> rw [em] <;> omega
      obtain ⟨w, u, j', a1, a2, a3, a4, a5⟩ := ih f (jj + 32) (FP.dmul v7 4751297606875873280) (v9 + -32) (v10 + 1) hn (by omega) (by omega) (by rw [i32_add] <;> rw [e] <;> omega) (by rw [i32_add] <;> rw [e] <;> omega) (by omega) (by omega) (by omega)
      refine ⟨w, u, j', ?_, a2, a3, a4, by omega⟩
      show gX1_behindSign_88 x0 x1 _ v5 v7 v9 v10 = _
      unfold gX1_behindSign_88
      have e32 : (32 : Int32).toInt = 32 := rfl
      rw [if_neg (by rw [i32_le, e32]; omega), cv (fn_nn hq.1) nn1]
      simp only [cq_ge]
      have := (qq_lp 1022 hq q_1 rfl hc1 hc2).mpr (by omega)
      rw [if_neg (by omega), if_pos (fn_nn hn.1)]
      exact a1
    · refine ⟨v7, v9, jj, ?_, hq, by omega, by omega, by omega⟩
      show gX1_behindSign_88 x0 x1 _ v5 v7 v9 v10 = _
      unfold gX1_behindSign_88
      split
      · rfl
      · rw [cv (fn_nn hq.1) nn1]
        simp only [cq_ge]
        rw [if_pos]
        have := (qq_lp 1022 hq q_1 rfl hc1 hc2)
        omega
theorem bs1 (x0 : UInt64) (x1 : Int32) (v5 : UInt64) (c : Nat) (hc1 : 2 ^ 52 ≤ c) (hc2 : c < 2 ^ 53) : ∀ (k f jj : Nat) (v7 : UInt64) (v9 v10 : Int32), QQ v7 c jj → jj ≤ 1053 + 32 * k → jj ≤ 2045 → 0 ≤ v10.toInt → v10.toInt + k ≤ 32 → k < f → -9000 ≤ v9.toInt → v9.toInt + 32 * k ≤ 9000 →
    ∃ w u j', lq4 (gX1_behindSign_52 x0 x1) f v5 v7 v9 v10 = gX1_behindSign_85 x0 x1 v5 w u ∧ QQ w c j' ∧ j' ≤ 1053 ∧ u.toInt + j' = v9.toInt + jj := by
  intro k
  have n32 : NN 4751297606875873280 := fn_nn q_p32.1
  induction k with
  | zero =>
    intro f jj v7 v9 v10 hq hj hk h0 h1 hf g1 g2
    obtain ⟨f, rfl⟩ : ∃ g, f = g + 1 := ⟨f - 1, by omega⟩
    refine ⟨v7, v9, jj, ?_, hq, by omega, by omega⟩
    show gX1_behindSign_52 x0 x1 _ v5 v7 v9 v10 = _
    unfold gX1_behindSign_52
    split
    · rfl
    · rw [cv (fn_nn hq.1) n32]
      simp only [cq_lt]
      rw [if_pos ((qq_lp 1054 hq q_p32 rfl hc1 hc2).mpr (by omega))]
  | succ k ih =>
    intro f jj v7 v9 v10 hq hj hk h0 h1 hf g1 g2
    obtain ⟨f, rfl⟩ : ∃ g, f = g + 1 := ⟨f - 1, by omega⟩
    by_cases hlt : 1054 ≤ jj
    · have e : (1 : Int32).toInt = 1 := rfl
      have em : (32 : Int32).toInt = 32 := rfl
      have hn := qq_mul hq q_m32 hc2 (j' := jj - 32) (by omega) ⟨Nat.mul_one c, by omega⟩
      have e9 : (v9 + 32).toInt = v9.toInt + 32 := by rw [i32_add] <;> rw [em] <;> omega
      obtain ⟨w, u, j', a1, a2, a3, a4⟩ := ih f (jj - 32) (FP.dmul v7 4463067230724161536) (v9 + 32) (v10 + 1) hn (by omega) (by omega) (by rw [i32_add] <;> rw [e] <;> omega) (by rw [i32_add] <;> rw [e] <;> omega) (by omega) (by omega) (by omega)
      refine ⟨w, u, j', ?_, a2, a3, by omega⟩
      show gX1_behindSign_52 x0 x1 _ v5 v7 v9 v10 = _
      unfold gX1_behindSign_52
      rw [if_neg (by rw [i32_le, em]; omega), cv (fn_nn hq.1) n32]
      simp only [cq_lt]
      rw [if_neg (by rw [qq_lp 1054 hq q_p32 rfl hc1 hc2]; omega), if_pos (fn_nn hn.1)]
      exact a1
    · refine ⟨v7, v9, jj, ?_, hq, by omega, by omega⟩
      show gX1_behindSign_52 x0 x1 _ v5 v7 v9 v10 = _
      unfold gX1_behindSign_52
      split
      · rfl
      · rw [cv (fn_nn hq.1) n32]
        simp only [cq_lt]
        rw [if_pos ((qq_lp 1054 hq q_p32 rfl hc1 hc2).mpr (by omega))]
