theorem l52 : FP.l2d ((1 : Int64) <<< ((52 : Int32).toInt64 &&& 63)) = 4841369599423283200 := by decide +kernel
theorem l23 : FP.l2d ((1 : Int64) <<< ((23 : Int32).toInt64 &&& 63)) = 4710765210229538816 := by decide +kernel
theorem dg_fin (x : UInt64) (x1 x2 x3 : Int32) (hz : x.toNat ≠ 0) (h : x.toNat < 9218868437227405312) (hx2 : x2.toInt ≤ 0) (hx2' : -1022 ≤ x2.toInt) :
    ∃ w u j', gX11_digits x x1 x2 x3 = gX11_digits_84 x x1 x2 x3 w u ∧ QQ w (cOf x.toNat) j' ∧ j' ≤ 1022 ∧ u.toInt + j' = jOf x.toNat ∧ x2.toInt ≤ u.toInt ∧ ((2 ^ 52 ≤ cOf x.toNat ∧ j' = 1022) ∨ ((cOf x.toNat < 2 ^ 52 ∨ j' < 1022) ∧ u.toInt = x2.toInt)) := by
  obtain ⟨c1, c2, c3⟩ := cj h
  have hx := qq_of h
  have hn := fn_nn hx.1
  have e0 : (0 : Int32).toInt = 0 := rfl
  obtain ⟨w1, u1, j1, a1, a2, a3, a4, a5, a6, a7⟩ := dg1 x x1 x2 x3 _ c1 1023 2200 (jOf x.toNat) x 0 hx c3 (by omega) c2 (by omega) (by rw [e0]; omega) (by rw [e0]; omega)
  rw [e0] at a6
  have hj0 : ¬ 2 ^ 52 ≤ cOf x.toNat → jOf x.toNat = 0 := by omega
  obtain ⟨w, u, j', b⟩ := dg2 x x1 x2 x3 _ c1 (by omega) (u1.toInt - x2.toInt).toNat 2200 j1 w1 u1 a2 a4 (by omega) (by omega) (by omega)
  refine ⟨w, u, j', ?_⟩
  rcases b with ⟨b1, b2, b3, b4, b5, b6⟩ | b
  · refine ⟨?_, b2, b3, by omega, b5, b6⟩
    unfold gX11_digits
    rw [c_zeroM x hn, c_infM x hn]
    simp only [Option.bind_some]
    have hd : dk x ≠ 0 := by rw [dk_eq]; split <;> omega
    rw [if_neg hd, if_pos rfl]
    rw [show isI x = 0 from if_neg (by omega), if_pos rfl, a1, b1]
  · omega
theorem ge1 {v : UInt64} {c j : Nat} (hq : QQ v c j) (hc2 : c < 2 ^ 53) (hj : j ≤ 1022) : dk FP.dconst1 ≤ dk v ↔ ¬ (c < 2 ^ 52 ∨ j < 1022) := by
  have := lt1 hq hc2 hj; omega
theorem small_d2l {w P : UInt64} {c j p : Nat} (hw : QQ w c j) (hP : QQ P 1 (1074 + p)) (hc : c < 2 ^ 53) (hj : j ≤ 1022) (hp : p ≤ 52) (h : c < 2 ^ 52 ∨ j < 1022) : NN (FP.dmul w P) ∧ FP.d2l (FP.dmul w P) = Int64.ofNat (c * 2 ^ (j + p) / one) := by
  have hm := qq_mul hw hP hc (j' := j + p) (by omega) ⟨Nat.mul_one c, by omega⟩
  refine ⟨fn_nn hm.1, d2l_q hm.1 (qq_zv hm) ?_⟩
  rw [one_eq, Nat.div_lt_iff_lt_mul (Nat.two_pow_pos _)]
  calc c * 2 ^ (j + p) < 2 ^ 53 * 2 ^ (j + p) := Nat.mul_lt_mul_of_pos_right hc (Nat.two_pow_pos _)
    _ = 2 ^ (53 + (j + p)) := (Nat.pow_add ..).symm
    _ ≤ 2 ^ (63 + 1074) := Nat.pow_le_pow_right (by decide) (by omega)
    _ = 2 ^ 63 * 2 ^ 1074 := Nat.pow_add ..
theorem dgW (x : UInt64) (h : x.toNat ≤ 9218868437227405312) : gX11_digits x 52 (-1022) 1023 = some (Int64.ofNat x.toNat) := by
  by_cases hz : x.toNat = 0
  · rw [show x = 0 from UInt64.toNat.inj hz]; decide +kernel
  by_cases hi : x.toNat = 9218868437227405312
  · rw [show x = 9218868437227405312 from UInt64.toNat.inj hi]; decide +kernel
  have hf : x.toNat < 9218868437227405312 := by omega
  obtain ⟨c1, c2, c3⟩ := cj hf
  have em : (-1022 : Int32).toInt = -1022 := rfl
  obtain ⟨w, u, j', b1, b2, b3, b4, b5, b6⟩ := dg_fin x 52 (-1022) 1023 hz hf (by rw [em]; omega) (by rw [em]; omega)
  rw [b1]
  unfold gX11_digits_84
  rw [cv (fn_nn b2.1) nn1, l52]
  simp only [cq_ge, ge1 b2 c1 b3]
  rw [em] at b5 b6
  rcases b6 with ⟨k1, k2⟩ | ⟨k1, k2⟩
  · subst k2
    obtain ⟨f1, f2, f3⟩ := frac (p := 52) b2 k1 c1 (by decide) q_p52
    have hc : ¬ x.toNat < 2 ^ 52 := by
      intro hlt
      have : cOf x.toNat = x.toNat := by unfold cOf; rw [if_pos (by omega)]
      omega
    have hc' : cOf x.toNat = 2 ^ 52 + x.toNat % 2 ^ 52 := by unfold cOf; rw [if_neg (by omega)]
    have hj : jOf x.toNat + 1 = x.toNat / 2 ^ 52 := by unfold jOf; omega
    have e1 : (1023 : Int32).toInt = 1023 := rfl
    have e2 : (u + 1023).toInt = ((x.toNat / 2 ^ 52 : Nat) : Int) := by rw [i32_add] <;> rw [e1] <;> omega
    rw [if_pos (by omega), if_pos f1, if_pos f2, f3, i2l e2, show (52 : Int32) = Int32.ofNat 52 from rfl, shl _ _ (by decide)]
    have : (cOf x.toNat - 2 ^ 52) / 2 ^ (52 - 52) = x.toNat % 2 ^ 52 := by
      rw [Nat.sub_self, Nat.pow_zero, Nat.div_one]; omega
    rw [this, or_add _ _ _ (by omega)]
    refine congrArg (fun n => some (Int64.ofNat n)) ?_
    omega
  · obtain ⟨f1, f2⟩ := small_d2l (p := 52) b2 q_p52 c1 b3 (by decide) k1
    rw [if_neg (by omega), if_pos f1, f2]
    refine congrArg (fun n => some (Int64.ofNat n)) ?_
    have hj : j' = 1022 := by omega
    have hc : cOf x.toNat = x.toNat := by
      unfold cOf at k1 ⊢
      split
      · rfl
      · rename_i h9; rw [if_neg h9] at k1; omega
    rw [hj, hc, one_eq, Nat.mul_div_cancel _ (Nat.two_pow_pos _)]
theorem bsn_lt {n : Nat} (h : n < 5183643171103440896) : bsn n < 2 ^ 31 := by
  obtain ⟨c1, c2, c3⟩ := cj (n := n) (by omega)
  have hj : jOf n ≤ 1149 := by unfold jOf; omega
  unfold bsn
  split
  · omega
  · rw [one_eq, Nat.div_lt_iff_lt_mul (Nat.two_pow_pos _)]
    rename_i hh
    have hjj : jOf n < 896 := by omega
    calc cOf n * 2 ^ (jOf n + 149) < 2 ^ 53 * 2 ^ (jOf n + 149) := Nat.mul_lt_mul_of_pos_right c1 (Nat.two_pow_pos _)
      _ = 2 ^ (53 + (jOf n + 149)) := (Nat.pow_add ..).symm
      _ ≤ 2 ^ (31 + 1074) := Nat.pow_le_pow_right (by decide) (by omega)
      _ = 2 ^ 31 * 2 ^ 1074 := Nat.pow_add ..
def bnn (n : Nat) : Nat := if n = 9218868437227405312 then 2139095040 else bsn n
theorem dgN (x : UInt64) (h : x.toNat ≤ 9218868437227405312) : gX11_digits x 23 (-126) 127 = some (Int64.ofNat (bnn x.toNat)) := by
  unfold bnn
  by_cases hz : x.toNat = 0
  · rw [show x = 0 from UInt64.toNat.inj hz]; decide +kernel
  by_cases hi : x.toNat = 9218868437227405312
  · rw [show x = 9218868437227405312 from UInt64.toNat.inj hi]; decide +kernel
  rw [if_neg hi]
  have hf : x.toNat < 9218868437227405312 := by omega
  obtain ⟨c1, c2, c3⟩ := cj hf
  have em : (-126 : Int32).toInt = -126 := rfl
  obtain ⟨w, u, j', b1, b2, b3, b4, b5, b6⟩ := dg_fin x 23 (-126) 127 hz hf (by rw [em]; omega) (by rw [em]; omega)
  rw [b1]
  unfold gX11_digits_84 bsn
  rw [cv (fn_nn b2.1) nn1, l23]
  simp only [cq_ge, ge1 b2 c1 b3]
  rw [em] at b5 b6
  rcases b6 with ⟨k1, k2⟩ | ⟨k1, k2⟩
  · subst k2
    obtain ⟨f1, f2, f3⟩ := frac (p := 23) b2 k1 c1 (by decide) q_p23
    have e1 : (127 : Int32).toInt = 127 := rfl
    have e2 : (u + 127).toInt = ((jOf x.toNat - 895 : Nat) : Int) := by rw [i32_add] <;> rw [e1] <;> omega
    rw [if_pos (by omega), if_pos f1, if_pos f2, f3, i2l e2, show (23 : Int32) = Int32.ofNat 23 from rfl, shl _ _ (by decide), if_pos ⟨k1, by omega⟩]
    rw [or_add _ _ _ (by omega)]
  · obtain ⟨f1, f2⟩ := small_d2l (p := 23) b2 q_p23 c1 b3 (by decide) k1
    rw [if_neg (by omega), if_pos f1, f2, if_neg (by omega), show j' + 23 = jOf x.toNat + 149 by omega]
theorem toInt32_nat {m : Nat} (h : m < 2 ^ 31) : (Int64.ofNat m).toInt32 = Int32.ofNat m := by
  refine i_ext ?_
  rw [FP.Core.int64_toInt32] <;> rw [l_nat (by omega)] <;> omega
abbrev absv (x : UInt64) : UInt64 := if mi x = 0 then x else FP.dneg x
theorem absv_nat (x : UInt64) : (absv x).toNat = x.toNat % 2 ^ 63 := by
  have := x.toNat_lt
  unfold absv mi
  by_cases h : 2 ^ 63 ≤ x.toNat
  · rw [if_pos h, if_neg (by decide), dneg_nat, if_pos h]; omega
  · rw [if_neg h, if_pos rfl]; omega
-- |x| below 2^128, or infinite
abbrev nbd (nar : Int32) (x : UInt64) : Prop := nar = 0 ∨ x.toNat % 2 ^ 63 < 5183643171103440896 ∨ x.toNat % 2 ^ 63 = 9218868437227405312
theorem of_val (x : UInt64) (hx : NN x) (nar : Int32) : gX1_of x nar = some (if nar = 0 then (if mi x = 0 then Int64.ofNat (x.toNat % 2 ^ 63) else Int64.ofNat (x.toNat % 2 ^ 63) ||| (-9223372036854775808 : Int64)) else (if mi x = 0 then Int64.ofNat (bnn (x.toNat % 2 ^ 63)) else Int64.ofNat (bnn (x.toNat % 2 ^ 63)) ||| (-2147483648 : Int64))) := by
  have h1 := (nn_iff x).mp hx
  have hw : gX6_withSign x 0 = some (absv x) := by
    unfold gX6_withSign absv
    rw [c_minC x hx]; simp only [Option.bind_some]
    split <;> rfl
  have key : ∀ s0 : Int64, gX1_of_13 x nar s0 = gX1_of_37 x nar s0 (if nar = 0 then Int64.ofNat (x.toNat % 2 ^ 63) else Int64.ofNat (bnn (x.toNat % 2 ^ 63))) := by
    intro s0
    unfold gX1_of_13
    rw [c_infC x hx, hw]
    simp only [Option.bind_some]
    by_cases hi : x.toNat % 2 ^ 63 = 9218868437227405312
    · rw [show isI x = 1 from if_pos hi, if_neg (by decide), hi]
      unfold gX1_ofInfinite
      by_cases hn : nar = 0
      · rw [if_pos hn, if_pos hn]; rfl
      · rw [if_neg hn, if_neg hn]; rfl
    · rw [show isI x = 0 from if_neg hi, if_pos rfl]
      have hl : (absv x).toNat < 9218868437227405312 := by rw [absv_nat]; omega
      by_cases hn : nar = 0
      · subst hn; rw [bsC0 _ hl, absv_nat]; rfl
      · rw [bsC1 _ hl _ hn, absv_nat, if_neg hn]
        unfold bnn; rw [if_neg hi]; rfl
  unfold gX1_of
  rw [key, key]
  unfold gX1_of_37
  rw [c_minC x hx]
  simp only [Option.bind_some]
  by_cases hn : nar = 0
  · rw [if_pos hn, if_pos hn, if_pos hn]; split <;> rfl
  · rw [if_neg hn, if_neg hn, if_neg hn]; split <;> rfl
theorem bits_val (σ : MS) (x0 x1 : Int32) (τ : MS) (x : UInt64) (hx : NN x) (h0 : ix x0 12) (hb : nbd (m_narrow τ x0.toNatClampNeg) x) : ∃ r, gX1_of x (m_narrow τ x0.toNatClampNeg) = some r ∧ gX11_bits_50 σ x0 x1 τ x (absv x) = some (τ, r) := by
  have h1 := (nn_iff x).mp hx
  refine ⟨_, of_val x hx _, ?_⟩
  unfold gX11_bits_50
  rw [if_pos h0, c_minM x hx]
  generalize m_narrow τ x0.toNatClampNeg = nar at *
  rw [dgW _ (by rw [absv_nat]; omega), dgN _ (by rw [absv_nat]; omega), absv_nat]
  simp only [Option.bind_some]
  by_cases hn : nar = 0
  · rw [if_pos hn, if_pos hn]; split <;> rfl
  · rw [if_neg hn, if_neg hn]
    have hm : bnn (x.toNat % 2 ^ 63) < 2 ^ 31 := by
      unfold bnn
      split
      · decide
      · refine bsn_lt ?_
        rcases hb with hb | hb | hb
        · exact absurd hb hn
        · omega
        · omega
    rw [toInt32_nat hm]
    have hl : (Int32.ofNat (bnn (x.toNat % 2 ^ 63))).toInt64 = Int64.ofNat (bnn (x.toNat % 2 ^ 63)) := i2l (i_nat hm)
    rw [Int32.toInt64_or, hl]
    split <;> rfl
theorem of_zero (nar : Int32) : gX1_of 0 nar = some 0 := by
  rw [of_val 0 (by decide +kernel)]
  have h1 : mi 0 = 0 := by decide
  have h2 : bnn ((0 : UInt64).toNat % 2 ^ 63) = 0 := by decide +kernel
  rw [h1, h2]
  split <;> rfl
