theorem i32_add {a b : Int32} (h : -2 ^ 31 ≤ a.toInt + b.toInt) (h' : a.toInt + b.toInt < 2 ^ 31) : (a + b).toInt = a.toInt + b.toInt := by
  rw [Int32.toInt_add]; exact Int.bmod_eq_of_le (by omega) (by omega)
theorem i32_sub {a b : Int32} (h : -2 ^ 31 ≤ a.toInt - b.toInt) (h' : a.toInt - b.toInt < 2 ^ 31) : (a - b).toInt = a.toInt - b.toInt := by
  rw [Int32.toInt_sub]; exact Int.bmod_eq_of_le (by omega) (by omega)
theorem i32_mul {a b : Int32} (h : -2 ^ 31 ≤ a.toInt * b.toInt) (h' : a.toInt * b.toInt < 2 ^ 31) : (a * b).toInt = a.toInt * b.toInt := by
  rw [Int32.toInt_mul]; exact Int.bmod_eq_of_le (by omega) (by omega)
theorem i32_le {a b : Int32} : a ≤ b ↔ a.toInt ≤ b.toInt := Int32.le_iff_toInt_le
theorem i32_lt {a b : Int32} : a < b ↔ a.toInt < b.toInt := Int32.lt_iff_toInt_lt
theorem i32_eq {a b : Int32} : a = b ↔ a.toInt = b.toInt := ⟨fun h => by rw [h], fun h => Int32.toInt.inj h⟩
theorem i64_le {a b : Int64} : a ≤ b ↔ a.toInt ≤ b.toInt := Int64.le_iff_toInt_le
theorem i64_lt {a b : Int64} : a < b ↔ a.toInt < b.toInt := Int64.lt_iff_toInt_lt
theorem l_nat {n : Nat} (h : n < 2 ^ 63) : (Int64.ofNat n).toInt = n := by
  rw [show Int64.ofNat n = Int64.ofInt n from rfl, Int64.toInt_ofInt_of_le (by omega) (by omega)]
theorem i_nat {n : Nat} (h : n < 2 ^ 31) : (Int32.ofNat n).toInt = n := by
  rw [show Int32.ofNat n = Int32.ofInt n from rfl, Int32.toInt_ofInt_of_le (by omega) (by omega)]
theorem l_ext {a : Int64} {n : Nat} (h : a.toInt = n) : a = Int64.ofNat n := by
  have := a.toInt_lt
  exact Int64.toInt.inj (by rw [h, l_nat (by omega)])
theorem i_ext {a : Int32} {n : Nat} (h : a.toInt = n) : a = Int32.ofNat n := by
  have := a.toInt_lt
  exact Int32.toInt.inj (by rw [h, i_nat (by omega)])
theorem sh_a : ∀ k : Fin 64, ((Int32.ofNat k.val).toInt64 &&& 63) = Int64.ofNat k.val := by decide +kernel
theorem sh_b : ∀ k : Fin 64, ((Int64.ofNat k.val).toBitVec.smod 64) = BitVec.ofNat 64 k.val := by decide +kernel
theorem l_bv {n : Nat} : (Int64.ofNat n).toBitVec = BitVec.ofNat 64 n := rfl
theorem shl (a k : Nat) (hk : k < 64) : Int64.ofNat a <<< ((Int32.ofNat k).toInt64 &&& 63) = Int64.ofNat (a * 2 ^ k) := by
  rw [sh_a ⟨k, hk⟩]
  show Int64.ofUInt64 ⟨(Int64.ofNat a).toBitVec <<< ((Int64.ofNat k).toBitVec.smod 64)⟩ = Int64.ofUInt64 ⟨BitVec.ofNat 64 (a * 2 ^ k)⟩
  rw [sh_b ⟨k, hk⟩]
  congr 2
  refine BitVec.eq_of_toNat_eq ?_
  rw [BitVec.shiftLeft_eq', BitVec.toNat_shiftLeft, l_bv, BitVec.toNat_ofNat, BitVec.toNat_ofNat, BitVec.toNat_ofNat, Nat.mod_eq_of_lt (show k < 2 ^ 64 by omega), Nat.shiftLeft_eq, Nat.mod_mul_mod]
theorem shr52 (n : Nat) (h : n < 2 ^ 63) : (Int64.ofNat n >>> ((52 : Int32).toInt64 &&& 63)) = Int64.ofNat (n / 2 ^ 52) := by
  rw [show ((52 : Int32).toInt64 &&& 63) = Int64.ofNat 52 from sh_a ⟨52, by decide⟩]
  show Int64.ofUInt64 ⟨(Int64.ofNat n).toBitVec.sshiftRight' ((Int64.ofNat 52).toBitVec.smod 64)⟩ = Int64.ofUInt64 ⟨BitVec.ofNat 64 (n / 2 ^ 52)⟩
  rw [sh_b ⟨52, by decide⟩]
  congr 2
  have hm : (Int64.ofNat n).toBitVec.msb = false := by
    rw [l_bv, BitVec.msb_eq_false_iff_two_mul_lt, BitVec.toNat_ofNat, Nat.mod_eq_of_lt (by omega)]; omega
  rw [BitVec.sshiftRight_eq', BitVec.sshiftRight_eq_of_msb_false hm]
  refine BitVec.eq_of_toNat_eq ?_
  rw [BitVec.toNat_ushiftRight, l_bv, BitVec.toNat_ofNat, BitVec.toNat_ofNat, BitVec.toNat_ofNat, Nat.mod_eq_of_lt (show n < 2 ^ 64 by omega), Nat.shiftRight_eq_div_pow]
  show n / 2 ^ 52 = n / 2 ^ 52 % 2 ^ 64
  rw [Nat.mod_eq_of_lt]; omega
theorem and52 (n : Nat) : (Int64.ofNat n &&& (4503599627370495 : Int64)) = Int64.ofNat (n % 2 ^ 52) := by
  show Int64.ofUInt64 ⟨(Int64.ofNat n).toBitVec &&& BitVec.ofNat 64 4503599627370495⟩ = Int64.ofUInt64 ⟨BitVec.ofNat 64 (n % 2 ^ 52)⟩
  congr 2
  refine BitVec.eq_of_toNat_eq ?_
  rw [BitVec.toNat_and, l_bv, BitVec.toNat_ofNat, BitVec.toNat_ofNat, BitVec.toNat_ofNat]
  rw [show 4503599627370495 % 2 ^ 64 = 2 ^ 52 - 1 by decide, Nat.and_two_pow_sub_one_eq_mod]
  omega
theorem or_add (a b k : Nat) (h : b < 2 ^ k) : (Int64.ofNat (a * 2 ^ k) ||| Int64.ofNat b) = Int64.ofNat (a * 2 ^ k + b) := by
  show Int64.ofUInt64 ⟨BitVec.ofNat 64 (a * 2 ^ k) ||| BitVec.ofNat 64 b⟩ = Int64.ofUInt64 ⟨BitVec.ofNat 64 (a * 2 ^ k + b)⟩
  congr 2
  refine BitVec.eq_of_toNat_eq ?_
  rw [BitVec.toNat_or, BitVec.toNat_ofNat, BitVec.toNat_ofNat, BitVec.toNat_ofNat, ← Nat.or_mod_two_pow]
  congr 1
  rw [Nat.mul_comm, Nat.two_pow_add_eq_or_of_lt h]
theorem d2l_q {y : UInt64} {m : Nat} (hy : FN y) (h : zv y = (m : Int)) (hm : m / one < 2 ^ 63) : FP.d2l y = Int64.ofNat (m / one) := by
  refine l_ext ?_
  rw [show FP.d2l y = FP.Core.d2l y from rfl, FP.Core.d2l_val (nn_val (fn_nn hy))]
  rw [zv_def] at h
  have : FP.Core.signed (sg y) (mg y / one) = ((m / one : Nat) : Int) := by
    cases hs : sg y <;> rw [hs] at h <;> simp only [FP.Core.signed, if_true, if_false, Bool.false_eq_true] at h ⊢
    · rw [show mg y = m by omega]
    · rw [show mg y = 0 by omega, show m = 0 by omega]; simp
  rw [this]
  generalize m / one = k at *
  omega
theorem zv_mul {a P : UInt64} {m c i j' : Nat} (ha : FN a) (hz : zv a = (m : Int)) (hP : QQ P 1 i) (hc : c < 2 ^ 53) (hj : j' ≤ 2045) (h : m * 2 ^ i = c * 2 ^ j' * one) : FN (FP.dmul a P) ∧ zv (FP.dmul a P) = ((c * 2 ^ j' : Nat) : Int) := by
  rw [zv_def] at hz
  have hm : mg a = m := by
    cases hs : sg a <;> rw [hs] at hz <;> simp only [FP.Core.signed, if_true, if_false, Bool.false_eq_true] at hz <;> omega
  obtain ⟨a1, a2, a3⟩ := mul_ex ha hP.1 (c := c) (j := j') hc hj (by rw [hm, hP.2.2, Nat.one_mul, h])
  refine ⟨a1, ?_⟩
  rw [zv_def, a2, a3, hP.2.1, Bool.bne_false]
  cases hs : sg a <;> rw [hs] at hz <;> simp only [FP.Core.signed, if_true, if_false, Bool.false_eq_true] at hz ⊢
  have h0 : m = 0 := by omega
  rw [h0, Nat.zero_mul] at h
  have : c * 2 ^ j' = 0 := by
    rcases Nat.mul_eq_zero.mp h.symm with h | h
    · exact h
    · exact absurd h (by have := one_pos; omega)
  rw [this]; rfl
