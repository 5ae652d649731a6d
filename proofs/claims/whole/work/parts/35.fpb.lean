-- the remainder
theorem wd (n : Nat) (h : n < 2 ^ 63) : gX1_wideDigits (Int64.ofNat n) = some (Int64.ofNat (cOf n)) := by
  unfold gX1_wideDigits cOf
  simp only [and52, lgc1]
  by_cases hn : n / 2 ^ 52 = 0
  · have : n % 2 ^ 52 = n := Nat.mod_eq_of_lt (by omega)
    rw [this, if_pos rfl, if_pos hn]
  · rw [if_neg hn, if_neg, show (4503599627370496 : Int64) = Int64.ofNat (2 ^ 52) from rfl, ← Int64.ofNat_add, Nat.add_comm]
    intro hc
    have := congrArg Int64.toInt hc
    rw [l_nat h, l_nat (by omega)] at this
    omega
theorem wp (n : Nat) (h : n < 2 ^ 63) : gX1_widePower (Int64.ofNat n) = some (Int32.ofInt ((jOf n : Int) - 1074)) := by
  unfold gX1_widePower jOf
  rw [shr52 n h, toInt32_nat (by omega)]
  have e1 : (Int32.ofNat (n / 2 ^ 52)).toInt = ((n / 2 ^ 52 : Nat) : Int) := i_nat (by omega)
  by_cases hn : n / 2 ^ 52 = 0
  · rw [hn]; rfl
  · rw [if_neg (by intro hc; have := congrArg Int32.toInt hc; rw [e1] at this; exact hn (by have e0 : (0 : Int32).toInt = 0 := rfl; omega))]
    refine congrArg some (Int32.toInt.inj ?_)
    have a1 : (1023 : Int32).toInt = 1023 := rfl
    have a2 : (52 : Int32).toInt = 52 := rfl
    have b1 : (Int32.ofNat (n / 2 ^ 52) - 1023).toInt = ((n / 2 ^ 52 : Nat) : Int) - 1023 := by rw [i32_sub] <;> rw [e1, a1] <;> omega
    rw [i32_sub (by rw [b1, a2]; omega) (by rw [b1, a2]; omega), b1, a2, Int32.toInt_ofInt_of_le (by omega) (by omega)]
    omega
theorem ldiv (a b : Nat) (ha : a < 2 ^ 63) (hb : b < 2 ^ 63) (h0 : b ≠ 0) : Int64.ofNat a - Int64.ofNat a / Int64.ofNat b * Int64.ofNat b = Int64.ofNat (a % b) := by
  have hd : Int64.ofNat a / Int64.ofNat b = Int64.ofNat (a / b) := by
    refine l_ext ?_
    rw [Int64.toInt_div_of_ne_right, l_nat ha, l_nat hb]
    · exact (Int.ofNat_tdiv a b).symm
    · intro hc
      have := congrArg Int64.toInt hc
      rw [l_nat hb] at this
      have e : (-1 : Int64).toInt = -1 := rfl
      rw [e] at this; omega
  rw [hd]
  refine l_ext ?_
  have h1 : a / b * b ≤ a := Nat.div_mul_le_self a b
  have h2 : a / b ≤ a := Nat.div_le_self a b
  have e1 : (Int64.ofNat (a / b) * Int64.ofNat b).toInt = ((a / b * b : Nat) : Int) := by
    rw [← Int64.ofNat_mul, l_nat (by omega)]
  rw [FP.Core.int64_sub] <;> rw [l_nat ha, e1]
  · have := Nat.div_add_mod a b
    rw [Nat.mul_comm] at this
    omega
  · omega
  · omega
theorem rem_loop (x0 x1 : UInt64) (c2 : Nat) (hc0 : c2 ≠ 0) (hc : c2 < 2 ^ 53) (v14 : Int32) : ∀ (k f a : Nat) (v17 : Int32), a < c2 → v17.toInt ≤ 10 * k → -10 ≤ v17.toInt → v17.toInt ≤ 2100 → k < f →
    lq4 (gX6_remainder_97 x0 x1) f (Int64.ofNat c2) v14 (Int64.ofNat a) v17 = (gX6_twoTo v14).bind (fun r7 => if FP.dIsNaN (FP.dmul (FP.l2d (Int64.ofNat (a * 2 ^ v17.toInt.toNat % c2))) r7) = false then (if 0 ≤ (Op.cmpValue (FP.dcmp x0 FP.dconst0) CmpOp.g) then (some (FP.dmul (FP.l2d (Int64.ofNat (a * 2 ^ v17.toInt.toNat % c2))) r7)) else (some (FP.dneg (FP.dmul (FP.l2d (Int64.ofNat (a * 2 ^ v17.toInt.toNat % c2))) r7)))) else none) := by
  intro k
  have fin : ∀ (f a : Nat) (v17 : Int32), a < c2 → v17.toInt ≤ 0 → 0 < f →
    lq4 (gX6_remainder_97 x0 x1) f (Int64.ofNat c2) v14 (Int64.ofNat a) v17 = (gX6_twoTo v14).bind (fun r7 => if FP.dIsNaN (FP.dmul (FP.l2d (Int64.ofNat (a * 2 ^ v17.toInt.toNat % c2))) r7) = false then (if 0 ≤ (Op.cmpValue (FP.dcmp x0 FP.dconst0) CmpOp.g) then (some (FP.dmul (FP.l2d (Int64.ofNat (a * 2 ^ v17.toInt.toNat % c2))) r7)) else (some (FP.dneg (FP.dmul (FP.l2d (Int64.ofNat (a * 2 ^ v17.toInt.toNat % c2))) r7)))) else none) := by
    intro f a v17 ha h1 hf
    obtain ⟨f, rfl⟩ : ∃ g, f = g + 1 := ⟨f - 1, by omega⟩
    show gX6_remainder_97 x0 x1 _ _ _ _ _ = _
    unfold gX6_remainder_97
    rw [if_pos (show v17 ≤ 0 from i32_le.mpr h1), show v17.toInt.toNat = 0 by omega, Nat.pow_zero, Nat.mul_one, Nat.mod_eq_of_lt ha]
  induction k with
  | zero =>
    intro f a v17 ha h1 h2 h3 hf
    exact fin f a v17 ha (by omega) hf
  | succ k ih =>
    intro f a v17 ha h1 h2 h3 hf
    by_cases h0 : v17.toInt ≤ 0
    · exact fin f a v17 ha h0 (by omega)
    obtain ⟨f, rfl⟩ : ∃ g, f = g + 1 := ⟨f - 1, by omega⟩
    have em : (-10 : Int32).toInt = -10 := rfl
    have e10 : (10 : Int32).toInt = 10 := rfl
    have e17 : (v17 + -10).toInt = v17.toInt - 10 := by rw [i32_add] <;> rw [em] <;> omega
    obtain ⟨st, hst, hs1, hs2⟩ : ∃ st : Nat, (if (10 : Int32) < v17 then (10 : Int32) else v17) = Int32.ofNat st ∧ st ≤ 10 ∧ st + (v17.toInt - 10).toNat = v17.toInt.toNat := by
      by_cases h : (10 : Int32) < v17
      · rw [if_pos h]; rw [i32_lt, e10] at h; exact ⟨10, rfl, by omega, by omega⟩
      · rw [if_neg h]; rw [i32_lt, e10] at h; exact ⟨v17.toInt.toNat, i_ext (by omega), by omega, by omega⟩
    have hb : a * 2 ^ st < 2 ^ 63 := by
      calc a * 2 ^ st < 2 ^ 53 * 2 ^ st := Nat.mul_lt_mul_of_pos_right (by omega) (Nat.two_pow_pos _)
        _ ≤ 2 ^ 53 * 2 ^ 10 := Nat.mul_le_mul_left _ (Nat.pow_le_pow_right (by decide) hs1)
        _ = 2 ^ 63 := by decide
    have hm : a * 2 ^ st % c2 < c2 := Nat.mod_lt _ (by omega)
    have := ih f (a * 2 ^ st % c2) (v17 + -10) hm (by omega) (by omega) (by omega) (by omega)
    show gX6_remainder_97 x0 x1 (lq4 (gX6_remainder_97 x0 x1) f) _ _ _ _ = _
    generalize lq4 (gX6_remainder_97 x0 x1) f = K at this ⊢
    unfold gX6_remainder_97
    rw [if_neg (show ¬ v17 ≤ 0 by rw [i32_le]; exact h0), if_pos (by intro hc'; have := congrArg Int64.toInt hc'; rw [l_nat (by omega)] at this; have e0 : (0 : Int64).toInt = 0 := rfl; omega), hst, shl _ _ (by omega), ldiv _ _ hb (by omega) hc0, this, e17]
    have e : a * 2 ^ st % c2 * 2 ^ (v17.toInt - 10).toNat % c2 = a * 2 ^ v17.toInt.toNat % c2 := by
      rw [← hs2, Nat.pow_add, ← Nat.mul_assoc, Nat.mod_mul_mod]
    rw [e]
theorem lgc_gt (x y : Int64) : 0 < lg_cmp x y ↔ y < x := by
  unfold lg_cmp
  by_cases h : x > y
  · rw [if_pos h]; exact ⟨fun _ => h, fun _ => by decide⟩
  · rw [if_neg h]
    constructor
    · intro h'
      split at h' <;> exact absurd h' (by decide)
    · intro h'; exact absurd h' h
theorem l2d_qq {R : Nat} (h : R < 2 ^ 53) : QQ (FP.l2d (Int64.ofNat R)) R 1074 := by
  have e := l_nat (n := R) (by omega)
  have hz := l2d_zv (v := Int64.ofNat R) (by omega) (by omega)
  have hf := l2d_fn (Int64.ofNat R)
  obtain ⟨c, q, hs⟩ := FP.Core.l2d_shape (Int64.ofNat R)
  have hsg : sg (FP.l2d (Int64.ofNat R)) = false := by
    show FP.Core.sgn (FP.Core.val64 (FP.Core.l2d (Int64.ofNat R))) = _
    rw [hs, e]; show decide ((R : Int) < 0) = false; exact decide_eq_false (by omega)
  refine ⟨hf, hsg, ?_⟩
  rw [zv_def, hsg, e, one_eq] at hz
  have hc : ((R * 2 ^ 1074 : Nat) : Int) = (R : Int) * ((2 ^ 1074 : Nat) : Int) := Int.natCast_mul _ _
  rw [← hc] at hz
  exact Int.ofNat.inj hz
theorem dneg_sg {x : UInt64} (hx : NN x) : sg (FP.dneg x) = !sg x := by
  show FP.Core.sgn (FP.Core.val64 (FP.dneg x)) = !FP.Core.sgn (FP.Core.val64 x)
  rw [FP.val64_dneg]; cases hv : FP.Core.val64 x
  · exact absurd hv (nn_val hx)
  · rfl
  · rfl
theorem mgz {x : UInt64} (hx : NN x) : mg x = 0 ↔ dk x = 0 := by
  have k := zk hx nn0
  rw [dk0, zv0] at k
  rw [k.2, zv_def, FP.Core.signed_eq_zero]
theorem sg_dk {x : UInt64} (hx : NN x) (h : dk x ≠ 0) : sg x = decide (dk x < 0) := by
  rw [sg_iff hx]
  have := x.toNat_lt
  rw [dk_eq] at h ⊢
  split at h <;> (rename_i h1; simp [h1] <;> omega)
abbrev ab (x : UInt64) : UInt64 := if 0 ≤ dk x then x else FP.dneg x
theorem ab_zv {x : UInt64} (hx : NN x) : NN (ab x) ∧ zv (ab x) = (mg x : Int) ∧ 0 ≤ dk (ab x) ∧ mg (ab x) = mg x := by
  have k := zk hx nn0
  have k' := zk nn0 hx
  rw [dk0, zv0] at k k'
  have hz := zv_def x
  unfold ab
  split
  · rename_i h
    refine ⟨hx, ?_, h, rfl⟩
    have h1 : 0 ≤ zv x := by false_or_by_contra; have := k.1.mpr (by omega); omega
    cases hs : sg x <;> rw [hs] at hz <;> simp only [FP.Core.signed, if_true, if_false, Bool.false_eq_true] at hz <;> omega
  · rename_i h
    have h1 : zv x < 0 := k.1.mp (by omega)
    refine ⟨dneg_nn hx, ?_, by rw [dneg_dk]; omega, dneg_mg x⟩
    rw [dneg_zv]
    cases hs : sg x <;> rw [hs] at hz <;> simp only [FP.Core.signed, if_true, if_false, Bool.false_eq_true] at hz <;> omega
theorem remC (x y : UInt64) (hx : FN x) (hy : NN y) (h0 : dk y ≠ 0) : gX6_remainder x y = some (FP.drem x y) ∧ NN (FP.drem x y) ∧ mg (FP.drem x y) ≤ mg x := by
  have hxn := fn_nn hx
  have hmy : mg y ≠ 0 := fun h => h0 ((mgz hy).mp h)
  have hnz : ¬ FP.Core.DZero y := by
    rw [FP.Core.zero_bits2]
    intro h
    apply h0
    rw [dk_eq]
    have := y.toNat_lt
    split <;> omega
  obtain ⟨d1, d2, d3⟩ := FP.Core.drem_zval hx (nn_val hy) hnz
  have hdn : NN (FP.drem x y) := nn_of d1
  have d3' : mg (FP.drem x y) = mg x % mg y := d3
  have d2' : sg (FP.drem x y) = sg x := d2
  refine ⟨?_, hdn, by rw [d3']; exact Nat.mod_le _ _⟩
  obtain ⟨a1, a2, a3, a4⟩ := ab_zv hxn
  obtain ⟨b1, b2, b3, b4⟩ := ab_zv hy
  have e0 : gX6_remainder x y = gX6_remainder_26 x y (ab x) (ab y) := by
    unfold gX6_remainder gX6_remainder_12 ab
    rw [cv hxn nn0, cv hy nn0]
    simp only [cq_ge, dk0]
    split <;> split <;> rfl
  rw [e0]
  unfold gX6_remainder_26
  rw [cv a1 b1]
  simp only [cq_ge]
  have kab := zk a1 b1
  rw [a2, b2] at kab
  by_cases hlt : dk (ab x) < dk (ab y)
  · rw [if_neg (by omega)]
    have : mg x < mg y := by have := kab.1.mp hlt; omega
    refine congrArg some (mg_inj hxn hdn d2'.symm ?_)
    rw [d3', Nat.mod_eq_of_lt this]
  · rw [if_pos (by omega)]
    have hge : mg y ≤ mg x := by
      false_or_by_contra
      have := kab.1.mpr (by omega)
      omega
    have hbpos : 0 < dk (ab y) := by
      rcases Int.lt_or_eq_of_le b3 with h | h
      · exact h
      · exact absurd ((mgz b1).mpr h.symm) (by rw [b4]; exact hmy)
    have hafn : FN (ab x) := by unfold ab; split; exact hx; exact dneg_fn hx
    have han : (ab x).toNat < 9218868437227405312 := by
      have h1 := (fn_iff _).mp hafn
      have h2 := (ab x).toNat_lt
      have h3 := dk_eq (ab x)
      split at h3 <;> omega
    have hbn : (ab y).toNat < 9218868437227405312 := by
      have h1 := (fn_dk (a := ab x)).mp hafn
      have h2 := (ab y).toNat_lt
      have h3 := dk_eq (ab y)
      split at h3 <;> omega
    have qa := qq_of han
    have qb := qq_of hbn
    obtain ⟨ca, ja, la⟩ := cj han
    obtain ⟨cb, jb, lb⟩ := cj hbn
    have ma := qa.2.2
    have mb := qb.2.2
    rw [a4] at ma
    rw [b4] at mb
    rw [bsC0 _ han, bsC0 _ hbn]
    simp only [Option.bind_some]
    rw [wd _ (by omega)]
    simp only [Option.bind_some]
    rw [wp _ (by omega), wd _ (by omega), wp _ (by omega)]
    simp only [Option.bind_some]
    generalize cOf (ab x).toNat = c1 at *
    generalize cOf (ab y).toNat = c2 at *
    generalize jOf (ab x).toNat = j1 at *
    generalize jOf (ab y).toNat = j2 at *
    have hc2 : c2 ≠ 0 := by rintro rfl; rw [Nat.zero_mul] at mb; exact hmy mb
    have hj : j2 ≤ j1 := by
      false_or_by_contra
      have hj' : j1 < j2 := by omega
      have h52 : 2 ^ 52 ≤ c2 := by omega
      have h1 : c1 * 2 ^ j1 < c2 * 2 ^ j2 := by
        calc c1 * 2 ^ j1 < 2 ^ 53 * 2 ^ j1 := Nat.mul_lt_mul_of_pos_right ca (Nat.two_pow_pos _)
          _ = 2 ^ 52 * 2 ^ (j1 + 1) := by rw [Nat.pow_succ 2 j1, Nat.mul_comm (2 ^ j1), ← Nat.mul_assoc]
          _ ≤ c2 * 2 ^ j2 := Nat.mul_le_mul h52 (Nat.pow_le_pow_right (by decide) hj')
      omega
    have z0 : (0 : Int64).toInt = 0 := rfl
    rw [if_pos (by rw [lgc_gt, i64_lt, l_nat (by omega), z0]; omega), if_pos (by intro hc'; have := congrArg Int64.toInt hc'; rw [l_nat (by omega), z0] at this; omega), ldiv _ _ (by omega) (by omega) hc2]
    have ed : (Int32.ofInt ((j1 : Int) - 1074) - Int32.ofInt ((j2 : Int) - 1074)).toInt = (j1 : Int) - j2 := by
      have u1 : (Int32.ofInt ((j1 : Int) - 1074)).toInt = (j1 : Int) - 1074 := Int32.toInt_ofInt_of_le (by omega) (by omega)
      have u2 : (Int32.ofInt ((j2 : Int) - 1074)).toInt = (j2 : Int) - 1074 := Int32.toInt_ofInt_of_le (by omega) (by omega)
      rw [i32_sub] <;> rw [u1, u2] <;> omega
    rw [rem_loop x y c2 hc2 cb _ 205 300 (c1 % c2) _ (Nat.mod_lt _ (by omega)) (by rw [ed]; omega) (by rw [ed]; omega) (by rw [ed]; omega) (by decide), ed, show ((j1 : Int) - j2).toNat = j1 - j2 by omega, Nat.mod_mul_mod]
    have hR : c1 * 2 ^ (j1 - j2) % c2 < c2 := Nat.mod_lt _ (by omega)
    obtain ⟨P, p1, p2⟩ := tt ((j2 : Int) - 1074) (by omega) (by omega)
    rw [show ((j2 : Int) - 1074 + 1074).toNat = j2 by omega] at p2
    rw [p1]
    simp only [Option.bind_some]
    have hmR : (c1 * 2 ^ (j1 - j2) % c2) * 2 ^ j2 = mg x % mg y := by
      rw [ma, mb, ← Nat.mul_mod_mul_right, Nat.mul_assoc, ← Nat.pow_add, Nat.sub_add_cancel hj]
    generalize c1 * 2 ^ (j1 - j2) % c2 = R at *
    have hq := qq_mul (l2d_qq (R := R) (by omega)) p2 (c' := R) (j' := j2) (by omega) (by omega) ⟨Nat.mul_one R, by omega⟩
    rw [if_pos (fn_nn hq.1), cv hxn nn0]
    simp only [cq_ge, dk0]
    have hx0 : dk x ≠ 0 := by
      intro h
      have := (mgz hxn).mpr h
      omega
    have hsx := sg_dk hxn hx0
    split
    · rename_i hp
      refine congrArg some (mg_inj (fn_nn hq.1) hdn ?_ ?_)
      · rw [hq.2.1, d2', hsx, decide_eq_false (by omega)]
      · rw [hq.2.2, hmR, d3']
    · rename_i hp
      refine congrArg some (mg_inj (dneg_nn (fn_nn hq.1)) hdn ?_ ?_)
      · rw [dneg_sg (fn_nn hq.1), hq.2.1, d2', hsx, decide_eq_true (by omega)]; rfl
      · rw [dneg_mg, hq.2.2, hmR, d3']
theorem rem_inf (x y : UInt64) (hx : FN x) (hy : isI y ≠ 0) : FP.drem x y = x := by
  unfold isI at hy
  have hi : y.toNat % 2 ^ 63 = 9218868437227405312 := by
    false_or_by_contra
    rename_i h
    rw [if_neg h] at hy
    exact hy rfl
  have hyn : NN y := (nn_iff y).mpr (by omega)
  have h0 : dk y ≠ 0 := by rw [dk_eq]; split <;> omega
  obtain ⟨_, r2, _⟩ := remC x y hx hyn h0
  have hnz : ¬ FP.Core.DZero y := by rw [FP.Core.zero_bits2]; omega
  obtain ⟨d1, d2, d3⟩ := FP.Core.drem_zval hx (nn_val hyn) hnz
  refine mg_inj r2 (fn_nn hx) d2 ?_
  show FP.Core.zmag _ _ = _
  rw [show FP.Core.val64 (FP.drem x y) = FP.Core.val64 (FP.Core.drem x y) from rfl, d3]
  refine Nat.mod_eq_of_lt ?_
  have a1 := mg_units (fn_nn hx)
  have a2 := mg_units hyn
  show mg x < mg y
  rw [a1, a2, FP.Core.unitsOf_lt_iff, hi]
  exact (fn_iff x).mp hx
