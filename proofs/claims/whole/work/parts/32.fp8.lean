theorem fn_zv {a w : UInt64} (ha : NN a) (hw : FN w) (h : zv a = zv w) : FN a := by
  have := (zk ha (fn_nn hw)).2.mpr h
  rw [fn_dk] at hw ⊢
  rwa [this]
theorem nn_sub1 {w : UInt64} (hw : FN w) : NN (FP.dsub w FP.dconst1) := (sub_cmp hw q_1.1).1
-- (w - 1) * 2^p, w of [1, 2)
theorem frac {w P : UInt64} {c p : Nat} (hw : QQ w c 1022) (h1 : 2 ^ 52 ≤ c) (h2 : c < 2 ^ 53) (hp : p ≤ 52) (hP : QQ P 1 (1074 + p)) :
    NN (FP.dsub w FP.dconst1) ∧ NN (FP.dmul (FP.dsub w FP.dconst1) P) ∧ FP.d2l (FP.dmul (FP.dsub w FP.dconst1) P) = Int64.ofNat ((c - 2 ^ 52) / 2 ^ (52 - p)) := by
  obtain ⟨r, r1, r2, r3⟩ := rep false (c := c - 2 ^ 52) (j := 1022) (by omega) (by omega)
  have hr : QQ r (c - 2 ^ 52) 1022 := ⟨r1, r2, r3⟩
  have hn := nn_sub1 hw.1
  have e1 : zv (FP.dsub w FP.dconst1) = zv r := by
    refine sub_ex hw.1 q_1.1 r1 ?_
    rw [qq_zv hw, qq_zv q_1, qq_zv hr, Nat.one_mul, show 1074 = 52 + 1022 by decide, Nat.pow_add, Nat.mul_comm (2 ^ 52) (2 ^ 1022), Nat.mul_comm c, Nat.mul_comm (c - 2 ^ 52), Nat.mul_sub]
    have : 2 ^ 1022 * 2 ^ 52 ≤ 2 ^ 1022 * c := Nat.mul_le_mul_left _ h1
    generalize 2 ^ 1022 * 2 ^ 52 = a at *
    generalize 2 ^ 1022 * c = b at *
    omega
  have hf := fn_zv hn r1 e1
  rw [qq_zv hr] at e1
  obtain ⟨m1, m2⟩ := zv_mul hf e1 hP (c := c - 2 ^ 52) (j' := 1022 + p) (by omega) (by omega) (by
    rw [one_eq, Nat.mul_assoc, Nat.mul_assoc, ← Nat.pow_add, ← Nat.pow_add]; congr 2; omega)
  refine ⟨hn, fn_nn m1, ?_⟩
  have e2 : (c - 2 ^ 52) * 2 ^ (1022 + p) / one = (c - 2 ^ 52) / 2 ^ (52 - p) := by
    rw [one_eq, show 1074 = (52 - p) + (1022 + p) by omega, Nat.pow_add 2 (52 - p), Nat.mul_div_mul_right _ _ (Nat.two_pow_pos _)]
  rw [← e2]
  refine d2l_q m1 m2 ?_
  rw [e2]
  exact Nat.lt_of_le_of_lt (Nat.div_le_self _ _) (by omega)
theorem i2l {u : Int32} {n : Nat} (h : u.toInt = n) : u.toInt64 = Int64.ofNat n := by
  have := u.toInt_lt
  exact l_ext (by rw [Int32.toInt_toInt64, h])
theorem bs_big (x : UInt64) (x1 : Int32) (v5 : UInt64) {c j : Nat} (hx : QQ x c j) (hj : j ≤ 2045) (h1 : 2 ^ 52 ≤ c) (h2 : c < 2 ^ 53) :
    ∃ w u, lq4 (gX1_behindSign_52 x x1) 40 v5 x (0 : Int32) (0 : Int32) = gX1_behindSign_155 x x1 v5 w u ∧ QQ w c 1022 ∧ u.toInt = (j : Int) - 1022 := by
  have e0 : (0 : Int32).toInt = 0 := rfl
  obtain ⟨w1, u1, j1, a1, a2, a3, a4⟩ := bs1 x x1 v5 c h1 h2 31 40 j x 0 0 hx (by omega) hj (by rw [e0]; omega) (by rw [e0]; omega) (by omega) (by rw [e0]; omega) (by rw [e0]; omega)
  rw [e0] at a4
  obtain ⟨w2, u2, j2, b1, b2, b3, b4, b5⟩ := bs2 x x1 v5 c h1 h2 32 40 j1 w1 u1 0 a2 a3 (by omega) (by rw [e0]; omega) (by rw [e0]; omega) (by omega) (by omega) (by omega)
  obtain ⟨w3, u3, c1, c2, c3⟩ := bs3 x x1 v5 c h1 h2 (j2 - 1022) 40 w2 u2 0 (by rwa [show 1022 + (j2 - 1022) = j2 by omega]) (by rw [e0]; omega) (by rw [e0]; omega) (by omega) (by omega) (by omega)
  refine ⟨w3, u3, ?_, c2, by omega⟩
  rw [a1]; unfold gX1_behindSign_85; rw [b1]; unfold gX1_behindSign_119; rw [c1]
theorem bs_small {x v3 s0 : UInt64} {c j pm p : Nat} (hx : QQ x c j) (h2 : c < 2 ^ 53) (hv : QQ v3 1 pm) (hs : QQ s0 1 (1074 + p)) (hl : c * 2 ^ j < 2 ^ pm) (hp : p ≤ 52) (hpm : 52 ≤ pm) (hpm' : pm ≤ 1074) (hj : j ≤ pm) :
    NN (FP.ddiv x v3) ∧ NN (FP.dmul (FP.ddiv x v3) s0) ∧ FP.d2l (FP.dmul (FP.ddiv x v3) s0) = Int64.ofNat (c * 2 ^ (j + 1074 - pm + p) / one) := by
  obtain ⟨a1, a2, a3⟩ := div_ex hx.1 hv.1 (by rw [hv.2.2, Nat.one_mul]; have := Nat.two_pow_pos pm; omega) (c := c) (j := j + 1074 - pm) h2 (by omega) (by
    rw [hx.2.2, hv.2.2, one_eq, Nat.one_mul, Nat.mul_assoc, Nat.mul_assoc, ← Nat.pow_add, ← Nat.pow_add]; congr 2; omega)
  have hq : QQ (FP.ddiv x v3) c (j + 1074 - pm) := ⟨a1, by rw [a2, hx.2.1, hv.2.1]; rfl, a3⟩
  have hm := qq_mul hq hs h2 (j' := j + 1074 - pm + p) (by omega) ⟨Nat.mul_one c, by omega⟩
  refine ⟨fn_nn a1, fn_nn hm.1, d2l_q hm.1 (qq_zv hm) ?_⟩
  rw [one_eq, Nat.div_lt_iff_lt_mul (Nat.two_pow_pos _)]
  have : c * 2 ^ (j + 1074 - pm + p) = c * 2 ^ j * 2 ^ (1074 - pm + p) := by
    rw [Nat.mul_assoc, ← Nat.pow_add]; congr 2; omega
  rw [this]
  calc c * 2 ^ j * 2 ^ (1074 - pm + p) < 2 ^ pm * 2 ^ (1074 - pm + p) := Nat.mul_lt_mul_of_pos_right hl (Nat.two_pow_pos _)
    _ = 2 ^ (p + 1074) := by rw [← Nat.pow_add]; congr 1; omega
    _ ≤ 2 ^ (63 + 1074) := Nat.pow_le_pow_right (by decide) (by omega)
    _ = 2 ^ 63 * 2 ^ 1074 := Nat.pow_add ..
def bsn (n : Nat) : Nat := if 2 ^ 52 ≤ cOf n ∧ 896 ≤ jOf n then (jOf n - 895) * 2 ^ 23 + (cOf n - 2 ^ 52) / 2 ^ 29 else cOf n * 2 ^ (jOf n + 149) / one
theorem bsC0 (x : UInt64) (h : x.toNat < 9218868437227405312) : gX1_behindSign x 0 = some (Int64.ofNat x.toNat) := by
  obtain ⟨c1, c2, c3⟩ := cj h
  have hx := qq_of h
  unfold gX1_behindSign gX1_behindSign_13 gX1_behindSign_27
  rw [if_pos rfl, if_pos rfl, cv (fn_nn hx.1) (fn_nn q_m1022.1)]
  simp only [cq_ge]
  by_cases hn : x.toNat < 2 ^ 52
  · have hc : cOf x.toNat = x.toNat := by unfold cOf; rw [if_pos (by omega)]
    have hj : jOf x.toNat = 0 := by unfold jOf; omega
    rw [hc, hj] at hx
    have hl := (qq_lt hx q_m1022).mpr (by omega)
    rw [if_neg (by omega)]
    obtain ⟨b1, b2, b3⟩ := bs_small (p := 52) hx (by omega) q_m1022 q_p52 (by omega) (by decide) (by decide) (by decide) (by omega)
    rw [if_pos b1, if_pos b2, b3, one_eq, show 0 + 1074 - 52 + 52 = 1074 by decide, Nat.mul_div_cancel _ (Nat.two_pow_pos _)]
  · have hc : cOf x.toNat = 2 ^ 52 + x.toNat % 2 ^ 52 := by unfold cOf; rw [if_neg (by omega)]
    have hj : jOf x.toNat + 1 = x.toNat / 2 ^ 52 := by unfold jOf; omega
    have hl := (qq_lp 0 hx q_m1022 rfl (by omega) c1)
    rw [if_pos (by omega)]
    obtain ⟨w, u, a1, a2, a3⟩ := bs_big x 0 4841369599423283200 hx c2 (by omega) c1
    rw [a1]
    obtain ⟨f1, f2, f3⟩ := frac (p := 52) a2 (by omega) c1 (by decide) q_p52
    unfold gX1_behindSign_155 gX1_behindSign_169
    have e1 : (1023 : Int32).toInt = 1023 := rfl
    have e2 : (u + 1023).toInt = ((x.toNat / 2 ^ 52 : Nat) : Int) := by rw [i32_add] <;> rw [e1] <;> omega
    rw [if_pos rfl, if_pos f1, if_pos f2, if_pos rfl, f3, i2l e2, show (52 : Int32) = Int32.ofNat 52 from rfl, shl _ _ (by decide), ← Int64.ofNat_add]
    refine congrArg (fun n => some (Int64.ofNat n)) ?_
    rw [hc]
    have : (2 ^ 52 + x.toNat % 2 ^ 52 - 2 ^ 52) / 2 ^ (52 - 52) = x.toNat % 2 ^ 52 := by
      rw [Nat.sub_self, Nat.pow_zero, Nat.div_one]; omega
    rw [this]; omega
theorem bsC1 (x : UInt64) (h : x.toNat < 9218868437227405312) (x1 : Int32) (hx1 : ¬ x1 = 0) : gX1_behindSign x x1 = some (Int64.ofNat (bsn x.toNat)) := by
  obtain ⟨c1, c2, c3⟩ := cj h
  have hx := qq_of h
  unfold gX1_behindSign gX1_behindSign_13 gX1_behindSign_27
  rw [if_neg hx1, if_neg hx1, cv (fn_nn hx.1) (fn_nn q_m126.1)]
  simp only [cq_ge]
  unfold bsn
  by_cases hn : 2 ^ 52 ≤ cOf x.toNat ∧ 896 ≤ jOf x.toNat
  · have hl := (qq_lp 896 hx q_m126 rfl hn.1 c1)
    rw [if_pos (by omega), if_pos hn]
    obtain ⟨w, u, a1, a2, a3⟩ := bs_big x x1 4710765210229538816 hx c2 hn.1 c1
    rw [a1]
    obtain ⟨f1, f2, f3⟩ := frac (p := 23) a2 hn.1 c1 (by decide) q_p23
    unfold gX1_behindSign_155 gX1_behindSign_169
    have e1 : (127 : Int32).toInt = 127 := rfl
    have e2 : (u + 127).toInt = ((jOf x.toNat - 895 : Nat) : Int) := by rw [i32_add] <;> rw [e1] <;> omega
    rw [if_neg hx1, if_pos f1, if_pos f2, if_neg hx1, f3, i2l e2, show (23 : Int32) = Int32.ofNat 23 from rfl, shl _ _ (by decide), ← Int64.ofNat_add]
  · rw [if_neg hn]
    have hl : cOf x.toNat * 2 ^ jOf x.toNat < 2 ^ 948 := by
      rcases c3 with c3 | c3
      · have := (pw_lt (j := jOf x.toNat) (i := 896) c3 c1).mpr (by omega)
        rwa [Nat.one_mul] at this
      · rw [c3, Nat.pow_zero, Nat.mul_one]
        exact Nat.lt_trans c1 (Nat.pow_lt_pow_right (by decide) (by decide))
    have hl2 := (qq_lt hx q_m126).mpr (by rw [Nat.one_mul]; exact hl)
    rw [if_neg (by omega)]
    obtain ⟨b1, b2, b3⟩ := bs_small (p := 23) hx c1 q_m126 q_p23 hl (by decide) (by decide) (by decide) (by
      false_or_by_contra
      rcases c3 with c3 | c3 <;> omega)
    rw [if_pos b1, if_pos b2, b3, show jOf x.toNat + 1074 - 948 + 23 = jOf x.toNat + 149 by omega]
