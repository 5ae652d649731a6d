theorem one_eq : one = 2 ^ 1074 := by unfold one FP.Core.one64; rfl
theorem qn : FP.Core.b64.qmin = -1074 := FP.Core.qmin_b64
theorem qx : FP.Core.b64.qmax = 971 := by decide
theorem rr_ex {s : Bool} {A B c j : Nat} {e : Int} (hB : 0 < B) (hc : c < 2 ^ 53) (hj : j ≤ 2045)
    (h : A * 1 * 2 ^ (e - ((j : Int) - 1074)).toNat = c * B * 2 ^ (((j : Int) - 1074) - e).toNat) :
    ∃ c' q', FP.Core.roundRatio FP.Core.b64 s A B e = .fin s c' q' ∧ FP.Core.inUnits c' q' FP.Core.b64.qmin = c * 2 ^ j := by
  rw [FP.Core.roundRatio_congr (A' := c) (B' := 1) (e' := (j : Int) - 1074) hB (by decide) h]
  obtain ⟨c', q', h1, h2⟩ := FP.Core.round_exact FP.Core.good_b64 s (c := c) (q := (j : Int) - 1074) hc (by rw [qn]; omega) (by rw [qx]; omega)
  refine ⟨c', q', h1, ?_⟩
  rw [h2, qn]
  unfold FP.Core.inUnits
  rw [show ((j : Int) - 1074 - -1074).toNat = j by omega]
theorem pw_cancel {A c : Nat} {u w : Nat} (h : A * 2 ^ u = c * 2 ^ w) : A * 2 ^ (u - w) = c * 2 ^ (w - u) := by
  rcases Nat.le_total u w with hl | hl
  · rw [Nat.sub_eq_zero_of_le hl, Nat.pow_zero, Nat.mul_one]
    have : 2 ^ w = 2 ^ (w - u) * 2 ^ u := by rw [← Nat.pow_add]; congr 1; omega
    rw [this, ← Nat.mul_assoc] at h
    exact Nat.eq_of_mul_eq_mul_right (Nat.two_pow_pos u) h
  · rw [Nat.sub_eq_zero_of_le hl, Nat.pow_zero, Nat.mul_one]
    have : 2 ^ u = 2 ^ (u - w) * 2 ^ w := by rw [← Nat.pow_add]; congr 1; omega
    rw [this, ← Nat.mul_assoc] at h
    exact Nat.eq_of_mul_eq_mul_right (Nat.two_pow_pos w) h
theorem fin_mg {a : UInt64} {s : Bool} {c : Nat} {q : Int} (h : FP.Core.val64 a = .fin s c q) : sg a = s ∧ mg a = c * 2 ^ (q + 1074).toNat ∧ -1074 ≤ q := by
  have hf := FP.Core.val64_fits a
  rw [h] at hf
  have hq : FP.Core.b64.qmin ≤ q := hf.2.1
  rw [qn] at hq
  refine ⟨?_, ?_, hq⟩
  · show FP.Core.sgn (FP.Core.val64 a) = s; rw [h]; rfl
  · show FP.Core.zmag _ (FP.Core.val64 a) = _
    rw [h]
    show FP.Core.inUnits c q FP.Core.b64.qmin = _
    rw [qn]; unfold FP.Core.inUnits; rw [show q - -1074 = q + 1074 by omega]
theorem fin_mk {a : UInt64} {s : Bool} {c j : Nat} (h : ∃ c' q', FP.Core.val64 a = .fin s c' q' ∧ FP.Core.inUnits c' q' FP.Core.b64.qmin = c * 2 ^ j) : FN a ∧ sg a = s ∧ mg a = c * 2 ^ j := by
  obtain ⟨c', q', h1, h2⟩ := h
  refine ⟨⟨s, c', q', h1⟩, (fin_mg h1).1, ?_⟩
  show FP.Core.zmag _ (FP.Core.val64 a) = _
  rw [h1]; exact h2
theorem rep (s : Bool) {c j : Nat} (hc : c < 2 ^ 53) (hj : j ≤ 2045) : ∃ w : UInt64, FN w ∧ sg w = s ∧ mg w = c * 2 ^ j := by
  refine ⟨FP.Core.of64 (FP.Core.round FP.Core.b64 (.fin s c ((j : Int) - 1074))), fin_mk ?_⟩
  rw [FP.Core.val64_of64 (FP.Core.round_fits FP.Core.good_b64 _)]
  exact rr_ex (by decide) hc hj (by rw [Int.sub_self])
theorem mul_ex {a b : UInt64} (ha : FN a) (hb : FN b) {c j : Nat} (hc : c < 2 ^ 53) (hj : j ≤ 2045) (h : mg a * mg b = c * 2 ^ j * one) :
    FN (FP.dmul a b) ∧ sg (FP.dmul a b) = (sg a != sg b) ∧ mg (FP.dmul a b) = c * 2 ^ j := by
  obtain ⟨s, ca, qa, ea⟩ := ha
  obtain ⟨t, cb, qb, eb⟩ := hb
  obtain ⟨s1, m1, l1⟩ := fin_mg ea
  obtain ⟨s2, m2, l2⟩ := fin_mg eb
  refine s1 ▸ s2 ▸ fin_mk ?_
  rw [show FP.dmul a b = FP.Core.dmul a b from rfl, FP.Core.val64_dmul, ea, eb]
  refine rr_ex (s := s != t) (A := ca * cb) (B := 1) (e := qa + qb) (by decide) hc hj ?_
  rw [m1, m2, one_eq] at h
  have h' : (ca * cb) * 2 ^ ((qa + 1074).toNat + (qb + 1074).toNat) = c * 2 ^ (j + 1074) := by
    rw [Nat.pow_add, Nat.pow_add, Nat.mul_mul_mul_comm, h, Nat.mul_assoc]
  have := pw_cancel h'
  rw [Nat.mul_one, Nat.mul_one, show (qa + qb - ((j : Int) - 1074)).toNat = (qa + 1074).toNat + (qb + 1074).toNat - (j + 1074) by omega, show ((j : Int) - 1074 - (qa + qb)).toNat = (j + 1074) - ((qa + 1074).toNat + (qb + 1074).toNat) by omega]
  exact this
theorem div_ex {a b : UInt64} (ha : FN a) (hb : FN b) (hz : mg b ≠ 0) {c j : Nat} (hc : c < 2 ^ 53) (hj : j ≤ 2045) (h : mg a * one = c * 2 ^ j * mg b) :
    FN (FP.ddiv a b) ∧ sg (FP.ddiv a b) = (sg a != sg b) ∧ mg (FP.ddiv a b) = c * 2 ^ j := by
  obtain ⟨s, ca, qa, ea⟩ := ha
  obtain ⟨t, cb, qb, eb⟩ := hb
  obtain ⟨s1, m1, l1⟩ := fin_mg ea
  obtain ⟨s2, m2, l2⟩ := fin_mg eb
  have hcb : cb ≠ 0 := by rintro rfl; rw [m2, Nat.zero_mul] at hz; exact hz rfl
  refine s1 ▸ s2 ▸ fin_mk ?_
  rw [show FP.ddiv a b = FP.Core.ddiv a b from rfl, FP.Core.val64_ddiv, ea, eb]
  show ∃ c' q', (if cb = 0 then _ else _) = _ ∧ _
  rw [if_neg hcb]
  refine rr_ex (s := s != t) (A := ca) (B := cb) (e := qa - qb) (by omega) hc hj ?_
  rw [m1, m2, one_eq] at h
  have h' : ca * 2 ^ ((qa + 1074).toNat + 1074) = (c * cb) * 2 ^ (j + (qb + 1074).toNat) := by
    rw [Nat.pow_add, Nat.pow_add, ← Nat.mul_assoc, h, Nat.mul_mul_mul_comm]
  have := pw_cancel h'
  rw [Nat.mul_one, show (qa - qb - ((j : Int) - 1074)).toNat = (qa + 1074).toNat + 1074 - (j + (qb + 1074).toNat) by omega, show ((j : Int) - 1074 - (qa - qb)).toNat = (j + (qb + 1074).toNat) - ((qa + 1074).toNat + 1074) by omega]
  exact this
theorem sub_ex {x y w : UInt64} (hx : FN x) (hy : FN y) (hw : FN w) (h : zv x - zv y = zv w) : zv (FP.dsub x y) = zv w := by
  have hz : vl (FP.dsub x y) = FP.Core.round FP.Core.b64 (FP.Core.exactSum (vl x) (vl (FP.dneg y))) := by
    rw [dneg_vl]; exact FP.Core.val64_dsub x y
  have hfy : ∃ s c q, vl (FP.dneg y) = .fin s c q := dneg_fn hy
  have := dneg_zv y
  have a1 := FP.Core.sum_le FP.Core.good_b64 hx hfy (FP.Core.val64_fits _) (FP.Core.val64_fits _) (FP.Core.val64_fits w) (nn_val (fn_nn hw)) (by show zv x + zv (FP.dneg y) ≤ zv w; omega)
  have a2 := FP.Core.sum_ge FP.Core.good_b64 hx hfy (FP.Core.val64_fits _) (FP.Core.val64_fits _) (FP.Core.val64_fits w) (nn_val (fn_nn hw)) (by show zv w ≤ zv x + zv (FP.dneg y); omega)
  show FP.Core.zval FP.Core.b64 (vl (FP.dsub x y)) = _
  rw [hz]
  exact Int.le_antisymm a1 a2
def QQ (v : UInt64) (c j : Nat) : Prop := FN v ∧ sg v = false ∧ mg v = c * 2 ^ j
theorem qq_zv {v : UInt64} {c j : Nat} (h : QQ v c j) : zv v = ((c * 2 ^ j : Nat) : Int) := by
  rw [zv_def, h.2.1, h.2.2]; rfl
theorem qq_lt {v w : UInt64} {c j d i : Nat} (h : QQ v c j) (g : QQ w d i) : dk v < dk w ↔ c * 2 ^ j < d * 2 ^ i := by
  rw [(zk (fn_nn h.1) (fn_nn g.1)).1, qq_zv h, qq_zv g, Int.ofNat_lt]
theorem qq_inj {v w : UInt64} {c j d i : Nat} (h : QQ v c j) (g : QQ w d i) (e : c * 2 ^ j = d * 2 ^ i) : v = w :=
  mg_inj (fn_nn h.1) (fn_nn g.1) (by rw [h.2.1, g.2.1]) (by rw [h.2.2, g.2.2, e])
theorem qq_mul {v P : UInt64} {c j d i c' j' : Nat} (h : QQ v c j) (g : QQ P d i) (hc : c' < 2 ^ 53) (hj : j' ≤ 2045) (e : c * d = c' ∧ j + i = j' + 1074) : QQ (FP.dmul v P) c' j' := by
  obtain ⟨a1, a2, a3⟩ := mul_ex h.1 g.1 (c := c') (j := j') hc hj (by
    rw [h.2.2, g.2.2, one_eq, Nat.mul_mul_mul_comm, ← Nat.pow_add, e.1, e.2, Nat.pow_add, Nat.mul_assoc])
  exact ⟨a1, by rw [a2, h.2.1, g.2.1]; rfl, a3⟩
theorem qq_mk {v : UInt64} {c j : Nat} (h1 : v.toNat % 2 ^ 63 < 9218868437227405312) (h2 : v.toNat < 2 ^ 63) (h3 : mg v = c * 2 ^ j) : QQ v c j := by
  have hf := (fn_iff v).mpr h1
  refine ⟨hf, ?_, h3⟩
  rw [sg_iff (fn_nn hf)]; exact decide_eq_false (by omega)
theorem q_1 : QQ FP.dconst1 1 1074 := qq_mk (by decide) (by decide) (by decide +kernel)
theorem q_2 : QQ 4611686018427387904 1 1075 := qq_mk (by decide) (by decide) (by decide +kernel)
theorem q_half : QQ 4602678819172646912 1 1073 := qq_mk (by decide) (by decide) (by decide +kernel)
theorem q_p32 : QQ 4751297606875873280 1 1106 := qq_mk (by decide) (by decide) (by decide +kernel)
theorem q_m32 : QQ 4463067230724161536 1 1042 := qq_mk (by decide) (by decide) (by decide +kernel)
theorem q_p52 : QQ 4841369599423283200 1 1126 := qq_mk (by decide) (by decide) (by decide +kernel)
theorem q_p23 : QQ 4710765210229538816 1 1097 := qq_mk (by decide) (by decide) (by decide +kernel)
theorem q_m1022 : QQ 4503599627370496 1 52 := qq_mk (by decide) (by decide) (by decide +kernel)
theorem q_m126 : QQ 4039728865751334912 1 948 := qq_mk (by decide) (by decide) (by decide +kernel)
theorem q_0 : QQ FP.dconst0 0 0 := qq_mk (by decide) (by decide) (by decide +kernel)
-- a positive number's digits and power
def cOf (n : Nat) : Nat := if n / 2 ^ 52 = 0 then n else 2 ^ 52 + n % 2 ^ 52
def jOf (n : Nat) : Nat := n / 2 ^ 52 - 1
theorem qq_of {v : UInt64} (h : v.toNat < 9218868437227405312) : QQ v (cOf v.toNat) (jOf v.toNat) := by
  refine qq_mk (by omega) (by omega) ?_
  rw [mg_units ((nn_iff v).mpr (by omega)), Nat.mod_eq_of_lt (by omega)]
  unfold FP.Core.unitsOf cOf jOf
  rw [FP.Core.tails_b64]
  by_cases h1 : v.toNat < 2 ^ 52
  · rw [if_pos h1, if_pos (by omega), show v.toNat / 2 ^ 52 - 1 = 0 by omega, Nat.pow_zero, Nat.mul_one]
  · rw [if_neg h1, if_neg (by omega)]
theorem cj {n : Nat} (h : n < 9218868437227405312) : cOf n < 2 ^ 53 ∧ jOf n ≤ 2045 ∧ (2 ^ 52 ≤ cOf n ∨ jOf n = 0) := by
  unfold cOf jOf
  refine ⟨?_, by omega, ?_⟩ <;> split <;> omega
theorem pw_lt {c j i : Nat} (h1 : 2 ^ 52 ≤ c) (h2 : c < 2 ^ 53) : c * 2 ^ j < 1 * 2 ^ (i + 52) ↔ j < i := by
  rw [Nat.one_mul]
  constructor
  · intro h
    false_or_by_contra
    have : 2 ^ (i + 52) ≤ c * 2 ^ j := by
      rw [Nat.pow_add, Nat.mul_comm]
      exact Nat.mul_le_mul h1 (Nat.pow_le_pow_right (by decide) (by omega))
    omega
  · intro h
    calc c * 2 ^ j < 2 ^ 53 * 2 ^ j := Nat.mul_lt_mul_of_pos_right h2 (Nat.two_pow_pos _)
      _ = 2 ^ (53 + j) := (Nat.pow_add ..).symm
      _ ≤ 2 ^ (i + 52) := Nat.pow_le_pow_right (by decide) (by omega)
