abbrev vl (a : UInt64) : FP.Core.Datum := FP.Core.val64 a
abbrev zv (a : UInt64) : Int := FP.Core.zval FP.Core.b64 (FP.Core.val64 a)
abbrev mg (a : UInt64) : Nat := FP.Core.zmag FP.Core.b64 (FP.Core.val64 a)
abbrev sg (a : UInt64) : Bool := FP.Core.sgn (FP.Core.val64 a)
abbrev one : Nat := FP.Core.one64
abbrev FN (a : UInt64) : Prop := FP.Core.DFin a
theorem zv_def (a : UInt64) : zv a = FP.Core.signed (sg a) (mg a) := rfl
theorem fn_nn {a : UInt64} (h : FN a) : NN a := h.notNaN
theorem fn_iff (a : UInt64) : FN a ↔ a.toNat % 2 ^ 63 < 9218868437227405312 := FP.Core.fin_bits a
theorem fn_dk {a : UInt64} : FN a ↔ -9218868437227405312 < dk a ∧ dk a < 9218868437227405312 := by
  rw [fn_iff, dk_eq]
  have := a.toNat_lt
  split <;> omega
theorem zk {a b : UInt64} (ha : NN a) (hb : NN b) : (dk a < dk b ↔ zv a < zv b) ∧ (dk a = dk b ↔ zv a = zv b) := by
  have h1 := FP.Core.dcmp_key (nn_val ha) (nn_val hb)
  have h2 := FP.Core.dcmp_zval (nn_val ha) (nn_val hb)
  rw [h1, Option.some.injEq] at h2
  refine ⟨?_, ?_⟩
  · rw [← FP.Core.compare_lt_iff (dk a), ← FP.Core.compare_lt_iff (zv a), ← h2]
  · rw [← FP.Core.compare_eq_iff (dk a), ← FP.Core.compare_eq_iff (zv a), ← h2]
theorem dneg_nat (a : UInt64) : (FP.dneg a).toNat = if 2 ^ 63 ≤ a.toNat then a.toNat - 2 ^ 63 else a.toNat + 2 ^ 63 := by
  have ha := a.toNat_lt
  have hx : (FP.dneg a).toNat = a.toNat ^^^ 2 ^ 63 := by
    rw [FP.dneg_xor, UInt64.toNat_xor]; rfl
  obtain ⟨h1, h2⟩ := FP.xor_top (a := a.toNat) (k := 63) (by omega)
  rw [hx]
  split
  · exact h2 (by omega)
  · exact h1 (by omega)
theorem dneg_dk (a : UInt64) : dk (FP.dneg a) = -dk a := by
  have ha := a.toNat_lt
  rw [dk_eq, dk_eq, dneg_nat]
  split <;> split <;> omega
theorem dneg_nn {a : UInt64} (h : NN a) : NN (FP.dneg a) := by
  have ha := a.toNat_lt
  rw [nn_iff] at h ⊢
  rw [dneg_nat]
  split <;> omega
theorem dneg_fn {a : UInt64} (h : FN a) : FN (FP.dneg a) := by
  have ha := a.toNat_lt
  rw [fn_iff] at h ⊢
  rw [dneg_nat]
  split <;> omega
theorem dneg_dneg (a : UInt64) : FP.dneg (FP.dneg a) = a := by
  have ha := a.toNat_lt
  refine UInt64.toNat.inj ?_
  rw [dneg_nat, dneg_nat]
  split <;> split <;> omega
theorem dneg_vl (a : UInt64) : vl (FP.dneg a) = FP.Core.negate (vl a) := FP.val64_dneg a
theorem dneg_zv (a : UInt64) : zv (FP.dneg a) = -zv a := by
  show FP.Core.zval _ (FP.Core.val64 (FP.dneg a)) = _
  rw [FP.val64_dneg, FP.Core.zval_negate]
theorem dneg_mg (a : UInt64) : mg (FP.dneg a) = mg a := by
  show FP.Core.zmag _ (FP.Core.val64 (FP.dneg a)) = FP.Core.zmag _ (FP.Core.val64 a)
  rw [FP.val64_dneg]; cases FP.Core.val64 a <;> rfl
theorem sg_iff {a : UInt64} (h : NN a) : sg a = decide (2 ^ 63 ≤ a.toNat) := FP.Core.sgn_bits (nn_val h)
theorem mg_units {a : UInt64} (h : NN a) : mg a = FP.Core.unitsOf FP.Core.b64 (a.toNat % 2 ^ 63) := FP.Core.zmag_bits (nn_val h)
theorem mg_inj {a b : UInt64} (ha : NN a) (hb : NN b) (hs : sg a = sg b) (hm : mg a = mg b) : a = b := by
  rw [mg_units ha, mg_units hb] at hm
  rw [sg_iff ha, sg_iff hb] at hs
  have h1 := a.toNat_lt
  have h2 := b.toNat_lt
  have h3 : a.toNat % 2 ^ 63 = b.toNat % 2 ^ 63 := by
    rcases Nat.lt_trichotomy (a.toNat % 2 ^ 63) (b.toNat % 2 ^ 63) with h | h | h
    · have := FP.Core.unitsOf_lt (f := FP.Core.b64) h; omega
    · exact h
    · have := FP.Core.unitsOf_lt (f := FP.Core.b64) h; omega
  refine UInt64.toNat.inj ?_
  have h4 : (2 ^ 63 ≤ a.toNat) ↔ (2 ^ 63 ≤ b.toNat) := by
    have := hs
    by_cases c1 : 2 ^ 63 ≤ a.toNat <;> by_cases c2 : 2 ^ 63 ≤ b.toNat <;> simp [c1, c2] at this ⊢
  omega
theorem zv0 : zv FP.dconst0 = 0 := by decide +kernel
theorem zv_one : zv 1 = 1 := by decide +kernel
theorem fn0 : FN FP.dconst0 := (fn_iff _).mpr (by decide)
theorem sub_cmp {x y : UInt64} (hx : FN x) (hy : FN y) : NN (FP.dsub x y) ∧ (0 < dk (FP.dsub x y) ↔ dk y < dk x) ∧ (dk (FP.dsub x y) < 0 ↔ dk x < dk y) := by
  have hn : NN (FP.dsub x y) := FP.Core.dsub_out (fn_nn hx) hy
  have hny : NN (FP.dneg y) := dneg_nn (fn_nn hy)
  have hz : vl (FP.dsub x y) = FP.Core.round FP.Core.b64 (FP.Core.exactSum (vl x) (vl (FP.dneg y))) := by
    rw [dneg_vl]; exact FP.Core.val64_dsub x y
  have hfy : ∃ s c q, vl (FP.dneg y) = .fin s c q := dneg_fn hy
  have key1 : ∀ V : UInt64, NN V → zv x - zv y ≤ zv V → zv (FP.dsub x y) ≤ zv V := by
    intro V hV h
    show FP.Core.zval FP.Core.b64 (vl (FP.dsub x y)) ≤ _
    rw [hz]
    refine FP.Core.sum_le FP.Core.good_b64 hx hfy (FP.Core.val64_fits _) (FP.Core.val64_fits _) (FP.Core.val64_fits _) (nn_val hV) ?_
    have := dneg_zv y
    show zv x + zv (FP.dneg y) ≤ zv V
    omega
  have key2 : ∀ V : UInt64, NN V → zv V ≤ zv x - zv y → zv V ≤ zv (FP.dsub x y) := by
    intro V hV h
    show _ ≤ FP.Core.zval FP.Core.b64 (vl (FP.dsub x y))
    rw [hz]
    refine FP.Core.sum_ge FP.Core.good_b64 hx hfy (FP.Core.val64_fits _) (FP.Core.val64_fits _) (FP.Core.val64_fits _) (nn_val hV) ?_
    have := dneg_zv y
    show zv V ≤ zv x + zv (FP.dneg y)
    omega
  have k0 := zk hn nn0
  have k0' := zk nn0 hn
  have kxy := zk (fn_nn hx) (fn_nn hy)
  have kyx := zk (fn_nn hy) (fn_nn hx)
  rw [dk0, zv0] at k0 k0'
  have n1 : NN 1 := by decide +kernel
  have n1' : NN (FP.dneg 1) := dneg_nn n1
  have a1 := key1 FP.dconst0 nn0
  have a2 := key2 FP.dconst0 nn0
  have a3 := key2 1 n1
  have a4 := key1 (FP.dneg 1) n1'
  rw [zv0] at a1 a2
  rw [zv_one] at a3
  rw [dneg_zv, zv_one] at a4
  refine ⟨hn, ?_, ?_⟩
  · rw [k0'.1, kyx.1]; constructor
    · intro h; false_or_by_contra; have := a1 (by omega); omega
    · intro h; have := a3 (by omega); omega
  · rw [k0.1, kxy.1]; constructor
    · intro h; false_or_by_contra; have := a2 (by omega); omega
    · intro h; have := a4 (by omega); omega
theorem zv_52 : zv 4841369599423283200 = ((2 ^ 52 : Nat) : Int) * (one : Int) := by decide +kernel
theorem one_pos : 0 < one := FP.Core.one64_pos
-- truncation
theorem mg_small {x : UInt64} (hx : NN x) (h1 : -4841369599423283200 < dk x) (h2 : dk x < 4841369599423283200) : FN x ∧ mg x < 2 ^ 52 * one := by
  refine ⟨fn_dk.mpr ⟨by omega, by omega⟩, ?_⟩
  have e1 := (zk hx nn_52).1
  have e2 := (zk (dneg_nn nn_52) hx).1
  rw [dneg_dk, dneg_zv, zv_52] at e2
  rw [zv_52] at e1
  rw [dk_52] at e1 e2
  have f1 := e1.mp h2
  have f2 := e2.mp h1
  rw [zv_def] at f1 f2
  unfold FP.Core.signed at f1 f2
  cases hs : sg x <;> rw [hs] at f1 f2 <;> simp only [if_true, if_false, Bool.false_eq_true] at f1 f2 <;> omega
theorem d2l_tr {x : UInt64} (hx : NN x) (h1 : -4841369599423283200 < dk x) (h2 : dk x < 4841369599423283200) :
    (FP.d2l x).toInt = FP.Core.signed (sg x) (mg x / one) ∧ mg x / one < 2 ^ 52 := by
  have hm := (mg_small hx h1 h2).2
  have hd : mg x / one < 2 ^ 52 := (Nat.div_lt_iff_lt_mul one_pos).mpr hm
  refine ⟨?_, hd⟩
  have := FP.Core.d2l_val (nn_val hx)
  rw [show FP.d2l x = FP.Core.d2l x from rfl, this]
  show max _ (min _ (FP.Core.signed (sg x) (mg x / one))) = _
  generalize mg x / one = m at *
  unfold FP.Core.signed
  split <;> omega

theorem d2l_neg {x : UInt64} (hx : NN x) (h1 : -4841369599423283200 < dk x) (h2 : dk x < 4841369599423283200) :
    FP.d2l (FP.dneg x) = -FP.d2l x := by
  obtain ⟨a1, a2⟩ := d2l_tr hx h1 h2
  obtain ⟨b1, b2⟩ := d2l_tr (dneg_nn hx) (by rw [dneg_dk]; omega) (by rw [dneg_dk]; omega)
  have hs : sg (FP.dneg x) = !sg x := by
    show FP.Core.sgn (FP.Core.val64 (FP.dneg x)) = !FP.Core.sgn (FP.Core.val64 x)
    rw [FP.val64_dneg]; cases hv : FP.Core.val64 x
    · exact absurd hv (nn_val hx)
    · rfl
    · rfl
  rw [dneg_mg, hs, FP.Core.signed_not, ← a1] at b1
  refine Int64.toInt.inj ?_
  rw [b1, FP.Core.int64_neg]
  rw [a1]; generalize mg x / one = m at *; unfold FP.Core.signed; split <;> omega
theorem l2d_dk0 (v : Int64) : dk (FP.l2d v) = 0 ↔ v = 0 := by
  constructor
  · intro h
    false_or_by_contra
    rename_i hv
    have := FP.Core.l2d_ne_zero hv
    rcases dz h with h | h <;> (rw [show FP.l2d v = FP.Core.l2d v from rfl] at h; rw [h] at this; exact this (by decide))
  · rintro rfl; decide +kernel
theorem l2d_neg' {v : Int64} (h : v ≠ 0) (h1 : -2 ^ 63 < v.toInt) : FP.l2d (-v) = FP.dneg (FP.l2d v) := by
  rw [FP.dneg_core (FP.Core.l2d_notNaN v)]
  exact FP.Core.l2d_neg h h1
theorem l2d_ndk {v : Int64} (h1 : -2 ^ 63 < v.toInt) : dk (FP.l2d (-v)) = -dk (FP.l2d v) := by
  by_cases h : v = 0
  · subst h; decide +kernel
  · rw [l2d_neg' h h1, dneg_dk]
theorem l2d_zv {v : Int64} (h1 : -9007199254740992 < v.toInt) (h2 : v.toInt < 9007199254740992) : zv (FP.l2d v) = v.toInt * (one : Int) :=
  FP.Core.DInt_zval (FP.Core.l2d_whole ⟨h1, h2⟩)
theorem l2d_nn (v : Int64) : NN (FP.l2d v) := FP.Core.l2d_notNaN v
theorem l2d_fn (v : Int64) : FN (FP.l2d v) := FP.Core.l2d_fin v
theorem l2d_sub1 {v : Int64} (h1 : -9007199254740992 < v.toInt) (h2 : v.toInt < 9007199254740992) : FP.dsub (FP.l2d v) FP.dconst1 = FP.l2d (v - 1) := by
  rw [show FP.dconst1 = FP.l2d 1 by decide +kernel]
  exact FP.Core.dsub_l2d ⟨h1, h2⟩ ⟨by decide, by decide⟩
-- the zero with x's sign, or the whole number v
def zl (x : UInt64) (v : Int64) : UInt64 := if v = 0 then (if 2 ^ 63 ≤ x.toNat then 9223372036854775808 else 0) else FP.l2d v
theorem zl_nn (x : UInt64) (v : Int64) : NN (zl x v) := by
  unfold zl; split
  · split <;> decide +kernel
  · exact l2d_nn v
theorem zl_neg {x : UInt64} {v : Int64} (h1 : -2 ^ 63 < v.toInt) : FP.dneg (zl (FP.dneg x) (-v)) = zl x v := by
  unfold zl
  have hx := x.toNat_lt
  by_cases h : v = 0
  · subst h
    rw [if_pos (by decide), if_pos rfl, dneg_nat]
    split <;> (repeat' split) <;> first | omega | decide +kernel
  · have h' : -v ≠ 0 := by
      intro hc
      apply h
      have := congrArg Int64.toInt hc
      rw [FP.Core.int64_neg h1] at this
      refine Int64.toInt.inj ?_
      have e0 : (0 : Int64).toInt = 0 := rfl
      rw [e0] at this ⊢
      omega
    rw [if_neg h, if_neg h', l2d_neg' h h1, dneg_dneg]
theorem mul0 {x : UInt64} (hx : FN x) : FP.dmul x FP.dconst0 = if 2 ^ 63 ≤ x.toNat then 9223372036854775808 else 0 := by
  obtain ⟨s, c, q, h⟩ := hx
  have hs := sg_iff (fn_nn ⟨s, c, q, h⟩)
  have hv : FP.Core.val64 (FP.dmul x FP.dconst0) = .fin s 0 FP.Core.b64.qmin := by
    rw [show FP.dmul x FP.dconst0 = FP.Core.dmul x FP.Core.dconst0 from rfl, FP.Core.val64_dmul, h, FP.Core.val64_dconst0]
    show FP.Core.roundRatio FP.Core.b64 (s != false) (c * 0) 1 _ = _
    unfold FP.Core.roundRatio
    rw [if_pos (Nat.mul_zero c), Bool.bne_false]
  have hs' : s = decide (2 ^ 63 ≤ x.toNat) := by
    rw [← hs]; show s = FP.Core.sgn (FP.Core.val64 x); rw [h]; rfl
  refine FP.Core.val64_inj (by rw [hv]; exact FP.Core.Datum.noConfusion) ?_
  rw [hv, hs']
  split
  · rename_i h1; simp only [h1, decide_true]; exact FP.Core.val64_dzeroNeg.symm
  · rename_i h1; simp only [h1, decide_false]; exact FP.Core.val64_zero.symm
