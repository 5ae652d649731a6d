theorem lgc0 (v : Int64) : (lg_cmp v (0 : Int64)) = 0 ↔ v = 0 := by
  unfold lg_cmp
  by_cases h : v = 0
  · subst h; decide
  · constructor
    · intro h'
      split at h'
      · exact absurd h' (by decide)
      · first | (rw [if_neg h] at h'; exact absurd h' (by decide)) | exact absurd h' (by decide)
    · intro h'; exact absurd h' h
theorem lgc1 (v w : Int64) : (lg_cmp v w) = 0 ↔ v = w := by
  unfold lg_cmp
  by_cases h : v = w
  · subst h; rw [if_neg (by exact (Int64.lt_irrefl)), if_pos rfl]; simp
  · constructor
    · intro h'
      split at h'
      · exact absurd h' (by decide)
      · first | (rw [if_neg h] at h'; exact absurd h' (by decide)) | exact absurd h' (by decide)
    · intro h'; exact absurd h' h
-- the whole numbers below |2^52|
abbrev Sm (x : UInt64) : Prop := -4841369599423283200 < dk x ∧ dk x < 4841369599423283200
theorem sm_neg {x : UInt64} (h : Sm x) : Sm (FP.dneg x) := by
  unfold Sm at *; rw [dneg_dk]; omega
theorem sm_l {x : UInt64} (hx : NN x) (h : Sm x) : -4503599627370496 < (FP.d2l x).toInt ∧ (FP.d2l x).toInt < 4503599627370496 ∧ (0 ≤ dk x → dk (FP.l2d (FP.d2l x)) ≤ dk x ∧ 0 ≤ (FP.d2l x).toInt) ∧ (dk x ≤ 0 → dk x ≤ dk (FP.l2d (FP.d2l x)) ∧ (FP.d2l x).toInt ≤ 0) := by
  obtain ⟨a1, a2⟩ := d2l_tr hx h.1 h.2
  have b1 : -4503599627370496 < (FP.d2l x).toInt ∧ (FP.d2l x).toInt < 4503599627370496 := by
    rw [a1]; generalize mg x / one = m at *; unfold FP.Core.signed; split <;> omega
  have e := l2d_zv (v := FP.d2l x) (by omega) (by omega)
  have k1 := zk (l2d_nn (FP.d2l x)) hx
  have k2 := zk hx (l2d_nn (FP.d2l x))
  have k3 := zk hx nn0
  have k4 := zk nn0 hx
  rw [dk0, zv0] at k3 k4
  have hq : mg x / one * one ≤ mg x := Nat.div_mul_le_self _ _
  have hz := zv_def x
  refine ⟨b1.1, b1.2, ?_, ?_⟩
  · intro h0
    have h0' : 0 ≤ zv x := by
      false_or_by_contra; have := k3.1.mpr (by omega); omega
    rw [hz] at h0'
    rw [e, a1] at k2
    rw [a1]
    generalize mg x / one = m at *
    have hc : ((m * one : Nat) : Int) = (m : Int) * (one : Int) := Int.natCast_mul _ _
    cases hs : sg x <;> rw [hs] at h0' k2 hz <;> simp only [FP.Core.signed, if_true, if_false, Bool.false_eq_true] at h0' k2 hz ⊢
    · refine ⟨?_, by omega⟩
      false_or_by_contra
      have := k2.1.mp (by omega)
      omega
    · have hm0 : mg x = 0 := by omega
      have hm : m * one = 0 := by omega
      have hm' : m = 0 := by rcases Nat.mul_eq_zero.mp hm with h | h; exact h; exact absurd h (by have := one_pos; omega)
      subst hm'
      refine ⟨?_, by omega⟩
      false_or_by_contra
      have := k2.1.mp (by omega)
      simp at this
      omega
  · intro h0
    have h0' : zv x ≤ 0 := by
      false_or_by_contra; have := k4.1.mpr (by omega); omega
    rw [hz] at h0'
    rw [e, a1] at k1
    rw [a1]
    generalize mg x / one = m at *
    have hc : ((m * one : Nat) : Int) = (m : Int) * (one : Int) := Int.natCast_mul _ _
    cases hs : sg x <;> rw [hs] at h0' k1 hz <;> simp only [FP.Core.signed, if_true, if_false, Bool.false_eq_true] at h0' k1 hz ⊢
    · have hm0 : mg x = 0 := by omega
      have hm : m * one = 0 := by omega
      have hm' : m = 0 := by rcases Nat.mul_eq_zero.mp hm with h | h; exact h; exact absurd h (by have := one_pos; omega)
      subst hm'
      refine ⟨?_, by omega⟩
      false_or_by_contra
      have := k1.1.mp (by omega)
      simp at this
      omega
    · refine ⟨?_, by omega⟩
      false_or_by_contra
      have := k1.1.mp (by omega)
      rw [Int.neg_mul] at this
      omega
def flo (x : UInt64) : UInt64 := if Sm x then zl x (if dk (FP.l2d (FP.d2l x)) ≤ dk x then FP.d2l x else FP.d2l x - 1) else x
def cei (x : UInt64) : UInt64 := if Sm x then zl x (if dk x ≤ dk (FP.l2d (FP.d2l x)) then FP.d2l x else FP.d2l x + 1) else x
theorem sure (x : UInt64) (hx : NN x) : gX6_isSurelyWhole x = some (if Sm x then 0 else 1) := by
  unfold gX6_isSurelyWhole
  rw [cv hx nn_52, cv hx nn_n52]
  simp only [cq_ge, cq_gt, dk_52, dk_n52]
  (repeat' split) <;> first | rfl | omega
theorem t53 {v : Int64} (h : -4503599627370496 < v.toInt ∧ v.toInt < 4503599627370496) : (v - 1).toInt = v.toInt - 1 ∧ (v + 1).toInt = v.toInt + 1 ∧ (-v).toInt = -v.toInt := by
  have e1 : (1 : Int64).toInt = 1 := rfl
  refine ⟨?_, ?_, ?_⟩
  · rw [FP.Core.int64_sub] <;> rw [e1] <;> omega
  · rw [FP.Core.int64_add] <;> rw [e1] <;> omega
  · exact FP.Core.int64_neg (by omega)
theorem zeroL {x : UInt64} (hx : FN x) : gX6_zeroLike x = some (zl x 0) := by
  unfold gX6_zeroLike zl
  rw [mul0 hx, if_pos rfl]
  split <;> (rw [if_pos (by decide +kernel)])
theorem floC (x : UInt64) (hx : NN x) : gX6_floor x = some (flo x) := by
  unfold gX6_floor flo
  rw [sure x hx]
  simp only [Option.bind_some]
  by_cases h : Sm x
  · obtain ⟨a1, a2, a3, a4⟩ := sm_l hx h
    have hf := (mg_small hx h.1 h.2).1
    rw [if_pos h, if_pos rfl, if_pos h]
    rw [cv (l2d_nn _) hx]
    simp only [cq_le]
    have fl : ∀ v : Int64, gX6_floor_23 x (FP.l2d v) = some (zl x v) := by
      intro v
      unfold gX6_floor_23
      rw [cv (l2d_nn _) nn0]
      simp only [cq_eq, dk0, l2d_dk0]
      rw [zeroL hf]
      by_cases hv : v = 0
      · subst hv; rfl
      · rw [if_neg hv]; unfold zl; rw [if_neg hv]
    rw [l2d_sub1 (by omega) (by omega)]
    split
    · exact fl _
    · rw [if_pos (l2d_nn _)]; exact fl _
  · rw [if_neg h, if_neg (by decide), if_neg h]
theorem mz {x : UInt64} {m : Int32} (hx : NN x) (v : Int64) : gX11_whole_147 x m v = some (zl x v) := by
  unfold gX11_whole_147 zl
  simp only [lgc0]
  by_cases hv : v = 0
  · subst hv
    rw [if_pos rfl, if_pos rfl, c_minM x hx]
    unfold mi gX11_zero
    simp only [Option.bind_some]
    split <;> rfl
  · rw [if_neg hv, if_neg hv]
theorem whole_big {x : UInt64} {m : Int32} (hx : NN x) (h : ¬ Sm x) : gX11_whole x m = some x := by
  unfold gX11_whole
  rw [cv hx nn_52, cv hx nn_n52]
  simp only [cq_ge, cq_gt, dk_52, dk_n52]
  by_cases h1 : (4841369599423283200 : Int) ≤ dk x
  · rw [if_pos h1]
  · rw [if_neg h1, if_neg (by intro h2; exact h ⟨h2, by omega⟩)]
theorem whole_sm {x : UInt64} {m : Int32} (hx : NN x) (h : Sm x) : gX11_whole x m = (if m = 0 then (if dk (FP.l2d (FP.d2l x)) ≤ dk x then some (zl x (FP.d2l x - 0)) else some (zl x (FP.d2l x - 1))) else if m = 1 then (if dk x ≤ dk (FP.l2d (FP.d2l x)) then some (zl x (FP.d2l x + 0)) else some (zl x (FP.d2l x + 1))) else gX11_whole_85 x m (FP.d2l x) (FP.dsub x (FP.l2d (FP.d2l x))) (if FP.d2l x &&& 1 = 1 then 1 else 0)) := by
  have hf := (mg_small hx h.1 h.2).1
  obtain ⟨s1, s2, s3⟩ := sub_cmp hf (l2d_fn (FP.d2l x))
  unfold gX11_whole
  rw [cv hx nn_52, cv hx nn_n52, cv s1 nn0, cv s1 nn0]
  simp only [cq_ge, cq_gt, cq_le, dk_52, dk_n52, dk0, lgc1]
  rw [if_neg (by have := h.2; omega), if_pos h.1, if_pos s1]
  have e1 : (0 ≤ dk (FP.dsub x (FP.l2d (FP.d2l x)))) ↔ dk (FP.l2d (FP.d2l x)) ≤ dk x := by omega
  have e2 : (dk (FP.dsub x (FP.l2d (FP.d2l x))) ≤ 0) ↔ dk x ≤ dk (FP.l2d (FP.d2l x)) := by omega
  simp only [e1, e2]
  unfold gX11_whole_44 gX11_whole_67
  simp only [mz hx]
  split
  · rfl
  · split
    · rfl
    · split <;> rfl
theorem floM (x : UInt64) (hx : NN x) : gX11_whole x 0 = some (flo x) := by
  unfold flo
  by_cases h : Sm x
  · rw [whole_sm hx h, if_pos rfl, if_pos h]
    split
    · rw [Int64.sub_zero]
    · rfl
  · rw [whole_big hx h, if_neg h]
theorem ceiM (x : UInt64) (hx : NN x) : gX11_whole x 1 = some (cei x) := by
  unfold cei
  by_cases h : Sm x
  · rw [whole_sm hx h, if_neg (by decide), if_pos rfl, if_pos h]
    split
    · rw [Int64.add_zero]
    · rfl
  · rw [whole_big hx h, if_neg h]
theorem ceiC (x : UInt64) (hx : NN x) : FP.dneg (flo (FP.dneg x)) = cei x := by
  unfold flo cei
  by_cases h : Sm x
  · obtain ⟨a1, a2, a3, a4⟩ := sm_l hx h
    obtain ⟨t1, t2, t3⟩ := t53 ⟨a1, a2⟩
    rw [if_pos h, if_pos (sm_neg h), d2l_neg hx h.1 h.2, l2d_ndk (by omega), dneg_dk]
    by_cases h2 : dk x ≤ dk (FP.l2d (FP.d2l x))
    · rw [if_pos h2, if_pos (by omega), zl_neg (by omega)]
    · rw [if_neg h2, if_neg (by omega)]
      rw [show -FP.d2l x - 1 = -(FP.d2l x + 1) by rw [Int64.neg_add, Int64.sub_eq_add_neg], zl_neg (by omega)]
  · rw [if_neg h, if_neg (fun h' => h (by have := sm_neg h'; rwa [dneg_dneg] at this)), dneg_dneg]

def nea (x : UInt64) : UInt64 := if Sm x then zl x (
    if 4602678819172646912 < dk (FP.dsub x (FP.l2d (FP.d2l x))) ∨ (dk (FP.dsub x (FP.l2d (FP.d2l x))) = 4602678819172646912 ∧ FP.d2l x &&& 1 = 1) then FP.d2l x + 1
    else if dk (FP.dsub x (FP.l2d (FP.d2l x))) < -4602678819172646912 ∨ (dk (FP.dsub x (FP.l2d (FP.d2l x))) = -4602678819172646912 ∧ FP.d2l x &&& 1 = 1) then FP.d2l x - 1 else FP.d2l x) else x
theorem neaM (x : UInt64) (hx : NN x) : gX11_whole x 2 = some (nea x) := by
  unfold nea
  by_cases h : Sm x
  · have hf := (mg_small hx h.1 h.2).1
    obtain ⟨s1, s2, s3⟩ := sub_cmp hf (l2d_fn (FP.d2l x))
    rw [whole_sm hx h, if_neg (by decide), if_neg (by decide), if_pos h]
    unfold gX11_whole_85 gX11_whole_111 gX11_whole_115 gX11_whole_138 gX11_whole_144 gX11_whole_145
    simp only [cv s1 nn_half, cv s1 nn_nhalf, cq_gt, cq_eq, cq_lt, dk_half, dk_nhalf, mz hx, Int64.add_zero]
    by_cases ho : FP.d2l x &&& 1 = 1
    · simp only [ho, if_true, and_true]
      have : ¬ (1 : Int32) = 0 := by decide
      simp only [this, if_false]
      rw [show (-1 : Int64) = -(1 : Int64) from rfl, ← Int64.sub_eq_add_neg]
      (repeat' split) <;> first | rfl | omega | simp_all
    · simp only [ho, if_false, and_false, or_false, if_true]
      rw [show (-1 : Int64) = -(1 : Int64) from rfl, ← Int64.sub_eq_add_neg]
      (repeat' split) <;> first | rfl | omega | simp_all
  · rw [whole_big hx h, if_neg h]
theorem sub_ndk {x y : UInt64} (hx : FN x) (hy : FN y) : dk (FP.dsub (FP.dneg x) (FP.dneg y)) = -dk (FP.dsub x y) := by
  have n1 := (sub_cmp hx hy).1
  have n2 := (sub_cmp (dneg_fn hx) (dneg_fn hy)).1
  have hz : zv (FP.dsub (FP.dneg x) (FP.dneg y)) = -zv (FP.dsub x y) := by
    obtain ⟨s, c, q, ex⟩ := hx
    obtain ⟨t, d, r, ey⟩ := hy
    show FP.Core.zval _ (FP.Core.val64 (FP.Core.dsub (FP.dneg x) (FP.dneg y))) = -FP.Core.zval _ (FP.Core.val64 (FP.Core.dsub x y))
    rw [FP.Core.val64_dsub, FP.Core.val64_dsub, FP.val64_dneg, FP.val64_dneg, ex, ey, ← FP.Core.zval_negate, FP.Core.negate_round]
    simp only [FP.Core.negate, FP.Core.exactSum, Bool.not_not]
    have hu : FP.Core.sumUnits (!s) c q t d r (min q r) = -FP.Core.sumUnits s c q (!t) d r (min q r) := by
      unfold FP.Core.sumUnits
      rw [FP.Core.signed_not, FP.Core.signed_not]; omega
    rw [hu, Int.natAbs_neg]
    generalize FP.Core.sumUnits s c q (!t) d r (min q r) = v
    by_cases hv : v = 0
    · subst hv
      show FP.Core.zval _ (FP.Core.roundRatio _ _ 0 1 _) = FP.Core.zval _ (FP.Core.roundRatio _ _ 0 1 _)
      unfold FP.Core.roundRatio
      rw [if_pos rfl, if_pos rfl]
      show FP.Core.signed _ (0 * _) = FP.Core.signed _ (0 * _)
      simp only [Nat.zero_mul, FP.Core.signed_zero]
    · have : FP.Core.sumSign (!s) t (-v) = !FP.Core.sumSign s (!t) v := by
        unfold FP.Core.sumSign
        rw [if_neg (by omega), if_neg hv]
        by_cases h0 : v < 0
        · rw [decide_eq_true h0, decide_eq_false (by omega)]; rfl
        · rw [decide_eq_false h0, decide_eq_true (by omega)]; rfl
      rw [this]
  have e1 := zk n2 (dneg_nn n1)
  rw [dneg_dk, dneg_zv] at e1
  exact e1.2.mpr hz
theorem sub0_dk {x : UInt64} (hx : FN x) : dk (FP.dsub x (FP.l2d 0)) = dk x := by
  have hz : FP.Core.DZero (FP.dneg (FP.l2d 0)) := (FP.Core.zero_bits2 _).mpr (by decide +kernel)
  have h := (FP.Core.dadd_zero_eq hx hz).1
  have e : FP.dsub x (FP.l2d 0) = FP.Core.dadd x (FP.dneg (FP.l2d 0)) := by
    rw [FP.dneg_core (by decide +kernel)]
    exact FP.Core.dsub_eq x _
  obtain ⟨v1, v2⟩ := FP.Core.dcmp_some h
  rw [e]
  exact (FP.Core.dcmp_eq_key v1 v2).mp h
theorem sub_l2n {x : UInt64} {v : Int64} (hx : FN x) (h1 : -2 ^ 63 < v.toInt) : dk (FP.dsub (FP.dneg x) (FP.l2d (-v))) = -dk (FP.dsub x (FP.l2d v)) := by
  by_cases h : v = 0
  · subst h
    rw [show -(0 : Int64) = 0 from rfl, sub0_dk (dneg_fn hx), sub0_dk hx, dneg_dk]
  · rw [l2d_neg' h h1, sub_ndk hx (l2d_fn v)]
theorem par_neg (v : Int64) : (-v &&& 1 = 0 ↔ ¬ v &&& 1 = 1) ∧ (v &&& 1 = 0 ↔ ¬ v &&& 1 = 1) := by
  obtain ⟨⟨v⟩⟩ := v
  have h1 : (Int64.ofUInt64 (UInt64.ofBitVec (v &&& 1#64)) = 0 ↔ v &&& 1#64 = 0#64) := ⟨fun h => by injection h with h; injection h, fun h => by rw [h]; rfl⟩
  have h2 : (Int64.ofUInt64 (UInt64.ofBitVec (v &&& 1#64)) = 1 ↔ v &&& 1#64 = 1#64) := ⟨fun h => by injection h with h; injection h, fun h => by rw [h]; rfl⟩
  have h3 : (Int64.ofUInt64 (UInt64.ofBitVec (-v &&& 1#64)) = 0 ↔ -v &&& 1#64 = 0#64) := ⟨fun h => by injection h with h; injection h, fun h => by rw [h]; rfl⟩
  have f : ∀ w : BitVec 64, (w &&& 1#64).toNat = w.toNat % 2 := fun w => by rw [BitVec.toNat_and]; exact Nat.and_one_is_mod _
  have g0 : ∀ w : BitVec 64, (w &&& 1#64 = 0#64 ↔ w.toNat % 2 = 0) := fun w => by rw [← f w, ← BitVec.toNat_inj]; rfl
  have g1 : ∀ w : BitVec 64, (w &&& 1#64 = 1#64 ↔ w.toNat % 2 = 1) := fun w => by rw [← f w, ← BitVec.toNat_inj]; rfl
  refine ⟨h3.trans ?_, h1.trans ?_⟩
  · rw [show ((Int64.ofUInt64 (UInt64.ofBitVec v)) &&& 1 = 1) = (Int64.ofUInt64 (UInt64.ofBitVec (v &&& 1#64)) = 1) from rfl, h2, g0, g1, BitVec.toNat_neg]
    omega
  · rw [show ((Int64.ofUInt64 (UInt64.ofBitVec v)) &&& 1 = 1) = (Int64.ofUInt64 (UInt64.ofBitVec (v &&& 1#64)) = 1) from rfl, h2, g0, g1]
    omega
theorem neaC (x : UInt64) (hx : NN x) : gX6_nearest x = some (nea x) := by
  unfold gX6_nearest nea
  rw [sure x hx]
  simp only [Option.bind_some]
  by_cases h : Sm x
  · obtain ⟨a1, a2, a3, a4⟩ := sm_l hx h
    obtain ⟨t1, t2, t3⟩ := t53 ⟨a1, a2⟩
    have hf := (mg_small hx h.1 h.2).1
    obtain ⟨s1, s2, s3⟩ := sub_cmp hf (l2d_fn (FP.d2l x))
    rw [if_pos h, if_pos rfl, if_pos h, cv hx nn0]
    simp only [cq_ge, dk0]
    have n66 : ∀ v : Int64, -2 ^ 63 < v.toInt → gX6_nearest_66 x v = some (zl x (if 0 ≤ dk x then v else -v)) := by
      intro v hv
      unfold gX6_nearest_66
      simp only [lgc0, zeroL hf, cv hx nn0, cq_ge, dk0, Option.bind_some]
      by_cases hv0 : v = 0
      · subst hv0; rw [if_pos rfl]; split <;> rfl
      · have hv1 : -v ≠ 0 := by
          intro hc
          apply hv0
          have := congrArg Int64.toInt hc
          rw [FP.Core.int64_neg hv] at this
          refine Int64.toInt.inj ?_
          have e0 : (0 : Int64).toInt = 0 := rfl
          rw [e0] at this ⊢
          omega
        rw [if_neg hv0]; unfold zl
        split <;> first | rfl | rw [if_neg hv0] | rw [if_neg hv1]
    by_cases h0 : 0 ≤ dk x
    · rw [if_pos h0]
      unfold gX6_nearest_21 gX6_nearest_60
      have := (a3 h0)
      rw [if_pos s1]
      simp only [cv s1 nn_half, cq_gt, cq_eq, dk_half, lgc0, (par_neg (FP.d2l x)).2]
      rw [n66 _ (by omega), n66 _ (by omega)]
      simp only [h0, if_true]
      by_cases ho : FP.d2l x &&& 1 = 1
      · simp only [ho, not_true, if_false, and_true]
        (repeat' split) <;> first | rfl | omega
      · simp only [ho, not_false_eq_true, if_true, and_false, or_false]
        (repeat' split) <;> first | rfl | omega
    · rw [if_neg h0]
      have := (a4 (by omega))
      unfold gX6_nearest_21 gX6_nearest_60
      have hp1 : -2 ^ 63 < (-FP.d2l x + 1).toInt := by
        have e1 : (1 : Int64).toInt = 1 := rfl
        rw [FP.Core.int64_add] <;> rw [e1, t3] <;> omega
      have s1' := (sub_cmp (dneg_fn hf) (l2d_fn (-FP.d2l x))).1
      rw [d2l_neg hx h.1 h.2, if_pos s1']
      simp only [cv s1' nn_half, cq_gt, cq_eq, dk_half, lgc0, (par_neg (FP.d2l x)).1]
      rw [sub_l2n hf (by omega), n66 _ hp1, n66 _ (by omega)]
      simp only [h0, if_false]
      rw [Int64.neg_neg, show -(-FP.d2l x + 1) = FP.d2l x - 1 by rw [Int64.neg_add, Int64.neg_neg, Int64.sub_eq_add_neg]]
      by_cases ho : FP.d2l x &&& 1 = 1
      · simp only [ho, not_true, if_false, and_true]
        (repeat' split) <;> first | rfl | omega
      · simp only [ho, not_false_eq_true, if_true, and_false, or_false]
        (repeat' split) <;> first | rfl | omega
  · rw [if_neg h, if_neg (by decide), if_neg h]
