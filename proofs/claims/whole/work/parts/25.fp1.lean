abbrev NN (a : UInt64) : Prop := FP.dIsNaN a = false
abbrev dk (a : UInt64) : Int := FP.Core.dkey a
theorem nn_iff (a : UInt64) : NN a ↔ a.toNat % 2 ^ 63 ≤ 9218868437227405312 := by
  show FP.Core.dIsNaN a = false ↔ _
  rw [FP.Core.notNaN_iff, FP.Core.ne_nan]
theorem nn_val {a : UInt64} (h : NN a) : FP.Core.val64 a ≠ .nan := (FP.Core.notNaN_iff a).mp h
theorem nn_of {a : UInt64} (h : FP.Core.val64 a ≠ .nan) : NN a := (FP.Core.notNaN_iff a).mpr h
def cq (x y : Int) : Int32 := if x < y then -1 else if x = y then 0 else 1
theorem cv {a b : UInt64} (ha : NN a) (hb : NN b) (c : CmpOp) : Op.cmpValue (FP.dcmp a b) c = cq (dk a) (dk b) := by
  have h : FP.dcmp a b = some (compare (dk a) (dk b)) := FP.Core.dcmp_key (nn_val ha) (nn_val hb)
  rw [h]
  unfold cq
  by_cases h1 : dk a < dk b
  · rw [if_pos h1, (FP.Core.compare_lt_iff _ _).mpr h1]; cases c <;> rfl
  · rw [if_neg h1]
    by_cases h2 : dk a = dk b
    · rw [if_pos h2, (FP.Core.compare_eq_iff _ _).mpr h2]; cases c <;> rfl
    · rw [if_neg h2, (FP.Core.compare_gt_iff _ _).mpr (by omega)]; cases c <;> rfl
theorem cq_lt {x y : Int} : cq x y < 0 ↔ x < y := by
  unfold cq; by_cases h1 : x < y
  · simp [h1]
  · by_cases h2 : x = y
    · simp [h2]
    · simp [h1, h2]
theorem cq_le {x y : Int} : cq x y ≤ 0 ↔ x ≤ y := by
  unfold cq; by_cases h1 : x < y
  · simp only [h1, if_true]; exact ⟨fun _ => by omega, fun _ => by decide⟩
  · by_cases h2 : x = y
    · simp [h2]
    · simp only [h1, h2, if_false]; exact ⟨fun h => absurd h (by decide), fun h => by omega⟩
theorem cq_eq {x y : Int} : cq x y = 0 ↔ x = y := by
  unfold cq; by_cases h1 : x < y
  · simp only [h1, if_true]; exact ⟨fun h => absurd h (by decide), fun h => by omega⟩
  · by_cases h2 : x = y
    · simp [h2]
    · simp only [h1, h2, if_false]; exact ⟨fun h => absurd h (by decide), fun h => h.elim⟩
theorem cq_gt {x y : Int} : 0 < cq x y ↔ y < x := by
  unfold cq; by_cases h1 : x < y
  · simp only [h1, if_true]; exact ⟨fun h => absurd h (by decide), fun h => by omega⟩
  · by_cases h2 : x = y
    · simp [h2]
    · simp only [h1, h2, if_false]; exact ⟨fun _ => by omega, fun _ => by decide⟩
theorem cq_ge {x y : Int} : 0 ≤ cq x y ↔ y ≤ x := by
  unfold cq; by_cases h1 : x < y
  · simp only [h1, if_true]; exact ⟨fun h => absurd h (by decide), fun h => by omega⟩
  · by_cases h2 : x = y
    · simp [h2]
    · simp only [h1, h2, if_false]; exact ⟨fun _ => by omega, fun _ => by decide⟩
theorem dk_eq (a : UInt64) : dk a = if 2 ^ 63 ≤ a.toNat then ((2 ^ 63 : Nat) : Int) - (a.toNat : Int) else (a.toNat : Int) := rfl
theorem dk0 : dk FP.dconst0 = 0 := by decide +kernel
theorem dk1 : dk FP.dconst1 = 4607182418800017408 := by decide +kernel
theorem dk_half : dk 4602678819172646912 = 4602678819172646912 := by decide +kernel
theorem dk_nhalf : dk 13826050856027422720 = -4602678819172646912 := by decide +kernel
theorem dk_52 : dk 4841369599423283200 = 4841369599423283200 := by decide +kernel
theorem dk_n52 : dk 14064741636278059008 = -4841369599423283200 := by decide +kernel
theorem dk_max : dk 9218868437227405311 = 9218868437227405311 := by decide +kernel
theorem dk_nmax : dk 18442240474082181119 = -9218868437227405311 := by decide +kernel
theorem dk_inf : dk 9218868437227405312 = 9218868437227405312 := by decide +kernel
theorem dk_ninf : dk 18442240474082181120 = -9218868437227405312 := by decide +kernel
theorem dk_2 : dk 4611686018427387904 = 4611686018427387904 := by decide +kernel
theorem nn0 : NN FP.dconst0 := by decide +kernel
theorem nn1 : NN FP.dconst1 := by decide +kernel
theorem nn_half : NN 4602678819172646912 := by decide +kernel
theorem nn_nhalf : NN 13826050856027422720 := by decide +kernel
theorem nn_52 : NN 4841369599423283200 := by decide +kernel
theorem nn_n52 : NN 14064741636278059008 := by decide +kernel
theorem nn_max : NN 9218868437227405311 := by decide +kernel
theorem nn_nmax : NN 18442240474082181119 := by decide +kernel
theorem nn_inf : NN 9218868437227405312 := by decide +kernel
theorem nn_ninf : NN 18442240474082181120 := by decide +kernel
theorem nn_2 : NN 4611686018427387904 := by decide +kernel
def mi (a : UInt64) : Int32 := if 2 ^ 63 ≤ a.toNat then 1 else 0
def isI (a : UInt64) : Int32 := if a.toNat % 2 ^ 63 = 9218868437227405312 then 1 else 0
def ok (a : UInt64) : Int := if 2 ^ 63 ≤ a.toNat then ((2 ^ 63 : Nat) : Int) - (a.toNat : Int) - 1 else (a.toNat : Int)
theorem ok_inj {a b : UInt64} (h : ok a = ok b) : a = b := by
  refine UInt64.toNat.inj ?_
  unfold ok at h
  split at h <;> split at h <;> omega
theorem dz {a : UInt64} (h : dk a = 0) : a = 0 ∨ a = 9223372036854775808 := by
  rw [dk_eq] at h
  split at h
  · right; refine UInt64.toNat.inj ?_; show _ = 9223372036854775808; omega
  · left; refine UInt64.toNat.inj ?_; show _ = 0; omega
theorem c_infC (a : UInt64) (h : NN a) : gX6_isInfinite a = some (isI a) := by
  have h1 := (nn_iff a).mp h
  have h2 := a.toNat_lt
  unfold gX6_isInfinite isI
  rw [cv h nn_max, cv h nn_nmax]
  simp only [cq_gt, cq_ge, dk_max, dk_nmax]
  rw [dk_eq]
  split <;> (repeat' split) <;> first | rfl | omega
theorem c_infM (a : UInt64) (h : NN a) : gX11_isInfinite a = some (isI a) := by
  have h1 := (nn_iff a).mp h
  have h2 := a.toNat_lt
  unfold gX11_isInfinite isI
  rw [cv h nn_inf, cv h nn_ninf]
  simp only [cq_eq, dk_inf, dk_ninf]
  rw [dk_eq]
  split <;> (repeat' split) <;> first | rfl | omega
theorem c_minC (a : UInt64) (h : NN a) : gX6_hasMinus a = some (mi a) := by
  have h1 := (nn_iff a).mp h
  have h2 := a.toNat_lt
  unfold gX6_hasMinus
  rw [cv h nn0, cv h nn0]
  simp only [cq_lt, cq_eq, dk0]
  by_cases h3 : dk a = 0
  · rcases dz h3 with rfl | rfl <;> decide +kernel
  · simp only [h3, if_false]
    unfold mi
    rw [dk_eq] at h3 ⊢
    split at h3 <;> (repeat' split) <;> first | rfl | omega
theorem c_zeroM (a : UInt64) (h : NN a) : gX11_isZero a = some (if dk a = 0 then 1 else 0) := by
  unfold gX11_isZero
  rw [cv h nn0]
  simp only [cq_eq, dk0]
  split <;> rfl
theorem c_minM (a : UInt64) (h : NN a) : gX11_hasMinus a = some (mi a) := by
  have h1 := (nn_iff a).mp h
  have h2 := a.toNat_lt
  unfold gX11_hasMinus
  rw [c_zeroM a h, cv h nn0]
  simp only [cq_ge, cq_eq, dk0, Option.bind_some]
  by_cases h3 : dk a = 0
  · rcases dz h3 with rfl | rfl <;> decide +kernel
  · simp only [h3, if_false, if_true]
    unfold mi
    rw [dk_eq] at h3 ⊢
    split at h3 <;> (repeat' split) <;> first | rfl | omega
theorem c_below (a b : UInt64) (ha : NN a) (hb : NN b) : gX6_isBelow a b = some (if ok a < ok b then 1 else 0) := by
  have h1 := (nn_iff a).mp ha
  have h2 := a.toNat_lt
  have h3 := (nn_iff b).mp hb
  have h4 := b.toNat_lt
  unfold gX6_isBelow
  rw [cv ha hb, cv ha nn0, cv hb nn0]
  simp only [cq_lt, cq_eq, dk0]
  by_cases e1 : dk a = 0
  · by_cases e2 : dk b = 0
    · rcases dz e1 with rfl | rfl <;> rcases dz e2 with rfl | rfl <;> decide +kernel
    · simp only [e1, e2, if_false, if_true]
      unfold ok
      rw [dk_eq] at e1 e2 ⊢
      split at e1 <;> split at e2 <;> (repeat' split) <;> first | rfl | omega
  · simp only [e1, if_false]
    unfold ok
    rw [dk_eq] at e1 ⊢
    rw [dk_eq]
    split at e1 <;> (repeat' split) <;> first | rfl | omega
theorem c_lower (a b : UInt64) (ha : NN a) (hb : NN b) : gX11_isLower a b = some (if ok a < ok b then 1 else 0) := by
  have h1 := (nn_iff a).mp ha
  have h2 := a.toNat_lt
  have h3 := (nn_iff b).mp hb
  have h4 := b.toNat_lt
  unfold gX11_isLower
  rw [cv ha hb, c_zeroM a ha, c_zeroM b hb, c_minM a ha, c_minM b hb]
  simp only [cq_lt, Option.bind_some]
  unfold ok mi
  rw [dk_eq, dk_eq]
  split <;> (repeat' split) <;> first | rfl | omega | simp_all | (simp_all; omega)
