def gX6_floor_23 (x0 : UInt64) (v2 : UInt64) : Option UInt64 := if (Op.cmpValue (FP.dcmp v2 FP.dconst0) CmpOp.l) = 0 then ((gX6_zeroLike x0).bind (fun r2 => some r2)) else (some v2)
def gX6_floor (x0 : UInt64) : Option UInt64 := (gX6_isSurelyWhole x0).bind (fun r1 => if r1 = 0 then (if (Op.cmpValue (FP.dcmp (FP.l2d (FP.d2l x0)) x0) CmpOp.l) ≤ 0 then (gX6_floor_23 x0 (FP.l2d (FP.d2l x0))) else (if FP.dIsNaN (FP.dsub (FP.l2d (FP.d2l x0)) FP.dconst1) = false then (gX6_floor_23 x0 (FP.dsub (FP.l2d (FP.d2l x0)) FP.dconst1)) else none)) else (some x0))
theorem hd_X6_floor : yX6_floor.cls ≠ "java/lang/invoke/MethodHandle" ∧ yX6_floor.cls ≠ "java/lang/invoke/VarHandle" ∧ (parseMethodDescriptor yX6_floor.desc).map (fun d => d.parameters.length) = some 1 := by decide +kernel
set_option maxHeartbeats 4000000 in
set_option maxRecDepth 100000 in
theorem tX6_floor {G : GG} {l : Launch} {z N : Nat} {ct : Nat → va_E} (x0 : UInt64) {r : UInt64} (hg : gX6_floor x0 = some r) : Ct G l yX6_floor cX6_floor 4 (some .double) ({ frames := 1, cells := 0, slots := 0, locals := 21 } : Room) [.double x0] z ct N (some (.double r)) ct N := by
  refine Ct.of (lv := [(0, .double x0)]) (by decide +kernel) (Nat.le_of_ble_eq_true rfl) rfl (fun p e s m args below meth c C => ?_)
  have L_23 : ∀ (v2 : UInt64), gX6_floor_23 x0 v2 = some r → J G p l e ({ frames := 1, cells := 0, slots := 0, locals := 21 } : Room) s m args below meth c z 4 (MQ below (Qd G z (some (.double r)) ct N) args s 0 0 (zA z)) ct N 0 0 23 [(0, .double x0), (2, .double v2)] [] := by
    intro v2 hg
    rw [gX6_floor_23] at hg
    refine j_dload_n C dX6_floor_23 1 rfl rfl ?_
    refine j_dconst0 C dX6_floor_24 ?_
    refine j_dcmp C dX6_floor_25 ?_
    refine j_if_ne C 36 hg dX6_floor_26 (by decide) (fun hg => ?_) (fun hg => ?_)
    · refine j_dload_n C dX6_floor_36 1 rfl rfl ?_
      exact j_dret C dX6_floor_37 (by rw [← Option.some.inj hg]) rfl rfl
    · refine j_dload_n C dX6_floor_29 0 rfl rfl ?_
      obtain ⟨r2, hr2, hg⟩ := ob hg
      refine j_callS C [.double x0] (tX6_zeroLike x0 hr2) q2_120 q1_10 q2_119 q2_118 hd_X6_zeroLike rfl dX6_floor_30 rfl (Nat.le_of_ble_eq_true rfl) ⟨(Nat.le_of_ble_eq_true rfl), (Nat.le_of_ble_eq_true rfl)⟩ ⟨(Nat.le_of_ble_eq_true rfl), (Nat.le_of_ble_eq_true rfl)⟩ ?_
      refine j_goto C 37 dX6_floor_33 (by decide) ?_
      exact j_dret C dX6_floor_37 (by rw [← Option.some.inj hg]) rfl rfl
  rw [gX6_floor] at hg
  refine j_dload_n C dX6_floor_0 0 rfl rfl ?_
  obtain ⟨r1, hr1, hg⟩ := ob hg
  refine j_callS C [.double x0] (tX6_isSurelyWhole x0 hr1) q2_115 q1_10 q2_114 q2_113 hd_X6_isSurelyWhole rfl dX6_floor_1 rfl (Nat.le_of_ble_eq_true rfl) ⟨(Nat.le_of_ble_eq_true rfl), (Nat.le_of_ble_eq_true rfl)⟩ ⟨(Nat.le_of_ble_eq_true rfl), (Nat.le_of_ble_eq_true rfl)⟩ ?_
  refine j_if_eq C 9 hg dX6_floor_4 (by decide) (fun hg => ?_) (fun hg => ?_)
  · refine j_dload_n C dX6_floor_9 0 rfl rfl ?_
    refine j_d2l C dX6_floor_10 ?_
    refine j_l2d C dX6_floor_11 ?_
    refine j_dstore_n C [(2, .double (FP.l2d (FP.d2l x0))), (0, .double x0)] dX6_floor_12 rfl (by decide) rfl ?_
    refine j_dload_n C dX6_floor_13 0 rfl rfl ?_
    refine j_dload_n C dX6_floor_14 1 rfl rfl ?_
    refine j_dcmp C dX6_floor_15 ?_
    refine j_if_le C 23 hg dX6_floor_16 (by decide) (fun hg => ?_) (fun hg => ?_)
    · exact j_re [1, 0] rfl (L_23 (FP.l2d (FP.d2l x0)) hg)
    · refine j_dload_n C dX6_floor_19 0 rfl rfl ?_
      refine j_dconst1 C dX6_floor_20 ?_
      refine j_dsub C hg dX6_floor_21 (fun hg => ?_)
      refine j_dstore_n C [(2, .double (FP.dsub (FP.l2d (FP.d2l x0)) FP.dconst1)), (0, .double x0)] dX6_floor_22 rfl (by decide) rfl ?_
      exact j_re [1, 0] rfl (L_23 (FP.dsub (FP.l2d (FP.d2l x0)) FP.dconst1) hg)
  · refine j_dload_n C dX6_floor_7 0 rfl rfl ?_
    exact j_dret C dX6_floor_8 (by rw [← Option.some.inj hg]) rfl rfl
