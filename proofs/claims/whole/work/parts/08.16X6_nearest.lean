def gX6_nearest_66 (x0 : UInt64) (v4 : Int64) : Option UInt64 := if (lg_cmp v4 (0 : Int64)) = 0 then ((gX6_zeroLike x0).bind (fun r2 => some r2)) else (if 0 ≤ (Op.cmpValue (FP.dcmp x0 FP.dconst0) CmpOp.g) then (some (FP.l2d v4)) else (some (FP.l2d (-v4))))
def gX6_nearest_60 (x0 : UInt64) (v4 : Int64) : Option UInt64 := gX6_nearest_66 x0 (v4 + (1 : Int64))
def gX6_nearest_21 (x0 : UInt64) (s0 : UInt64) : Option UInt64 := if FP.dIsNaN (FP.dsub s0 (FP.l2d (FP.d2l s0))) = false then (if 0 < (Op.cmpValue (FP.dcmp (FP.dsub s0 (FP.l2d (FP.d2l s0))) (4602678819172646912 : UInt64)) CmpOp.l) then (gX6_nearest_60 x0 (FP.d2l s0)) else (if (Op.cmpValue (FP.dcmp (FP.dsub s0 (FP.l2d (FP.d2l s0))) (4602678819172646912 : UInt64)) CmpOp.l) = 0 then (if (lg_cmp ((FP.d2l s0) &&& (1 : Int64)) (0 : Int64)) = 0 then (gX6_nearest_66 x0 (FP.d2l s0)) else (gX6_nearest_60 x0 (FP.d2l s0))) else (gX6_nearest_66 x0 (FP.d2l s0)))) else none
def gX6_nearest (x0 : UInt64) : Option UInt64 := (gX6_isSurelyWhole x0).bind (fun r1 => if r1 = 0 then (if 0 ≤ (Op.cmpValue (FP.dcmp x0 FP.dconst0) CmpOp.g) then (gX6_nearest_21 x0 x0) else (gX6_nearest_21 x0 (FP.dneg x0))) else (some x0))
theorem hd_X6_nearest : yX6_nearest.cls ≠ "java/lang/invoke/MethodHandle" ∧ yX6_nearest.cls ≠ "java/lang/invoke/VarHandle" ∧ (parseMethodDescriptor yX6_nearest.desc).map (fun d => d.parameters.length) = some 1 := by decide +kernel
set_option maxHeartbeats 4000000 in
set_option maxRecDepth 100000 in
theorem tX6_nearest {G : GG} {l : Launch} {z N : Nat} {ct : Nat → va_E} (x0 : UInt64) {r : UInt64} (hg : gX6_nearest x0 = some r) : Ct G l yX6_nearest cX6_nearest 8 (some .double) ({ frames := 1, cells := 0, slots := 0, locals := 21 } : Room) [.double x0] z ct N (some (.double r)) ct N := by
  refine Ct.of (lv := [(0, .double x0)]) (by decide +kernel) (Nat.le_of_ble_eq_true rfl) rfl (fun p e s m args below meth c C => ?_)
  have L_66 : ∀ (v4 : Int64), gX6_nearest_66 x0 v4 = some r → J G p l e ({ frames := 1, cells := 0, slots := 0, locals := 21 } : Room) s m args below meth c z 8 (MQ below (Qd G z (some (.double r)) ct N) args s 0 0 (zA z)) ct N 0 0 66 [(0, .double x0), (4, .long v4)] [] := by
    intro v4 hg
    rw [gX6_nearest_66] at hg
    refine j_lload C dX6_nearest_66 1 rfl ?_
    refine j_lconst (v := 0) C dX6_nearest_68 (by decide) ?_
    refine j_lcmp C dX6_nearest_69 ?_
    refine j_if_ne C 78 hg dX6_nearest_70 (by decide) (fun hg => ?_) (fun hg => ?_)
    · refine j_dload_n C dX6_nearest_78 0 rfl rfl ?_
      refine j_dconst0 C dX6_nearest_79 ?_
      refine j_dcmp C dX6_nearest_80 ?_
      refine j_if_ge C 91 hg dX6_nearest_81 (by decide) (fun hg => ?_) (fun hg => ?_)
      · refine j_lload C dX6_nearest_91 1 rfl ?_
        refine j_l2d C dX6_nearest_93 ?_
        exact j_dret C dX6_nearest_94 (by rw [← Option.some.inj hg]) rfl rfl
      · refine j_lload C dX6_nearest_84 1 rfl ?_
        refine j_lneg C dX6_nearest_86 ?_
        refine j_l2d C dX6_nearest_87 ?_
        refine j_goto C 94 dX6_nearest_88 (by decide) ?_
        exact j_dret C dX6_nearest_94 (by rw [← Option.some.inj hg]) rfl rfl
    · refine j_dload_n C dX6_nearest_73 0 rfl rfl ?_
      obtain ⟨r2, hr2, hg⟩ := ob hg
      refine j_callS C [.double x0] (tX6_zeroLike x0 hr2) q2_120 q1_10 q2_119 q2_118 hd_X6_zeroLike rfl dX6_nearest_74 rfl (Nat.le_of_ble_eq_true rfl) ⟨(Nat.le_of_ble_eq_true rfl), (Nat.le_of_ble_eq_true rfl)⟩ ⟨(Nat.le_of_ble_eq_true rfl), (Nat.le_of_ble_eq_true rfl)⟩ ?_
      exact j_dret C dX6_nearest_77 (by rw [← Option.some.inj hg]) rfl rfl
  have L_60 : ∀ (v4 : Int64), gX6_nearest_60 x0 v4 = some r → J G p l e ({ frames := 1, cells := 0, slots := 0, locals := 21 } : Room) s m args below meth c z 8 (MQ below (Qd G z (some (.double r)) ct N) args s 0 0 (zA z)) ct N 0 0 60 [(0, .double x0), (4, .long v4)] [] := by
    intro v4 hg
    rw [gX6_nearest_60] at hg
    refine j_lload C dX6_nearest_60 1 rfl ?_
    refine j_lconst (v := 1) C dX6_nearest_62 (by decide) ?_
    refine j_ladd C dX6_nearest_63 ?_
    refine j_lstore C [(4, .long (v4 + (1 : Int64))), (0, .double x0)] dX6_nearest_64 (by decide) rfl ?_
    exact j_re [1, 0] rfl (L_66 (v4 + (1 : Int64)) hg)
  have L_21 : ∀ (s0 : UInt64), gX6_nearest_21 x0 s0 = some r → J G p l e ({ frames := 1, cells := 0, slots := 0, locals := 21 } : Room) s m args below meth c z 8 (MQ below (Qd G z (some (.double r)) ct N) args s 0 0 (zA z)) ct N 0 0 21 [(0, .double x0)] [.double s0] := by
    intro s0 hg
    rw [gX6_nearest_21] at hg
    refine j_dstore_n C [(2, .double s0), (0, .double x0)] dX6_nearest_21 rfl (by decide) rfl ?_
    refine j_dload_n C dX6_nearest_22 0 rfl rfl ?_
    refine j_d2l C dX6_nearest_23 ?_
    refine j_lstore C [(4, .long (FP.d2l s0)), (2, .double s0), (0, .double x0)] dX6_nearest_24 (by decide) rfl ?_
    refine j_dload_n C dX6_nearest_26 1 rfl rfl ?_
    refine j_lload C dX6_nearest_27 0 rfl ?_
    refine j_l2d C dX6_nearest_29 ?_
    refine j_dsub C hg dX6_nearest_30 (fun hg => ?_)
    refine j_dstore C [(6, .double (FP.dsub s0 (FP.l2d (FP.d2l s0)))), (4, .long (FP.d2l s0)), (2, .double s0), (0, .double x0)] dX6_nearest_31 (by decide) rfl ?_
    refine j_dload C dX6_nearest_33 0 rfl ?_
    refine j_ldc2d C q1_225 dX6_nearest_35 ?_
    refine j_dcmp C dX6_nearest_38 ?_
    refine j_if_gt C 60 hg dX6_nearest_39 (by decide) (fun hg => ?_) (fun hg => ?_)
    · exact j_re [3, 1] rfl (L_60 (FP.d2l s0) hg)
    · refine j_dload C dX6_nearest_42 0 rfl ?_
      refine j_ldc2d C q1_225 dX6_nearest_44 ?_
      refine j_dcmp C dX6_nearest_47 ?_
      refine j_if_ne C 66 hg dX6_nearest_48 (by decide) (fun hg => ?_) (fun hg => ?_)
      · exact j_re [3, 1] rfl (L_66 (FP.d2l s0) hg)
      · refine j_lload C dX6_nearest_51 1 rfl ?_
        refine j_lconst (v := 1) C dX6_nearest_53 (by decide) ?_
        refine j_land C dX6_nearest_54 ?_
        refine j_lconst (v := 0) C dX6_nearest_55 (by decide) ?_
        refine j_lcmp C dX6_nearest_56 ?_
        refine j_if_eq C 66 hg dX6_nearest_57 (by decide) (fun hg => ?_) (fun hg => ?_)
        · exact j_re [3, 1] rfl (L_66 (FP.d2l s0) hg)
        · exact j_re [3, 1] rfl (L_60 (FP.d2l s0) hg)
  rw [gX6_nearest] at hg
  refine j_dload_n C dX6_nearest_0 0 rfl rfl ?_
  obtain ⟨r1, hr1, hg⟩ := ob hg
  refine j_callS C [.double x0] (tX6_isSurelyWhole x0 hr1) q2_115 q1_10 q2_114 q2_113 hd_X6_isSurelyWhole rfl dX6_nearest_1 rfl (Nat.le_of_ble_eq_true rfl) ⟨(Nat.le_of_ble_eq_true rfl), (Nat.le_of_ble_eq_true rfl)⟩ ⟨(Nat.le_of_ble_eq_true rfl), (Nat.le_of_ble_eq_true rfl)⟩ ?_
  refine j_if_eq C 9 hg dX6_nearest_4 (by decide) (fun hg => ?_) (fun hg => ?_)
  · refine j_dload_n C dX6_nearest_9 0 rfl rfl ?_
    refine j_dconst0 C dX6_nearest_10 ?_
    refine j_dcmp C dX6_nearest_11 ?_
    refine j_if_ge C 20 hg dX6_nearest_12 (by decide) (fun hg => ?_) (fun hg => ?_)
    · refine j_dload_n C dX6_nearest_20 0 rfl rfl ?_
      exact L_21 x0 hg
    · refine j_dload_n C dX6_nearest_15 0 rfl rfl ?_
      refine j_dneg C dX6_nearest_16 ?_
      refine j_goto C 21 dX6_nearest_17 (by decide) ?_
      exact L_21 (FP.dneg x0) hg
  · refine j_dload_n C dX6_nearest_7 0 rfl rfl ?_
    exact j_dret C dX6_nearest_8 (by rw [← Option.some.inj hg]) rfl rfl
