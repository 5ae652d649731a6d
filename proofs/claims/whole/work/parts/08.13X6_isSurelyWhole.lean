def gX6_isSurelyWhole (x0 : UInt64) : Option Int32 := if 0 ≤ (Op.cmpValue (FP.dcmp x0 (4841369599423283200 : UInt64)) CmpOp.l) then (some (1 : Int32)) else (if 0 < (Op.cmpValue (FP.dcmp x0 (14064741636278059008 : UInt64)) CmpOp.g) then (some (0 : Int32)) else (some (1 : Int32)))
theorem hd_X6_isSurelyWhole : yX6_isSurelyWhole.cls ≠ "java/lang/invoke/MethodHandle" ∧ yX6_isSurelyWhole.cls ≠ "java/lang/invoke/VarHandle" ∧ (parseMethodDescriptor yX6_isSurelyWhole.desc).map (fun d => d.parameters.length) = some 1 := by decide +kernel
set_option maxHeartbeats 4000000 in
set_option maxRecDepth 100000 in
theorem tX6_isSurelyWhole {G : GG} {l : Launch} {z N : Nat} {ct : Nat → va_E} (x0 : UInt64) {r : Int32} (hg : gX6_isSurelyWhole x0 = some r) : Ct G l yX6_isSurelyWhole cX6_isSurelyWhole 2 (some .boolean) ({ frames := 0, cells := 0, slots := 0, locals := 0 } : Room) [.double x0] z ct N (some (.int r)) ct N := by
  refine Ct.of (lv := [(0, .double x0)]) (by decide +kernel) (Nat.le_of_ble_eq_true rfl) rfl (fun p e s m args below meth c C => ?_)
  rw [gX6_isSurelyWhole] at hg
  refine j_dload_n C dX6_isSurelyWhole_0 0 rfl rfl ?_
  refine j_ldc2d C q2_116 dX6_isSurelyWhole_1 ?_
  refine j_dcmp C dX6_isSurelyWhole_4 ?_
  refine j_if_ge C 16 hg dX6_isSurelyWhole_5 (by decide) (fun hg => ?_) (fun hg => ?_)
  · refine j_iconst (v := 1) C dX6_isSurelyWhole_16 (by decide) ?_
    refine j_goto C 21 dX6_isSurelyWhole_17 (by decide) ?_
    exact j_zret C dX6_isSurelyWhole_21 (by decide) (by rw [← Option.some.inj hg]) rfl rfl
  · refine j_dload_n C dX6_isSurelyWhole_8 0 rfl rfl ?_
    refine j_ldc2d C q2_117 dX6_isSurelyWhole_9 ?_
    refine j_dcmp C dX6_isSurelyWhole_12 ?_
    refine j_if_gt C 20 hg dX6_isSurelyWhole_13 (by decide) (fun hg => ?_) (fun hg => ?_)
    · refine j_iconst (v := 0) C dX6_isSurelyWhole_20 (by decide) ?_
      exact j_zret C dX6_isSurelyWhole_21 (by decide) (by rw [← Option.some.inj hg]) rfl rfl
    · refine j_iconst (v := 1) C dX6_isSurelyWhole_16 (by decide) ?_
      refine j_goto C 21 dX6_isSurelyWhole_17 (by decide) ?_
      exact j_zret C dX6_isSurelyWhole_21 (by decide) (by rw [← Option.some.inj hg]) rfl rfl
