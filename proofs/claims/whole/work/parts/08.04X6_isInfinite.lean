def gX6_isInfinite (x0 : UInt64) : Option Int32 := if 0 < (Op.cmpValue (FP.dcmp x0 (9218868437227405311 : UInt64)) CmpOp.l) then (some (1 : Int32)) else (if 0 ≤ (Op.cmpValue (FP.dcmp x0 (18442240474082181119 : UInt64)) CmpOp.g) then (some (0 : Int32)) else (some (1 : Int32)))
theorem hd_X6_isInfinite : yX6_isInfinite.cls ≠ "java/lang/invoke/MethodHandle" ∧ yX6_isInfinite.cls ≠ "java/lang/invoke/VarHandle" ∧ (parseMethodDescriptor yX6_isInfinite.desc).map (fun d => d.parameters.length) = some 1 := by decide +kernel
set_option maxHeartbeats 4000000 in
set_option maxRecDepth 100000 in
theorem tX6_isInfinite {G : GG} {l : Launch} {z N : Nat} {ct : Nat → va_E} (x0 : UInt64) {r : Int32} (hg : gX6_isInfinite x0 = some r) : Ct G l yX6_isInfinite cX6_isInfinite 2 (some .boolean) ({ frames := 0, cells := 0, slots := 0, locals := 0 } : Room) [.double x0] z ct N (some (.int r)) ct N := by
  refine Ct.of (lv := [(0, .double x0)]) (by decide +kernel) (Nat.le_of_ble_eq_true rfl) rfl (fun p e s m args below meth c C => ?_)
  rw [gX6_isInfinite] at hg
  refine j_dload_n C dX6_isInfinite_0 0 rfl rfl ?_
  refine j_ldc2d C q2_16 dX6_isInfinite_1 ?_
  refine j_dcmp C dX6_isInfinite_4 ?_
  refine j_if_gt C 16 hg dX6_isInfinite_5 (by decide) (fun hg => ?_) (fun hg => ?_)
  · refine j_iconst (v := 1) C dX6_isInfinite_16 (by decide) ?_
    refine j_goto C 21 dX6_isInfinite_17 (by decide) ?_
    exact j_zret C dX6_isInfinite_21 (by decide) (by rw [← Option.some.inj hg]) rfl rfl
  · refine j_dload_n C dX6_isInfinite_8 0 rfl rfl ?_
    refine j_ldc2d C q2_142 dX6_isInfinite_9 ?_
    refine j_dcmp C dX6_isInfinite_12 ?_
    refine j_if_ge C 20 hg dX6_isInfinite_13 (by decide) (fun hg => ?_) (fun hg => ?_)
    · refine j_iconst (v := 0) C dX6_isInfinite_20 (by decide) ?_
      exact j_zret C dX6_isInfinite_21 (by decide) (by rw [← Option.some.inj hg]) rfl rfl
    · refine j_iconst (v := 1) C dX6_isInfinite_16 (by decide) ?_
      refine j_goto C 21 dX6_isInfinite_17 (by decide) ?_
      exact j_zret C dX6_isInfinite_21 (by decide) (by rw [← Option.some.inj hg]) rfl rfl
