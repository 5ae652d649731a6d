def gX6_isBelow (x0 : UInt64) (x1 : UInt64) : Option Int32 := if (Op.cmpValue (FP.dcmp x0 x1) CmpOp.g) < 0 then (some (1 : Int32)) else (if (Op.cmpValue (FP.dcmp x0 FP.dconst0) CmpOp.l) = 0 then (if (Op.cmpValue (FP.dcmp x1 FP.dconst0) CmpOp.l) = 0 then (if FP.dIsNaN (FP.ddiv FP.dconst1 x0) = false then (if FP.dIsNaN (FP.ddiv FP.dconst1 x1) = false then (if 0 ≤ (Op.cmpValue (FP.dcmp (FP.ddiv FP.dconst1 x0) (FP.ddiv FP.dconst1 x1)) CmpOp.g) then (some (0 : Int32)) else (some (1 : Int32))) else none) else none) else (some (0 : Int32))) else (some (0 : Int32)))
theorem hd_X6_isBelow : yX6_isBelow.cls ≠ "java/lang/invoke/MethodHandle" ∧ yX6_isBelow.cls ≠ "java/lang/invoke/VarHandle" ∧ (parseMethodDescriptor yX6_isBelow.desc).map (fun d => d.parameters.length) = some 2 := by decide +kernel
set_option maxHeartbeats 4000000 in
set_option maxRecDepth 100000 in
theorem tX6_isBelow {G : GG} {l : Launch} {z N : Nat} {ct : Nat → va_E} (x0 : UInt64) (x1 : UInt64) {r : Int32} (hg : gX6_isBelow x0 x1 = some r) : Ct G l yX6_isBelow cX6_isBelow 4 (some .boolean) ({ frames := 0, cells := 0, slots := 0, locals := 0 } : Room) [.double x0, .double x1] z ct N (some (.int r)) ct N := by
  refine Ct.of (lv := [(0, .double x0), (2, .double x1)]) (by decide +kernel) (Nat.le_of_ble_eq_true rfl) rfl (fun p e s m args below meth c C => ?_)
  rw [gX6_isBelow] at hg
  refine j_dload_n C dX6_isBelow_0 0 rfl rfl ?_
  refine j_dload_n C dX6_isBelow_1 1 rfl rfl ?_
  refine j_dcmp C dX6_isBelow_2 ?_
  refine j_if_lt C 28 hg dX6_isBelow_3 (by decide) (fun hg => ?_) (fun hg => ?_)
  · refine j_iconst (v := 1) C dX6_isBelow_28 (by decide) ?_
    refine j_goto C 33 dX6_isBelow_29 (by decide) ?_
    exact j_zret C dX6_isBelow_33 (by decide) (by rw [← Option.some.inj hg]) rfl rfl
  · refine j_dload_n C dX6_isBelow_6 0 rfl rfl ?_
    refine j_dconst0 C dX6_isBelow_7 ?_
    refine j_dcmp C dX6_isBelow_8 ?_
    refine j_if_ne C 32 hg dX6_isBelow_9 (by decide) (fun hg => ?_) (fun hg => ?_)
    · refine j_iconst (v := 0) C dX6_isBelow_32 (by decide) ?_
      exact j_zret C dX6_isBelow_33 (by decide) (by rw [← Option.some.inj hg]) rfl rfl
    · refine j_dload_n C dX6_isBelow_12 1 rfl rfl ?_
      refine j_dconst0 C dX6_isBelow_13 ?_
      refine j_dcmp C dX6_isBelow_14 ?_
      refine j_if_ne C 32 hg dX6_isBelow_15 (by decide) (fun hg => ?_) (fun hg => ?_)
      · refine j_iconst (v := 0) C dX6_isBelow_32 (by decide) ?_
        exact j_zret C dX6_isBelow_33 (by decide) (by rw [← Option.some.inj hg]) rfl rfl
      · refine j_dconst1 C dX6_isBelow_18 ?_
        refine j_dload_n C dX6_isBelow_19 0 rfl rfl ?_
        refine j_ddiv C hg dX6_isBelow_20 (fun hg => ?_)
        refine j_dconst1 C dX6_isBelow_21 ?_
        refine j_dload_n C dX6_isBelow_22 1 rfl rfl ?_
        refine j_ddiv C hg dX6_isBelow_23 (fun hg => ?_)
        refine j_dcmp C dX6_isBelow_24 ?_
        refine j_if_ge C 32 hg dX6_isBelow_25 (by decide) (fun hg => ?_) (fun hg => ?_)
        · refine j_iconst (v := 0) C dX6_isBelow_32 (by decide) ?_
          exact j_zret C dX6_isBelow_33 (by decide) (by rw [← Option.some.inj hg]) rfl rfl
        · refine j_iconst (v := 1) C dX6_isBelow_28 (by decide) ?_
          refine j_goto C 33 dX6_isBelow_29 (by decide) ?_
          exact j_zret C dX6_isBelow_33 (by decide) (by rw [← Option.some.inj hg]) rfl rfl
