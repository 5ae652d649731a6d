def gX6_hasMinus (x0 : UInt64) : Option Int32 := if (Op.cmpValue (FP.dcmp x0 FP.dconst0) CmpOp.g) < 0 then (some (1 : Int32)) else (if (Op.cmpValue (FP.dcmp x0 FP.dconst0) CmpOp.l) = 0 then (if FP.dIsNaN (FP.ddiv FP.dconst1 x0) = false then (if 0 ≤ (Op.cmpValue (FP.dcmp (FP.ddiv FP.dconst1 x0) FP.dconst0) CmpOp.g) then (some (0 : Int32)) else (some (1 : Int32))) else none) else (some (0 : Int32)))
theorem hd_X6_hasMinus : yX6_hasMinus.cls ≠ "java/lang/invoke/MethodHandle" ∧ yX6_hasMinus.cls ≠ "java/lang/invoke/VarHandle" ∧ (parseMethodDescriptor yX6_hasMinus.desc).map (fun d => d.parameters.length) = some 1 := by decide +kernel
set_option maxHeartbeats 4000000 in
set_option maxRecDepth 100000 in
theorem tX6_hasMinus {G : GG} {l : Launch} {z N : Nat} {ct : Nat → va_E} (x0 : UInt64) {r : Int32} (hg : gX6_hasMinus x0 = some r) : Ct G l yX6_hasMinus cX6_hasMinus 2 (some .boolean) ({ frames := 0, cells := 0, slots := 0, locals := 0 } : Room) [.double x0] z ct N (some (.int r)) ct N := by
  refine Ct.of (lv := [(0, .double x0)]) (by decide +kernel) (Nat.le_of_ble_eq_true rfl) rfl (fun p e s m args below meth c C => ?_)
  rw [gX6_hasMinus] at hg
  refine j_dload_n C dX6_hasMinus_0 0 rfl rfl ?_
  refine j_dconst0 C dX6_hasMinus_1 ?_
  refine j_dcmp C dX6_hasMinus_2 ?_
  refine j_if_lt C 20 hg dX6_hasMinus_3 (by decide) (fun hg => ?_) (fun hg => ?_)
  · refine j_iconst (v := 1) C dX6_hasMinus_20 (by decide) ?_
    refine j_goto C 25 dX6_hasMinus_21 (by decide) ?_
    exact j_zret C dX6_hasMinus_25 (by decide) (by rw [← Option.some.inj hg]) rfl rfl
  · refine j_dload_n C dX6_hasMinus_6 0 rfl rfl ?_
    refine j_dconst0 C dX6_hasMinus_7 ?_
    refine j_dcmp C dX6_hasMinus_8 ?_
    refine j_if_ne C 24 hg dX6_hasMinus_9 (by decide) (fun hg => ?_) (fun hg => ?_)
    · refine j_iconst (v := 0) C dX6_hasMinus_24 (by decide) ?_
      exact j_zret C dX6_hasMinus_25 (by decide) (by rw [← Option.some.inj hg]) rfl rfl
    · refine j_dconst1 C dX6_hasMinus_12 ?_
      refine j_dload_n C dX6_hasMinus_13 0 rfl rfl ?_
      refine j_ddiv C hg dX6_hasMinus_14 (fun hg => ?_)
      refine j_dconst0 C dX6_hasMinus_15 ?_
      refine j_dcmp C dX6_hasMinus_16 ?_
      refine j_if_ge C 24 hg dX6_hasMinus_17 (by decide) (fun hg => ?_) (fun hg => ?_)
      · refine j_iconst (v := 0) C dX6_hasMinus_24 (by decide) ?_
        exact j_zret C dX6_hasMinus_25 (by decide) (by rw [← Option.some.inj hg]) rfl rfl
      · refine j_iconst (v := 1) C dX6_hasMinus_20 (by decide) ?_
        refine j_goto C 25 dX6_hasMinus_21 (by decide) ?_
        exact j_zret C dX6_hasMinus_25 (by decide) (by rw [← Option.some.inj hg]) rfl rfl
