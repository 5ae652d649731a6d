def gX1_widePower (x0 : Int64) : Option Int32 := if ((x0 >>> ((52 : Int32).toInt64 &&& 63)).toInt32) = 0 then (some (((1 : Int32) - (1023 : Int32)) - (52 : Int32))) else (some ((((x0 >>> ((52 : Int32).toInt64 &&& 63)).toInt32) - (1023 : Int32)) - (52 : Int32)))
theorem hd_X1_widePower : yX1_widePower.cls ≠ "java/lang/invoke/MethodHandle" ∧ yX1_widePower.cls ≠ "java/lang/invoke/VarHandle" ∧ (parseMethodDescriptor yX1_widePower.desc).map (fun d => d.parameters.length) = some 1 := by decide +kernel
set_option maxHeartbeats 4000000 in
set_option maxRecDepth 100000 in
theorem tX1_widePower {G : GG} {l : Launch} {z N : Nat} {ct : Nat → va_E} (x0 : Int64) {r : Int32} (hg : gX1_widePower x0 = some r) : Ct G l yX1_widePower cX1_widePower 3 (some .int) ({ frames := 0, cells := 0, slots := 0, locals := 0 } : Room) [.long x0] z ct N (some (.int r)) ct N := by
  refine Ct.of (lv := [(0, .long x0)]) (by decide +kernel) (Nat.le_of_ble_eq_true rfl) rfl (fun p e s m args below meth c C => ?_)
  rw [gX1_widePower] at hg
  refine j_lload_n C dX1_widePower_0 0 rfl rfl ?_
  refine j_bipush (v := 52) C dX1_widePower_1 (by decide) ?_
  refine j_lshr C dX1_widePower_3 ?_
  refine j_l2i C dX1_widePower_4 ?_
  refine j_istore_n C [(2, .int ((x0 >>> ((52 : Int32).toInt64 &&& 63)).toInt32)), (0, .long x0)] dX1_widePower_5 rfl (by decide) rfl ?_
  refine j_iload_n C dX1_widePower_6 0 rfl rfl ?_
  refine j_if_ne C 14 hg dX1_widePower_7 (by decide) (fun hg => ?_) (fun hg => ?_)
  · refine j_iload_n C dX1_widePower_14 0 rfl rfl ?_
    refine j_sipush (v := 1023) C dX1_widePower_15 (by decide) ?_
    refine j_isub C dX1_widePower_18 ?_
    refine j_bipush (v := 52) C dX1_widePower_19 (by decide) ?_
    refine j_isub C dX1_widePower_21 ?_
    exact j_iret C dX1_widePower_22 (by rw [← Option.some.inj hg]) rfl rfl
  · refine j_iconst (v := 1) C dX1_widePower_10 (by decide) ?_
    refine j_goto C 15 dX1_widePower_11 (by decide) ?_
    refine j_sipush (v := 1023) C dX1_widePower_15 (by decide) ?_
    refine j_isub C dX1_widePower_18 ?_
    refine j_bipush (v := 52) C dX1_widePower_19 (by decide) ?_
    refine j_isub C dX1_widePower_21 ?_
    exact j_iret C dX1_widePower_22 (by rw [← Option.some.inj hg]) rfl rfl
