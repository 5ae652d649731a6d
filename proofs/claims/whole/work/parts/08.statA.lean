def gJ6_bitCount_0f7a4 (x0 : Int32) : Option Int32 := some ((((((((x0 - (((x0.toUInt32 >>> ((1 : Int32).toUInt32 &&& Int32.toUInt32 31)).toInt32) &&& (1431655765 : Int32))) &&& (858993459 : Int32)) + ((((x0 - (((x0.toUInt32 >>> ((1 : Int32).toUInt32 &&& Int32.toUInt32 31)).toInt32) &&& (1431655765 : Int32))).toUInt32 >>> ((2 : Int32).toUInt32 &&& Int32.toUInt32 31)).toInt32) &&& (858993459 : Int32))) + (((((x0 - (((x0.toUInt32 >>> ((1 : Int32).toUInt32 &&& Int32.toUInt32 31)).toInt32) &&& (1431655765 : Int32))) &&& (858993459 : Int32)) + ((((x0 - (((x0.toUInt32 >>> ((1 : Int32).toUInt32 &&& Int32.toUInt32 31)).toInt32) &&& (1431655765 : Int32))).toUInt32 >>> ((2 : Int32).toUInt32 &&& Int32.toUInt32 31)).toInt32) &&& (858993459 : Int32))).toUInt32 >>> ((4 : Int32).toUInt32 &&& Int32.toUInt32 31)).toInt32)) &&& (252645135 : Int32)) + (((((((x0 - (((x0.toUInt32 >>> ((1 : Int32).toUInt32 &&& Int32.toUInt32 31)).toInt32) &&& (1431655765 : Int32))) &&& (858993459 : Int32)) + ((((x0 - (((x0.toUInt32 >>> ((1 : Int32).toUInt32 &&& Int32.toUInt32 31)).toInt32) &&& (1431655765 : Int32))).toUInt32 >>> ((2 : Int32).toUInt32 &&& Int32.toUInt32 31)).toInt32) &&& (858993459 : Int32))) + (((((x0 - (((x0.toUInt32 >>> ((1 : Int32).toUInt32 &&& Int32.toUInt32 31)).toInt32) &&& (1431655765 : Int32))) &&& (858993459 : Int32)) + ((((x0 - (((x0.toUInt32 >>> ((1 : Int32).toUInt32 &&& Int32.toUInt32 31)).toInt32) &&& (1431655765 : Int32))).toUInt32 >>> ((2 : Int32).toUInt32 &&& Int32.toUInt32 31)).toInt32) &&& (858993459 : Int32))).toUInt32 >>> ((4 : Int32).toUInt32 &&& Int32.toUInt32 31)).toInt32)) &&& (252645135 : Int32)).toUInt32 >>> ((8 : Int32).toUInt32 &&& Int32.toUInt32 31)).toInt32)) + ((((((((x0 - (((x0.toUInt32 >>> ((1 : Int32).toUInt32 &&& Int32.toUInt32 31)).toInt32) &&& (1431655765 : Int32))) &&& (858993459 : Int32)) + ((((x0 - (((x0.toUInt32 >>> ((1 : Int32).toUInt32 &&& Int32.toUInt32 31)).toInt32) &&& (1431655765 : Int32))).toUInt32 >>> ((2 : Int32).toUInt32 &&& Int32.toUInt32 31)).toInt32) &&& (858993459 : Int32))) + (((((x0 - (((x0.toUInt32 >>> ((1 : Int32).toUInt32 &&& Int32.toUInt32 31)).toInt32) &&& (1431655765 : Int32))) &&& (858993459 : Int32)) + ((((x0 - (((x0.toUInt32 >>> ((1 : Int32).toUInt32 &&& Int32.toUInt32 31)).toInt32) &&& (1431655765 : Int32))).toUInt32 >>> ((2 : Int32).toUInt32 &&& Int32.toUInt32 31)).toInt32) &&& (858993459 : Int32))).toUInt32 >>> ((4 : Int32).toUInt32 &&& Int32.toUInt32 31)).toInt32)) &&& (252645135 : Int32)) + (((((((x0 - (((x0.toUInt32 >>> ((1 : Int32).toUInt32 &&& Int32.toUInt32 31)).toInt32) &&& (1431655765 : Int32))) &&& (858993459 : Int32)) + ((((x0 - (((x0.toUInt32 >>> ((1 : Int32).toUInt32 &&& Int32.toUInt32 31)).toInt32) &&& (1431655765 : Int32))).toUInt32 >>> ((2 : Int32).toUInt32 &&& Int32.toUInt32 31)).toInt32) &&& (858993459 : Int32))) + (((((x0 - (((x0.toUInt32 >>> ((1 : Int32).toUInt32 &&& Int32.toUInt32 31)).toInt32) &&& (1431655765 : Int32))) &&& (858993459 : Int32)) + ((((x0 - (((x0.toUInt32 >>> ((1 : Int32).toUInt32 &&& Int32.toUInt32 31)).toInt32) &&& (1431655765 : Int32))).toUInt32 >>> ((2 : Int32).toUInt32 &&& Int32.toUInt32 31)).toInt32) &&& (858993459 : Int32))).toUInt32 >>> ((4 : Int32).toUInt32 &&& Int32.toUInt32 31)).toInt32)) &&& (252645135 : Int32)).toUInt32 >>> ((8 : Int32).toUInt32 &&& Int32.toUInt32 31)).toInt32)).toUInt32 >>> ((16 : Int32).toUInt32 &&& Int32.toUInt32 31)).toInt32)) &&& (63 : Int32))
theorem hd_J6_bitCount_0f7a4 : yJ6_bitCount_0f7a4.cls ≠ "java/lang/invoke/MethodHandle" ∧ yJ6_bitCount_0f7a4.cls ≠ "java/lang/invoke/VarHandle" ∧ (parseMethodDescriptor yJ6_bitCount_0f7a4.desc).map (fun d => d.parameters.length) = some 1 := by decide +kernel
set_option maxHeartbeats 4000000 in
set_option maxRecDepth 100000 in
theorem tJ6_bitCount_0f7a4 {G : GG} {l : Launch} {z N : Nat} {ct : Nat → va_E} (x0 : Int32) {r : Int32} (hg : gJ6_bitCount_0f7a4 x0 = some r) : Ct G l yJ6_bitCount_0f7a4 cJ6_bitCount_0f7a4 1 (some .int) ({ frames := 0, cells := 0, slots := 0, locals := 0 } : Room) [.int x0] z ct N (some (.int r)) ct N := by
  refine Ct.of (lv := [(0, .int x0)]) (by decide +kernel) (Nat.le_of_ble_eq_true rfl) rfl (fun p e s m args below meth c C => ?_)
  rw [gJ6_bitCount_0f7a4] at hg
  refine j_iload_n C dJ6_bitCount_0f7a4_0 0 rfl rfl ?_
  refine j_iload_n C dJ6_bitCount_0f7a4_1 0 rfl rfl ?_
  refine j_iconst (v := 1) C dJ6_bitCount_0f7a4_2 (by decide) ?_
  refine j_iushr C dJ6_bitCount_0f7a4_3 ?_
  refine j_ldcw C q3_26 dJ6_bitCount_0f7a4_4 ?_
  refine j_iand C dJ6_bitCount_0f7a4_7 ?_
  refine j_isub C dJ6_bitCount_0f7a4_8 ?_
  refine j_istore_n C [(0, .int (x0 - (((x0.toUInt32 >>> ((1 : Int32).toUInt32 &&& Int32.toUInt32 31)).toInt32) &&& (1431655765 : Int32))))] dJ6_bitCount_0f7a4_9 rfl (by decide) rfl ?_
  refine j_iload_n C dJ6_bitCount_0f7a4_10 0 rfl rfl ?_
  refine j_ldcw C q3_27 dJ6_bitCount_0f7a4_11 ?_
  refine j_iand C dJ6_bitCount_0f7a4_14 ?_
  refine j_iload_n C dJ6_bitCount_0f7a4_15 0 rfl rfl ?_
  refine j_iconst (v := 2) C dJ6_bitCount_0f7a4_16 (by decide) ?_
  refine j_iushr C dJ6_bitCount_0f7a4_17 ?_
  refine j_ldcw C q3_27 dJ6_bitCount_0f7a4_18 ?_
  refine j_iand C dJ6_bitCount_0f7a4_21 ?_
  refine j_iadd C dJ6_bitCount_0f7a4_22 ?_
  refine j_istore_n C [(0, .int (((x0 - (((x0.toUInt32 >>> ((1 : Int32).toUInt32 &&& Int32.toUInt32 31)).toInt32) &&& (1431655765 : Int32))) &&& (858993459 : Int32)) + ((((x0 - (((x0.toUInt32 >>> ((1 : Int32).toUInt32 &&& Int32.toUInt32 31)).toInt32) &&& (1431655765 : Int32))).toUInt32 >>> ((2 : Int32).toUInt32 &&& Int32.toUInt32 31)).toInt32) &&& (858993459 : Int32))))] dJ6_bitCount_0f7a4_23 rfl (by decide) rfl ?_
  refine j_iload_n C dJ6_bitCount_0f7a4_24 0 rfl rfl ?_
  refine j_iload_n C dJ6_bitCount_0f7a4_25 0 rfl rfl ?_
  refine j_iconst (v := 4) C dJ6_bitCount_0f7a4_26 (by decide) ?_
  refine j_iushr C dJ6_bitCount_0f7a4_27 ?_
  refine j_iadd C dJ6_bitCount_0f7a4_28 ?_
  refine j_ldcw C q3_28 dJ6_bitCount_0f7a4_29 ?_
  refine j_iand C dJ6_bitCount_0f7a4_32 ?_
  refine j_istore_n C [(0, .int (((((x0 - (((x0.toUInt32 >>> ((1 : Int32).toUInt32 &&& Int32.toUInt32 31)).toInt32) &&& (1431655765 : Int32))) &&& (858993459 : Int32)) + ((((x0 - (((x0.toUInt32 >>> ((1 : Int32).toUInt32 &&& Int32.toUInt32 31)).toInt32) &&& (1431655765 : Int32))).toUInt32 >>> ((2 : Int32).toUInt32 &&& Int32.toUInt32 31)).toInt32) &&& (858993459 : Int32))) + (((((x0 - (((x0.toUInt32 >>> ((1 : Int32).toUInt32 &&& Int32.toUInt32 31)).toInt32) &&& (1431655765 : Int32))) &&& (858993459 : Int32)) + ((((x0 - (((x0.toUInt32 >>> ((1 : Int32).toUInt32 &&& Int32.toUInt32 31)).toInt32) &&& (1431655765 : Int32))).toUInt32 >>> ((2 : Int32).toUInt32 &&& Int32.toUInt32 31)).toInt32) &&& (858993459 : Int32))).toUInt32 >>> ((4 : Int32).toUInt32 &&& Int32.toUInt32 31)).toInt32)) &&& (252645135 : Int32)))] dJ6_bitCount_0f7a4_33 rfl (by decide) rfl ?_
  refine j_iload_n C dJ6_bitCount_0f7a4_34 0 rfl rfl ?_
  refine j_iload_n C dJ6_bitCount_0f7a4_35 0 rfl rfl ?_
  refine j_bipush (v := 8) C dJ6_bitCount_0f7a4_36 (by decide) ?_
  refine j_iushr C dJ6_bitCount_0f7a4_38 ?_
  refine j_iadd C dJ6_bitCount_0f7a4_39 ?_
  refine j_istore_n C [(0, .int ((((((x0 - (((x0.toUInt32 >>> ((1 : Int32).toUInt32 &&& Int32.toUInt32 31)).toInt32) &&& (1431655765 : Int32))) &&& (858993459 : Int32)) + ((((x0 - (((x0.toUInt32 >>> ((1 : Int32).toUInt32 &&& Int32.toUInt32 31)).toInt32) &&& (1431655765 : Int32))).toUInt32 >>> ((2 : Int32).toUInt32 &&& Int32.toUInt32 31)).toInt32) &&& (858993459 : Int32))) + (((((x0 - (((x0.toUInt32 >>> ((1 : Int32).toUInt32 &&& Int32.toUInt32 31)).toInt32) &&& (1431655765 : Int32))) &&& (858993459 : Int32)) + ((((x0 - (((x0.toUInt32 >>> ((1 : Int32).toUInt32 &&& Int32.toUInt32 31)).toInt32) &&& (1431655765 : Int32))).toUInt32 >>> ((2 : Int32).toUInt32 &&& Int32.toUInt32 31)).toInt32) &&& (858993459 : Int32))).toUInt32 >>> ((4 : Int32).toUInt32 &&& Int32.toUInt32 31)).toInt32)) &&& (252645135 : Int32)) + (((((((x0 - (((x0.toUInt32 >>> ((1 : Int32).toUInt32 &&& Int32.toUInt32 31)).toInt32) &&& (1431655765 : Int32))) &&& (858993459 : Int32)) + ((((x0 - (((x0.toUInt32 >>> ((1 : Int32).toUInt32 &&& Int32.toUInt32 31)).toInt32) &&& (1431655765 : Int32))).toUInt32 >>> ((2 : Int32).toUInt32 &&& Int32.toUInt32 31)).toInt32) &&& (858993459 : Int32))) + (((((x0 - (((x0.toUInt32 >>> ((1 : Int32).toUInt32 &&& Int32.toUInt32 31)).toInt32) &&& (1431655765 : Int32))) &&& (858993459 : Int32)) + ((((x0 - (((x0.toUInt32 >>> ((1 : Int32).toUInt32 &&& Int32.toUInt32 31)).toInt32) &&& (1431655765 : Int32))).toUInt32 >>> ((2 : Int32).toUInt32 &&& Int32.toUInt32 31)).toInt32) &&& (858993459 : Int32))).toUInt32 >>> ((4 : Int32).toUInt32 &&& Int32.toUInt32 31)).toInt32)) &&& (252645135 : Int32)).toUInt32 >>> ((8 : Int32).toUInt32 &&& Int32.toUInt32 31)).toInt32)))] dJ6_bitCount_0f7a4_40 rfl (by decide) rfl ?_
  refine j_iload_n C dJ6_bitCount_0f7a4_41 0 rfl rfl ?_
  refine j_iload_n C dJ6_bitCount_0f7a4_42 0 rfl rfl ?_
  refine j_bipush (v := 16) C dJ6_bitCount_0f7a4_43 (by decide) ?_
  refine j_iushr C dJ6_bitCount_0f7a4_45 ?_
  refine j_iadd C dJ6_bitCount_0f7a4_46 ?_
  refine j_istore_n C [(0, .int (((((((x0 - (((x0.toUInt32 >>> ((1 : Int32).toUInt32 &&& Int32.toUInt32 31)).toInt32) &&& (1431655765 : Int32))) &&& (858993459 : Int32)) + ((((x0 - (((x0.toUInt32 >>> ((1 : Int32).toUInt32 &&& Int32.toUInt32 31)).toInt32) &&& (1431655765 : Int32))).toUInt32 >>> ((2 : Int32).toUInt32 &&& Int32.toUInt32 31)).toInt32) &&& (858993459 : Int32))) + (((((x0 - (((x0.toUInt32 >>> ((1 : Int32).toUInt32 &&& Int32.toUInt32 31)).toInt32) &&& (1431655765 : Int32))) &&& (858993459 : Int32)) + ((((x0 - (((x0.toUInt32 >>> ((1 : Int32).toUInt32 &&& Int32.toUInt32 31)).toInt32) &&& (1431655765 : Int32))).toUInt32 >>> ((2 : Int32).toUInt32 &&& Int32.toUInt32 31)).toInt32) &&& (858993459 : Int32))).toUInt32 >>> ((4 : Int32).toUInt32 &&& Int32.toUInt32 31)).toInt32)) &&& (252645135 : Int32)) + (((((((x0 - (((x0.toUInt32 >>> ((1 : Int32).toUInt32 &&& Int32.toUInt32 31)).toInt32) &&& (1431655765 : Int32))) &&& (858993459 : Int32)) + ((((x0 - (((x0.toUInt32 >>> ((1 : Int32).toUInt32 &&& Int32.toUInt32 31)).toInt32) &&& (1431655765 : Int32))).toUInt32 >>> ((2 : Int32).toUInt32 &&& Int32.toUInt32 31)).toInt32) &&& (858993459 : Int32))) + (((((x0 - (((x0.toUInt32 >>> ((1 : Int32).toUInt32 &&& Int32.toUInt32 31)).toInt32) &&& (1431655765 : Int32))) &&& (858993459 : Int32)) + ((((x0 - (((x0.toUInt32 >>> ((1 : Int32).toUInt32 &&& Int32.toUInt32 31)).toInt32) &&& (1431655765 : Int32))).toUInt32 >>> ((2 : Int32).toUInt32 &&& Int32.toUInt32 31)).toInt32) &&& (858993459 : Int32))).toUInt32 >>> ((4 : Int32).toUInt32 &&& Int32.toUInt32 31)).toInt32)) &&& (252645135 : Int32)).toUInt32 >>> ((8 : Int32).toUInt32 &&& Int32.toUInt32 31)).toInt32)) + ((((((((x0 - (((x0.toUInt32 >>> ((1 : Int32).toUInt32 &&& Int32.toUInt32 31)).toInt32) &&& (1431655765 : Int32))) &&& (858993459 : Int32)) + ((((x0 - (((x0.toUInt32 >>> ((1 : Int32).toUInt32 &&& Int32.toUInt32 31)).toInt32) &&& (1431655765 : Int32))).toUInt32 >>> ((2 : Int32).toUInt32 &&& Int32.toUInt32 31)).toInt32) &&& (858993459 : Int32))) + (((((x0 - (((x0.toUInt32 >>> ((1 : Int32).toUInt32 &&& Int32.toUInt32 31)).toInt32) &&& (1431655765 : Int32))) &&& (858993459 : Int32)) + ((((x0 - (((x0.toUInt32 >>> ((1 : Int32).toUInt32 &&& Int32.toUInt32 31)).toInt32) &&& (1431655765 : Int32))).toUInt32 >>> ((2 : Int32).toUInt32 &&& Int32.toUInt32 31)).toInt32) &&& (858993459 : Int32))).toUInt32 >>> ((4 : Int32).toUInt32 &&& Int32.toUInt32 31)).toInt32)) &&& (252645135 : Int32)) + (((((((x0 - (((x0.toUInt32 >>> ((1 : Int32).toUInt32 &&& Int32.toUInt32 31)).toInt32) &&& (1431655765 : Int32))) &&& (858993459 : Int32)) + ((((x0 - (((x0.toUInt32 >>> ((1 : Int32).toUInt32 &&& Int32.toUInt32 31)).toInt32) &&& (1431655765 : Int32))).toUInt32 >>> ((2 : Int32).toUInt32 &&& Int32.toUInt32 31)).toInt32) &&& (858993459 : Int32))) + (((((x0 - (((x0.toUInt32 >>> ((1 : Int32).toUInt32 &&& Int32.toUInt32 31)).toInt32) &&& (1431655765 : Int32))) &&& (858993459 : Int32)) + ((((x0 - (((x0.toUInt32 >>> ((1 : Int32).toUInt32 &&& Int32.toUInt32 31)).toInt32) &&& (1431655765 : Int32))).toUInt32 >>> ((2 : Int32).toUInt32 &&& Int32.toUInt32 31)).toInt32) &&& (858993459 : Int32))).toUInt32 >>> ((4 : Int32).toUInt32 &&& Int32.toUInt32 31)).toInt32)) &&& (252645135 : Int32)).toUInt32 >>> ((8 : Int32).toUInt32 &&& Int32.toUInt32 31)).toInt32)).toUInt32 >>> ((16 : Int32).toUInt32 &&& Int32.toUInt32 31)).toInt32)))] dJ6_bitCount_0f7a4_47 rfl (by decide) rfl ?_
  refine j_iload_n C dJ6_bitCount_0f7a4_48 0 rfl rfl ?_
  refine j_bipush (v := 63) C dJ6_bitCount_0f7a4_49 (by decide) ?_
  refine j_iand C dJ6_bitCount_0f7a4_51 ?_
  exact j_iret C dJ6_bitCount_0f7a4_52 (by rw [← Option.some.inj hg]) rfl rfl

def gX6_brought (x0 : UInt64) (x1 : Int32) : Option UInt64 := if x1 = 0 then (some x0) else (if FP.fIsNaN (FP.d2f x0) = false then (if FP.dIsNaN (FP.f2d (FP.d2f x0)) = false then (some (FP.f2d (FP.d2f x0))) else none) else none)
theorem hd_X6_brought : yX6_brought.cls ≠ "java/lang/invoke/MethodHandle" ∧ yX6_brought.cls ≠ "java/lang/invoke/VarHandle" ∧ (parseMethodDescriptor yX6_brought.desc).map (fun d => d.parameters.length) = some 2 := by decide +kernel
set_option maxHeartbeats 4000000 in
set_option maxRecDepth 100000 in
theorem tX6_brought {G : GG} {l : Launch} {z N : Nat} {ct : Nat → va_E} (x0 : UInt64) (x1 : Int32) {r : UInt64} (hg : gX6_brought x0 x1 = some r) : Ct G l yX6_brought cX6_brought 3 (some .double) ({ frames := 0, cells := 0, slots := 0, locals := 0 } : Room) [.double x0, .int x1] z ct N (some (.double r)) ct N := by
  refine Ct.of (lv := [(0, .double x0), (2, .int x1)]) (by decide +kernel) (Nat.le_of_ble_eq_true rfl) rfl (fun p e s m args below meth c C => ?_)
  rw [gX6_brought] at hg
  refine j_iload_n C dX6_brought_0 1 rfl rfl ?_
  refine j_if_eq C 10 hg dX6_brought_1 (by decide) (fun hg => ?_) (fun hg => ?_)
  · refine j_dload_n C dX6_brought_10 0 rfl rfl ?_
    exact j_dret C dX6_brought_11 (by rw [← Option.some.inj hg]) rfl rfl
  · refine j_dload_n C dX6_brought_4 0 rfl rfl ?_
    refine j_d2f C hg dX6_brought_5 (fun hg => ?_)
    refine j_f2d C hg dX6_brought_6 (fun hg => ?_)
    refine j_goto C 11 dX6_brought_7 (by decide) ?_
    exact j_dret C dX6_brought_11 (by rw [← Option.some.inj hg]) rfl rfl

def gX6_twoTo_52 (x0 : Int32) (k31 : UInt64 → UInt64 → Int32 → Int32 → Option UInt64) (v1 : UInt64) (v3 : UInt64) (v5 : Int32) (v6 : Int32) : Option UInt64 := if FP.dIsNaN (FP.dmul v3 v3) = false then (k31 v1 (FP.dmul v3 v3) v5 (v6 + (1 : Int32))) else none
def gX6_twoTo_31 (x0 : Int32) (k31 : UInt64 → UInt64 → Int32 → Int32 → Option UInt64) (v1 : UInt64) (v3 : UInt64) (v5 : Int32) (v6 : Int32) : Option UInt64 := if (11 : Int32) ≤ v6 then (some v1) else (if ((v5 >>> (v6 &&& 31)) &&& (1 : Int32)) = 0 then (gX6_twoTo_52 x0 k31 v1 v3 v5 v6) else (if FP.dIsNaN (FP.dmul v1 v3) = false then (gX6_twoTo_52 x0 k31 (FP.dmul v1 v3) v3 v5 v6) else none))
def gX6_twoTo_26 (x0 : Int32) (v1 : UInt64) (v3 : UInt64) (s0 : Int32) : Option UInt64 := lq4 (gX6_twoTo_31 x0) 20 v1 v3 s0 (0 : Int32)
def gX6_twoTo_15 (x0 : Int32) (v1 : UInt64) (s0 : UInt64) : Option UInt64 := if 0 ≤ x0 then (gX6_twoTo_26 x0 v1 s0 x0) else (gX6_twoTo_26 x0 v1 s0 (-x0))
def gX6_twoTo (x0 : Int32) : Option UInt64 := if 0 ≤ x0 then (gX6_twoTo_15 x0 FP.dconst1 (4611686018427387904 : UInt64)) else (gX6_twoTo_15 x0 FP.dconst1 (4602678819172646912 : UInt64))
theorem hd_X6_twoTo : yX6_twoTo.cls ≠ "java/lang/invoke/MethodHandle" ∧ yX6_twoTo.cls ≠ "java/lang/invoke/VarHandle" ∧ (parseMethodDescriptor yX6_twoTo.desc).map (fun d => d.parameters.length) = some 1 := by decide +kernel
set_option maxHeartbeats 4000000 in
set_option maxRecDepth 100000 in
theorem tX6_twoTo {G : GG} {l : Launch} {z N : Nat} {ct : Nat → va_E} (x0 : Int32) {r : UInt64} (hg : gX6_twoTo x0 = some r) : Ct G l yX6_twoTo cX6_twoTo 7 (some .double) ({ frames := 0, cells := 0, slots := 0, locals := 0 } : Room) [.int x0] z ct N (some (.double r)) ct N := by
  refine Ct.of (lv := [(0, .int x0)]) (by decide +kernel) (Nat.le_of_ble_eq_true rfl) rfl (fun p e s m args below meth c C => ?_)
  have L_31 : ∀ (n31 : Nat) (v1 : UInt64) (v3 : UInt64) (v5 : Int32) (v6 : Int32), lq4 (gX6_twoTo_31 x0) n31 v1 v3 v5 v6 = some r → J G p l e ({ frames := 0, cells := 0, slots := 0, locals := 0 } : Room) s m args below meth c z 7 (MQ below (Qd G z (some (.double r)) ct N) args s 0 0 (zA z)) ct N 0 0 31 [(1, .double v1), (3, .double v3), (5, .int v5), (6, .int v6)] [] := by
    intro n31
    induction n31 with
    | zero => intro v1 v3 v5 v6 hg; cases hg
    | succ n31 ih31 =>
      have L_52 : ∀ (v1 : UInt64) (v3 : UInt64) (v5 : Int32) (v6 : Int32), gX6_twoTo_52 x0 (lq4 (gX6_twoTo_31 x0) n31) v1 v3 v5 v6 = some r → J G p l e ({ frames := 0, cells := 0, slots := 0, locals := 0 } : Room) s m args below meth c z 7 (MQ below (Qd G z (some (.double r)) ct N) args s 0 0 (zA z)) ct N 0 0 52 [(1, .double v1), (3, .double v3), (5, .int v5), (6, .int v6)] [] := by
        intro v1 v3 v5 v6 hg
        rw [gX6_twoTo_52] at hg
        refine j_dload_n C dX6_twoTo_52 1 rfl rfl ?_
        refine j_dload_n C dX6_twoTo_53 1 rfl rfl ?_
        refine j_dmul C hg dX6_twoTo_54 (fun hg => ?_)
        refine j_dstore_n C [(3, .double (FP.dmul v3 v3)), (1, .double v1), (5, .int v5), (6, .int v6)] dX6_twoTo_55 rfl (by decide) rfl ?_
        refine j_iinc C [(6, .int (v6 + (1 : Int32))), (3, .double (FP.dmul v3 v3)), (1, .double v1), (5, .int v5)] dX6_twoTo_56 3 rfl rfl (by decide) rfl ?_
        refine j_goto C 31 dX6_twoTo_59 (by decide) ?_
        exact j_re [2, 1, 3, 0] rfl (ih31 v1 (FP.dmul v3 v3) v5 (v6 + (1 : Int32)) hg)
      intro v1 v3 v5 v6 hg
      replace hg : gX6_twoTo_31 x0 (lq4 (gX6_twoTo_31 x0) n31) v1 v3 v5 v6 = some r := hg
      rw [gX6_twoTo_31] at hg
      refine j_iload C dX6_twoTo_31 3 rfl ?_
      refine j_bipush (v := 11) C dX6_twoTo_33 (by decide) ?_
      refine j_icmp_ge C 62 hg dX6_twoTo_35 (by decide) (fun hg => ?_) (fun hg => ?_)
      · refine j_dload_n C dX6_twoTo_62 0 rfl rfl ?_
        exact j_dret C dX6_twoTo_63 (by rw [← Option.some.inj hg]) rfl rfl
      · refine j_iload C dX6_twoTo_38 2 rfl ?_
        refine j_iload C dX6_twoTo_40 3 rfl ?_
        refine j_ishr C dX6_twoTo_42 ?_
        refine j_iconst (v := 1) C dX6_twoTo_43 (by decide) ?_
        refine j_iand C dX6_twoTo_44 ?_
        refine j_if_eq C 52 hg dX6_twoTo_45 (by decide) (fun hg => ?_) (fun hg => ?_)
        · exact L_52 v1 v3 v5 v6 hg
        · refine j_dload_n C dX6_twoTo_48 0 rfl rfl ?_
          refine j_dload_n C dX6_twoTo_49 1 rfl rfl ?_
          refine j_dmul C hg dX6_twoTo_50 (fun hg => ?_)
          refine j_dstore_n C [(1, .double (FP.dmul v1 v3)), (3, .double v3), (5, .int v5), (6, .int v6)] dX6_twoTo_51 rfl (by decide) rfl ?_
          exact L_52 (FP.dmul v1 v3) v3 v5 v6 hg
  have L_26 : ∀ (v1 : UInt64) (v3 : UInt64) (s0 : Int32), gX6_twoTo_26 x0 v1 v3 s0 = some r → J G p l e ({ frames := 0, cells := 0, slots := 0, locals := 0 } : Room) s m args below meth c z 7 (MQ below (Qd G z (some (.double r)) ct N) args s 0 0 (zA z)) ct N 0 0 26 [(1, .double v1), (3, .double v3)] [.int s0] := by
    intro v1 v3 s0 hg
    rw [gX6_twoTo_26] at hg
    refine j_istore C [(5, .int s0), (1, .double v1), (3, .double v3)] dX6_twoTo_26 (by decide) rfl ?_
    refine j_iconst (v := 0) C dX6_twoTo_28 (by decide) ?_
    refine j_istore C [(6, .int (0 : Int32)), (5, .int s0), (1, .double v1), (3, .double v3)] dX6_twoTo_29 (by decide) rfl ?_
    exact j_re [2, 3, 1, 0] rfl (L_31 20 v1 v3 s0 (0 : Int32) hg)
  have L_15 : ∀ (v1 : UInt64) (s0 : UInt64), gX6_twoTo_15 x0 v1 s0 = some r → J G p l e ({ frames := 0, cells := 0, slots := 0, locals := 0 } : Room) s m args below meth c z 7 (MQ below (Qd G z (some (.double r)) ct N) args s 0 0 (zA z)) ct N 0 0 15 [(0, .int x0), (1, .double v1)] [.double s0] := by
    intro v1 s0 hg
    rw [gX6_twoTo_15] at hg
    refine j_dstore_n C [(3, .double s0), (0, .int x0), (1, .double v1)] dX6_twoTo_15 rfl (by decide) rfl ?_
    refine j_iload_n C dX6_twoTo_16 1 rfl rfl ?_
    refine j_if_ge C 25 hg dX6_twoTo_17 (by decide) (fun hg => ?_) (fun hg => ?_)
    · refine j_iload_n C dX6_twoTo_25 1 rfl rfl ?_
      exact j_re [2, 0] rfl (L_26 v1 s0 x0 hg)
    · refine j_iload_n C dX6_twoTo_20 1 rfl rfl ?_
      refine j_ineg C dX6_twoTo_21 ?_
      refine j_goto C 26 dX6_twoTo_22 (by decide) ?_
      exact j_re [2, 0] rfl (L_26 v1 s0 (-x0) hg)
  rw [gX6_twoTo] at hg
  refine j_dconst1 C dX6_twoTo_0 ?_
  refine j_dstore_n C [(1, .double FP.dconst1), (0, .int x0)] dX6_twoTo_1 rfl (by decide) rfl ?_
  refine j_iload_n C dX6_twoTo_2 1 rfl rfl ?_
  refine j_if_ge C 12 hg dX6_twoTo_3 (by decide) (fun hg => ?_) (fun hg => ?_)
  · refine j_ldc2d C q1_226 dX6_twoTo_12 ?_
    exact j_re [1, 0] rfl (L_15 FP.dconst1 (4611686018427387904 : UInt64) hg)
  · refine j_ldc2d C q1_225 dX6_twoTo_6 ?_
    refine j_goto C 15 dX6_twoTo_9 (by decide) ?_
    exact j_re [1, 0] rfl (L_15 FP.dconst1 (4602678819172646912 : UInt64) hg)

def gX6_named (x0 : Int32) (x1 : Int32) : Option UInt64 := if x0 = (1 : Int32) then (some (9218868437227405312 : UInt64)) else (if x0 = (2 : Int32) then (some (18442240474082181120 : UInt64)) else (if x0 = (3 : Int32) then (some (9223372036854775808 : UInt64)) else (if x0 = (4 : Int32) then (if x1 = 0 then (some (9218868437227405311 : UInt64)) else (some (5183643170566569984 : UInt64))) else (if x1 = 0 then (some (1 : UInt64)) else (some (3936146074321813504 : UInt64))))))
theorem hd_X6_named : yX6_named.cls ≠ "java/lang/invoke/MethodHandle" ∧ yX6_named.cls ≠ "java/lang/invoke/VarHandle" ∧ (parseMethodDescriptor yX6_named.desc).map (fun d => d.parameters.length) = some 2 := by decide +kernel
set_option maxHeartbeats 4000000 in
set_option maxRecDepth 100000 in
theorem tX6_named {G : GG} {l : Launch} {z N : Nat} {ct : Nat → va_E} (x0 : Int32) (x1 : Int32) {r : UInt64} (hg : gX6_named x0 x1 = some r) : Ct G l yX6_named cX6_named 2 (some .double) ({ frames := 0, cells := 0, slots := 0, locals := 0 } : Room) [.int x0, .int x1] z ct N (some (.double r)) ct N := by
  refine Ct.of (lv := [(0, .int x0), (1, .int x1)]) (by decide +kernel) (Nat.le_of_ble_eq_true rfl) rfl (fun p e s m args below meth c C => ?_)
  rw [gX6_named] at hg
  refine j_iload_n C dX6_named_0 0 rfl rfl ?_
  by_cases c1_0 : x0 = (1 : Int32)
  · replace hg := (if_pos c1_0).symm.trans hg
    refine j_tableIn (off := 31) C 32 dX6_named_1 (by rw [c1_0]; decide) (by rw [c1_0]; decide) (by rw [c1_0]; rfl) (by decide) ?_
    refine j_ldc2d C q2_12 dX6_named_32 ?_
    exact j_dret C dX6_named_35 (by rw [← Option.some.inj hg]) rfl rfl
  · replace hg := (if_neg c1_0).symm.trans hg
    by_cases c1_1 : x0 = (2 : Int32)
    · replace hg := (if_pos c1_1).symm.trans hg
      refine j_tableIn (off := 35) C 36 dX6_named_1 (by rw [c1_1]; decide) (by rw [c1_1]; decide) (by rw [c1_1]; rfl) (by decide) ?_
      refine j_ldc2d C q2_13 dX6_named_36 ?_
      exact j_dret C dX6_named_39 (by rw [← Option.some.inj hg]) rfl rfl
    · replace hg := (if_neg c1_1).symm.trans hg
      by_cases c1_2 : x0 = (3 : Int32)
      · replace hg := (if_pos c1_2).symm.trans hg
        refine j_tableIn (off := 39) C 40 dX6_named_1 (by rw [c1_2]; decide) (by rw [c1_2]; decide) (by rw [c1_2]; rfl) (by decide) ?_
        refine j_ldc2d C q2_14 dX6_named_40 ?_
        exact j_dret C dX6_named_43 (by rw [← Option.some.inj hg]) rfl rfl
      · replace hg := (if_neg c1_2).symm.trans hg
        by_cases c1_3 : x0 = (4 : Int32)
        · replace hg := (if_pos c1_3).symm.trans hg
          refine j_tableIn (off := 43) C 44 dX6_named_1 (by rw [c1_3]; decide) (by rw [c1_3]; decide) (by rw [c1_3]; rfl) (by decide) ?_
          refine j_iload_n C dX6_named_44 1 rfl rfl ?_
          refine j_if_eq C 54 hg dX6_named_45 (by decide) (fun hg => ?_) (fun hg => ?_)
          · refine j_ldc2d C q2_16 dX6_named_54 ?_
            exact j_dret C dX6_named_57 (by rw [← Option.some.inj hg]) rfl rfl
          · refine j_ldc2d C q2_15 dX6_named_48 ?_
            refine j_goto C 57 dX6_named_51 (by decide) ?_
            exact j_dret C dX6_named_57 (by rw [← Option.some.inj hg]) rfl rfl
        · replace hg := (if_neg c1_3).symm.trans hg
          have ho : x0.toInt < 1 ∨ 4 < x0.toInt := by
            by_cases ho : x0.toInt < 1 ∨ 4 < x0.toInt
            · exact ho
            · obtain ⟨k, hk, hx⟩ := sw_in ho
              match k, hk, hx with
              | 0, _, hx => exact absurd (Int32.toInt_inj.mp (hx.trans (by decide))) c1_0
              | 1, _, hx => exact absurd (Int32.toInt_inj.mp (hx.trans (by decide))) c1_1
              | 2, _, hx => exact absurd (Int32.toInt_inj.mp (hx.trans (by decide))) c1_2
              | 3, _, hx => exact absurd (Int32.toInt_inj.mp (hx.trans (by decide))) c1_3
              | k + 4, hk, _ => exact absurd hk (Nat.not_lt.mpr (Nat.le_add_left _ _))
          refine j_tableOut C 58 dX6_named_1 ho (by decide) ?_
          refine j_iload_n C dX6_named_58 1 rfl rfl ?_
          refine j_if_eq C 68 hg dX6_named_59 (by decide) (fun hg => ?_) (fun hg => ?_)
          · refine j_ldc2d C q2_18 dX6_named_68 ?_
            exact j_dret C dX6_named_71 (by rw [← Option.some.inj hg]) rfl rfl
          · refine j_ldc2d C q2_17 dX6_named_62 ?_
            refine j_goto C 71 dX6_named_65 (by decide) ?_
            exact j_dret C dX6_named_71 (by rw [← Option.some.inj hg]) rfl rfl

def gX6_isInfinite (x0 : UInt64) : Option Int32 := if 0 < (Op.cmpValue (FP.dcmp x0 (9218868437227405311 : UInt64)) CmpOp.l) then (some (1 : Int32)) else (if 0 ≤ (Op.cmpValue (FP.dcmp x0 (18442240474082181119 : UInt64)) CmpOp.g) then (some (0 : Int32)) else (some (1 : Int32)))
theorem hd_X6_isInfinite : yX6_isInfinite.cls ≠ "java/lang/invoke/MethodHandle" ∧ yX6_isInfinite.cls ≠ "java/lang/invoke/VarHandle" ∧ (parseMethodDescriptor yX6_isInfinite.desc).map (fun d => d.parameters.length) = some 1 := by decide +kernel
set_option maxHeartbeats 4000000 in
set_option maxRecDepth 100000 in
theorem tX6_isInfinite {G : GG} {l : Launch} {z N : Nat} {ct : Nat → va_E} (x0 : UInt64) {r : Int32} (hg : gX6_isInfinite x0 = some r) : Ct G l yX6_isInfinite cX6_isInfinite 2 (some .boolean) ({ frames := 0, cells := 0, slots := 0, locals := 0 } : Room) [.double x0] z ct N (some (.int r)) ct N := by
  refine Ct.of (lv := [(0, .double x0)]) (by decide +kernel) (Nat.le_of_ble_eq_true rfl) rfl (fun p e s m args below meth c C => ?_)
  rw [gX6_isInfinite] at hg
  refine j_dload_n C dX6_isInfinite_0 0 rfl rfl ?_
  refine j_ldc2d C q2_16 dX6_isInfinite_1 ?_
  refine j_dcmp C dX6_isInfinite_4 ?_
  refine j_if_gt C 16 hg dX6_isInfinite_5 (by decide) (fun hg => ?_) (fun hg => ?_)
  · refine j_iconst (v := 1) C dX6_isInfinite_16 (by decide) ?_
    refine j_goto C 21 dX6_isInfinite_17 (by decide) ?_
    exact j_zret C dX6_isInfinite_21 (by decide) (by rw [← Option.some.inj hg]) rfl rfl
  · refine j_dload_n C dX6_isInfinite_8 0 rfl rfl ?_
    refine j_ldc2d C q2_142 dX6_isInfinite_9 ?_
    refine j_dcmp C dX6_isInfinite_12 ?_
    refine j_if_ge C 20 hg dX6_isInfinite_13 (by decide) (fun hg => ?_) (fun hg => ?_)
    · refine j_iconst (v := 0) C dX6_isInfinite_20 (by decide) ?_
      exact j_zret C dX6_isInfinite_21 (by decide) (by rw [← Option.some.inj hg]) rfl rfl
    · refine j_iconst (v := 1) C dX6_isInfinite_16 (by decide) ?_
      refine j_goto C 21 dX6_isInfinite_17 (by decide) ?_
      exact j_zret C dX6_isInfinite_21 (by decide) (by rw [← Option.some.inj hg]) rfl rfl

def gX6_hasMinus (x0 : UInt64) : Option Int32 := if (Op.cmpValue (FP.dcmp x0 FP.dconst0) CmpOp.g) < 0 then (some (1 : Int32)) else (if (Op.cmpValue (FP.dcmp x0 FP.dconst0) CmpOp.l) = 0 then (if FP.dIsNaN (FP.ddiv FP.dconst1 x0) = false then (if 0 ≤ (Op.cmpValue (FP.dcmp (FP.ddiv FP.dconst1 x0) FP.dconst0) CmpOp.g) then (some (0 : Int32)) else (some (1 : Int32))) else none) else (some (0 : Int32)))
theorem hd_X6_hasMinus : yX6_hasMinus.cls ≠ "java/lang/invoke/MethodHandle" ∧ yX6_hasMinus.cls ≠ "java/lang/invoke/VarHandle" ∧ (parseMethodDescriptor yX6_hasMinus.desc).map (fun d => d.parameters.length) = some 1 := by decide +kernel
set_option maxHeartbeats 4000000 in
set_option maxRecDepth 100000 in
theorem tX6_hasMinus {G : GG} {l : Launch} {z N : Nat} {ct : Nat → va_E} (x0 : UInt64) {r : Int32} (hg : gX6_hasMinus x0 = some r) : Ct G l yX6_hasMinus cX6_hasMinus 2 (some .boolean) ({ frames := 0, cells := 0, slots := 0, locals := 0 } : Room) [.double x0] z ct N (some (.int r)) ct N := by
  refine Ct.of (lv := [(0, .double x0)]) (by decide +kernel) (Nat.le_of_ble_eq_true rfl) rfl (fun p e s m args below meth c C => ?_)
  rw [gX6_hasMinus] at hg
  refine j_dload_n C dX6_hasMinus_0 0 rfl rfl ?_
  refine j_dconst0 C dX6_hasMinus_1 ?_
  refine j_dcmp C dX6_hasMinus_2 ?_
  refine j_if_lt C 20 hg dX6_hasMinus_3 (by decide) (fun hg => ?_) (fun hg => ?_)
  · refine j_iconst (v := 1) C dX6_hasMinus_20 (by decide) ?_
    refine j_goto C 25 dX6_hasMinus_21 (by decide) ?_
    exact j_zret C dX6_hasMinus_25 (by decide) (by rw [← Option.some.inj hg]) rfl rfl
  · refine j_dload_n C dX6_hasMinus_6 0 rfl rfl ?_
    refine j_dconst0 C dX6_hasMinus_7 ?_
    refine j_dcmp C dX6_hasMinus_8 ?_
    refine j_if_ne C 24 hg dX6_hasMinus_9 (by decide) (fun hg => ?_) (fun hg => ?_)
    · refine j_iconst (v := 0) C dX6_hasMinus_24 (by decide) ?_
      exact j_zret C dX6_hasMinus_25 (by decide) (by rw [← Option.some.inj hg]) rfl rfl
    · refine j_dconst1 C dX6_hasMinus_12 ?_
      refine j_dload_n C dX6_hasMinus_13 0 rfl rfl ?_
      refine j_ddiv C hg dX6_hasMinus_14 (fun hg => ?_)
      refine j_dconst0 C dX6_hasMinus_15 ?_
      refine j_dcmp C dX6_hasMinus_16 ?_
      refine j_if_ge C 24 hg dX6_hasMinus_17 (by decide) (fun hg => ?_) (fun hg => ?_)
      · refine j_iconst (v := 0) C dX6_hasMinus_24 (by decide) ?_
        exact j_zret C dX6_hasMinus_25 (by decide) (by rw [← Option.some.inj hg]) rfl rfl
      · refine j_iconst (v := 1) C dX6_hasMinus_20 (by decide) ?_
        refine j_goto C 25 dX6_hasMinus_21 (by decide) ?_
        exact j_zret C dX6_hasMinus_25 (by decide) (by rw [← Option.some.inj hg]) rfl rfl

def gX6_withSign (x0 : UInt64) (x1 : Int32) : Option UInt64 := (gX6_hasMinus x0).bind (fun r1 => if r1 = x1 then (some x0) else (some (FP.dneg x0)))
theorem hd_X6_withSign : yX6_withSign.cls ≠ "java/lang/invoke/MethodHandle" ∧ yX6_withSign.cls ≠ "java/lang/invoke/VarHandle" ∧ (parseMethodDescriptor yX6_withSign.desc).map (fun d => d.parameters.length) = some 2 := by decide +kernel
set_option maxHeartbeats 4000000 in
set_option maxRecDepth 100000 in
theorem tX6_withSign {G : GG} {l : Launch} {z N : Nat} {ct : Nat → va_E} (x0 : UInt64) (x1 : Int32) {r : UInt64} (hg : gX6_withSign x0 x1 = some r) : Ct G l yX6_withSign cX6_withSign 3 (some .double) ({ frames := 1, cells := 0, slots := 0, locals := 21 } : Room) [.double x0, .int x1] z ct N (some (.double r)) ct N := by
  refine Ct.of (lv := [(0, .double x0), (2, .int x1)]) (by decide +kernel) (Nat.le_of_ble_eq_true rfl) rfl (fun p e s m args below meth c C => ?_)
  rw [gX6_withSign] at hg
  refine j_dload_n C dX6_withSign_0 0 rfl rfl ?_
  obtain ⟨r1, hr1, hg⟩ := ob hg
  refine j_callS C [.double x0] (tX6_hasMinus x0 hr1) q2_109 q1_10 q2_108 q2_107 hd_X6_hasMinus rfl dX6_withSign_1 rfl (Nat.le_of_ble_eq_true rfl) ⟨(Nat.le_of_ble_eq_true rfl), (Nat.le_of_ble_eq_true rfl)⟩ ⟨(Nat.le_of_ble_eq_true rfl), (Nat.le_of_ble_eq_true rfl)⟩ ?_
  refine j_iload_n C dX6_withSign_4 1 rfl rfl ?_
  refine j_icmp_ne C 12 hg dX6_withSign_5 (by decide) (fun hg => ?_) (fun hg => ?_)
  · refine j_dload_n C dX6_withSign_12 0 rfl rfl ?_
    refine j_dneg C dX6_withSign_13 ?_
    exact j_dret C dX6_withSign_14 (by rw [← Option.some.inj hg]) rfl rfl
  · refine j_dload_n C dX6_withSign_8 0 rfl rfl ?_
    refine j_goto C 14 dX6_withSign_9 (by decide) ?_
    exact j_dret C dX6_withSign_14 (by rw [← Option.some.inj hg]) rfl rfl

def gX6_isBelow (x0 : UInt64) (x1 : UInt64) : Option Int32 := if (Op.cmpValue (FP.dcmp x0 x1) CmpOp.g) < 0 then (some (1 : Int32)) else (if (Op.cmpValue (FP.dcmp x0 FP.dconst0) CmpOp.l) = 0 then (if (Op.cmpValue (FP.dcmp x1 FP.dconst0) CmpOp.l) = 0 then (if FP.dIsNaN (FP.ddiv FP.dconst1 x0) = false then (if FP.dIsNaN (FP.ddiv FP.dconst1 x1) = false then (if 0 ≤ (Op.cmpValue (FP.dcmp (FP.ddiv FP.dconst1 x0) (FP.ddiv FP.dconst1 x1)) CmpOp.g) then (some (0 : Int32)) else (some (1 : Int32))) else none) else none) else (some (0 : Int32))) else (some (0 : Int32)))
theorem hd_X6_isBelow : yX6_isBelow.cls ≠ "java/lang/invoke/MethodHandle" ∧ yX6_isBelow.cls ≠ "java/lang/invoke/VarHandle" ∧ (parseMethodDescriptor yX6_isBelow.desc).map (fun d => d.parameters.length) = some 2 := by decide +kernel
set_option maxHeartbeats 4000000 in
set_option maxRecDepth 100000 in
theorem tX6_isBelow {G : GG} {l : Launch} {z N : Nat} {ct : Nat → va_E} (x0 : UInt64) (x1 : UInt64) {r : Int32} (hg : gX6_isBelow x0 x1 = some r) : Ct G l yX6_isBelow cX6_isBelow 4 (some .boolean) ({ frames := 0, cells := 0, slots := 0, locals := 0 } : Room) [.double x0, .double x1] z ct N (some (.int r)) ct N := by
  refine Ct.of (lv := [(0, .double x0), (2, .double x1)]) (by decide +kernel) (Nat.le_of_ble_eq_true rfl) rfl (fun p e s m args below meth c C => ?_)
  rw [gX6_isBelow] at hg
  refine j_dload_n C dX6_isBelow_0 0 rfl rfl ?_
  refine j_dload_n C dX6_isBelow_1 1 rfl rfl ?_
  refine j_dcmp C dX6_isBelow_2 ?_
  refine j_if_lt C 28 hg dX6_isBelow_3 (by decide) (fun hg => ?_) (fun hg => ?_)
  · refine j_iconst (v := 1) C dX6_isBelow_28 (by decide) ?_
    refine j_goto C 33 dX6_isBelow_29 (by decide) ?_
    exact j_zret C dX6_isBelow_33 (by decide) (by rw [← Option.some.inj hg]) rfl rfl
  · refine j_dload_n C dX6_isBelow_6 0 rfl rfl ?_
    refine j_dconst0 C dX6_isBelow_7 ?_
    refine j_dcmp C dX6_isBelow_8 ?_
    refine j_if_ne C 32 hg dX6_isBelow_9 (by decide) (fun hg => ?_) (fun hg => ?_)
    · refine j_iconst (v := 0) C dX6_isBelow_32 (by decide) ?_
      exact j_zret C dX6_isBelow_33 (by decide) (by rw [← Option.some.inj hg]) rfl rfl
    · refine j_dload_n C dX6_isBelow_12 1 rfl rfl ?_
      refine j_dconst0 C dX6_isBelow_13 ?_
      refine j_dcmp C dX6_isBelow_14 ?_
      refine j_if_ne C 32 hg dX6_isBelow_15 (by decide) (fun hg => ?_) (fun hg => ?_)
      · refine j_iconst (v := 0) C dX6_isBelow_32 (by decide) ?_
        exact j_zret C dX6_isBelow_33 (by decide) (by rw [← Option.some.inj hg]) rfl rfl
      · refine j_dconst1 C dX6_isBelow_18 ?_
        refine j_dload_n C dX6_isBelow_19 0 rfl rfl ?_
        refine j_ddiv C hg dX6_isBelow_20 (fun hg => ?_)
        refine j_dconst1 C dX6_isBelow_21 ?_
        refine j_dload_n C dX6_isBelow_22 1 rfl rfl ?_
        refine j_ddiv C hg dX6_isBelow_23 (fun hg => ?_)
        refine j_dcmp C dX6_isBelow_24 ?_
        refine j_if_ge C 32 hg dX6_isBelow_25 (by decide) (fun hg => ?_) (fun hg => ?_)
        · refine j_iconst (v := 0) C dX6_isBelow_32 (by decide) ?_
          exact j_zret C dX6_isBelow_33 (by decide) (by rw [← Option.some.inj hg]) rfl rfl
        · refine j_iconst (v := 1) C dX6_isBelow_28 (by decide) ?_
          refine j_goto C 33 dX6_isBelow_29 (by decide) ?_
          exact j_zret C dX6_isBelow_33 (by decide) (by rw [← Option.some.inj hg]) rfl rfl

def gX6_lesser (x0 : UInt64) (x1 : UInt64) : Option UInt64 := (gX6_isBelow x1 x0).bind (fun r1 => if r1 = 0 then (some x0) else (some x1))
theorem hd_X6_lesser : yX6_lesser.cls ≠ "java/lang/invoke/MethodHandle" ∧ yX6_lesser.cls ≠ "java/lang/invoke/VarHandle" ∧ (parseMethodDescriptor yX6_lesser.desc).map (fun d => d.parameters.length) = some 2 := by decide +kernel
set_option maxHeartbeats 4000000 in
set_option maxRecDepth 100000 in
theorem tX6_lesser {G : GG} {l : Launch} {z N : Nat} {ct : Nat → va_E} (x0 : UInt64) (x1 : UInt64) {r : UInt64} (hg : gX6_lesser x0 x1 = some r) : Ct G l yX6_lesser cX6_lesser 4 (some .double) ({ frames := 1, cells := 0, slots := 0, locals := 23 } : Room) [.double x0, .double x1] z ct N (some (.double r)) ct N := by
  refine Ct.of (lv := [(0, .double x0), (2, .double x1)]) (by decide +kernel) (Nat.le_of_ble_eq_true rfl) rfl (fun p e s m args below meth c C => ?_)
  rw [gX6_lesser] at hg
  refine j_dload_n C dX6_lesser_0 1 rfl rfl ?_
  refine j_dload_n C dX6_lesser_1 0 rfl rfl ?_
  obtain ⟨r1, hr1, hg⟩ := ob hg
  refine j_callS C [.double x1, .double x0] (tX6_isBelow x1 x0 hr1) q2_178 q1_10 q2_177 q2_176 hd_X6_isBelow rfl dX6_lesser_2 rfl (Nat.le_of_ble_eq_true rfl) ⟨(Nat.le_of_ble_eq_true rfl), (Nat.le_of_ble_eq_true rfl)⟩ ⟨(Nat.le_of_ble_eq_true rfl), (Nat.le_of_ble_eq_true rfl)⟩ ?_
  refine j_if_eq C 12 hg dX6_lesser_5 (by decide) (fun hg => ?_) (fun hg => ?_)
  · refine j_dload_n C dX6_lesser_12 0 rfl rfl ?_
    exact j_dret C dX6_lesser_13 (by rw [← Option.some.inj hg]) rfl rfl
  · refine j_dload_n C dX6_lesser_8 1 rfl rfl ?_
    refine j_goto C 13 dX6_lesser_9 (by decide) ?_
    exact j_dret C dX6_lesser_13 (by rw [← Option.some.inj hg]) rfl rfl

def gX6_greater (x0 : UInt64) (x1 : UInt64) : Option UInt64 := (gX6_isBelow x0 x1).bind (fun r1 => if r1 = 0 then (some x0) else (some x1))
theorem hd_X6_greater : yX6_greater.cls ≠ "java/lang/invoke/MethodHandle" ∧ yX6_greater.cls ≠ "java/lang/invoke/VarHandle" ∧ (parseMethodDescriptor yX6_greater.desc).map (fun d => d.parameters.length) = some 2 := by decide +kernel
set_option maxHeartbeats 4000000 in
set_option maxRecDepth 100000 in
theorem tX6_greater {G : GG} {l : Launch} {z N : Nat} {ct : Nat → va_E} (x0 : UInt64) (x1 : UInt64) {r : UInt64} (hg : gX6_greater x0 x1 = some r) : Ct G l yX6_greater cX6_greater 4 (some .double) ({ frames := 1, cells := 0, slots := 0, locals := 23 } : Room) [.double x0, .double x1] z ct N (some (.double r)) ct N := by
  refine Ct.of (lv := [(0, .double x0), (2, .double x1)]) (by decide +kernel) (Nat.le_of_ble_eq_true rfl) rfl (fun p e s m args below meth c C => ?_)
  rw [gX6_greater] at hg
  refine j_dload_n C dX6_greater_0 0 rfl rfl ?_
  refine j_dload_n C dX6_greater_1 1 rfl rfl ?_
  obtain ⟨r1, hr1, hg⟩ := ob hg
  refine j_callS C [.double x0, .double x1] (tX6_isBelow x0 x1 hr1) q2_178 q1_10 q2_177 q2_176 hd_X6_isBelow rfl dX6_greater_2 rfl (Nat.le_of_ble_eq_true rfl) ⟨(Nat.le_of_ble_eq_true rfl), (Nat.le_of_ble_eq_true rfl)⟩ ⟨(Nat.le_of_ble_eq_true rfl), (Nat.le_of_ble_eq_true rfl)⟩ ?_
  refine j_if_eq C 12 hg dX6_greater_5 (by decide) (fun hg => ?_) (fun hg => ?_)
  · refine j_dload_n C dX6_greater_12 0 rfl rfl ?_
    exact j_dret C dX6_greater_13 (by rw [← Option.some.inj hg]) rfl rfl
  · refine j_dload_n C dX6_greater_8 1 rfl rfl ?_
    refine j_goto C 13 dX6_greater_9 (by decide) ?_
    exact j_dret C dX6_greater_13 (by rw [← Option.some.inj hg]) rfl rfl

def gX6_sum (x0 : UInt64) (x1 : UInt64) (x2 : Int32) : Option UInt64 := if x2 = 0 then (if FP.dIsNaN (FP.dadd x0 x1) = false then (some (FP.dadd x0 x1)) else none) else (if FP.fIsNaN (FP.d2f x0) = false then (if FP.fIsNaN (FP.d2f x1) = false then (if FP.fIsNaN (FP.fadd (FP.d2f x0) (FP.d2f x1)) = false then (if FP.dIsNaN (FP.f2d (FP.fadd (FP.d2f x0) (FP.d2f x1))) = false then (some (FP.f2d (FP.fadd (FP.d2f x0) (FP.d2f x1)))) else none) else none) else none) else none)
theorem hd_X6_sum : yX6_sum.cls ≠ "java/lang/invoke/MethodHandle" ∧ yX6_sum.cls ≠ "java/lang/invoke/VarHandle" ∧ (parseMethodDescriptor yX6_sum.desc).map (fun d => d.parameters.length) = some 3 := by decide +kernel
set_option maxHeartbeats 4000000 in
set_option maxRecDepth 100000 in
theorem tX6_sum {G : GG} {l : Launch} {z N : Nat} {ct : Nat → va_E} (x0 : UInt64) (x1 : UInt64) (x2 : Int32) {r : UInt64} (hg : gX6_sum x0 x1 x2 = some r) : Ct G l yX6_sum cX6_sum 5 (some .double) ({ frames := 0, cells := 0, slots := 0, locals := 0 } : Room) [.double x0, .double x1, .int x2] z ct N (some (.double r)) ct N := by
  refine Ct.of (lv := [(0, .double x0), (2, .double x1), (4, .int x2)]) (by decide +kernel) (Nat.le_of_ble_eq_true rfl) rfl (fun p e s m args below meth c C => ?_)
  rw [gX6_sum] at hg
  refine j_iload C dX6_sum_0 2 rfl ?_
  refine j_if_eq C 14 hg dX6_sum_2 (by decide) (fun hg => ?_) (fun hg => ?_)
  · refine j_dload_n C dX6_sum_14 0 rfl rfl ?_
    refine j_dload_n C dX6_sum_15 1 rfl rfl ?_
    refine j_dadd C hg dX6_sum_16 (fun hg => ?_)
    exact j_dret C dX6_sum_17 (by rw [← Option.some.inj hg]) rfl rfl
  · refine j_dload_n C dX6_sum_5 0 rfl rfl ?_
    refine j_d2f C hg dX6_sum_6 (fun hg => ?_)
    refine j_dload_n C dX6_sum_7 1 rfl rfl ?_
    refine j_d2f C hg dX6_sum_8 (fun hg => ?_)
    refine j_fadd C hg dX6_sum_9 (fun hg => ?_)
    refine j_f2d C hg dX6_sum_10 (fun hg => ?_)
    refine j_goto C 17 dX6_sum_11 (by decide) ?_
    exact j_dret C dX6_sum_17 (by rw [← Option.some.inj hg]) rfl rfl

def gX6_product (x0 : UInt64) (x1 : UInt64) (x2 : Int32) : Option UInt64 := if x2 = 0 then (if FP.dIsNaN (FP.dmul x0 x1) = false then (some (FP.dmul x0 x1)) else none) else (if FP.fIsNaN (FP.d2f x0) = false then (if FP.fIsNaN (FP.d2f x1) = false then (if FP.fIsNaN (FP.fmul (FP.d2f x0) (FP.d2f x1)) = false then (if FP.dIsNaN (FP.f2d (FP.fmul (FP.d2f x0) (FP.d2f x1))) = false then (some (FP.f2d (FP.fmul (FP.d2f x0) (FP.d2f x1)))) else none) else none) else none) else none)
theorem hd_X6_product : yX6_product.cls ≠ "java/lang/invoke/MethodHandle" ∧ yX6_product.cls ≠ "java/lang/invoke/VarHandle" ∧ (parseMethodDescriptor yX6_product.desc).map (fun d => d.parameters.length) = some 3 := by decide +kernel
set_option maxHeartbeats 4000000 in
set_option maxRecDepth 100000 in
theorem tX6_product {G : GG} {l : Launch} {z N : Nat} {ct : Nat → va_E} (x0 : UInt64) (x1 : UInt64) (x2 : Int32) {r : UInt64} (hg : gX6_product x0 x1 x2 = some r) : Ct G l yX6_product cX6_product 5 (some .double) ({ frames := 0, cells := 0, slots := 0, locals := 0 } : Room) [.double x0, .double x1, .int x2] z ct N (some (.double r)) ct N := by
  refine Ct.of (lv := [(0, .double x0), (2, .double x1), (4, .int x2)]) (by decide +kernel) (Nat.le_of_ble_eq_true rfl) rfl (fun p e s m args below meth c C => ?_)
  rw [gX6_product] at hg
  refine j_iload C dX6_product_0 2 rfl ?_
  refine j_if_eq C 14 hg dX6_product_2 (by decide) (fun hg => ?_) (fun hg => ?_)
  · refine j_dload_n C dX6_product_14 0 rfl rfl ?_
    refine j_dload_n C dX6_product_15 1 rfl rfl ?_
    refine j_dmul C hg dX6_product_16 (fun hg => ?_)
    exact j_dret C dX6_product_17 (by rw [← Option.some.inj hg]) rfl rfl
  · refine j_dload_n C dX6_product_5 0 rfl rfl ?_
    refine j_d2f C hg dX6_product_6 (fun hg => ?_)
    refine j_dload_n C dX6_product_7 1 rfl rfl ?_
    refine j_d2f C hg dX6_product_8 (fun hg => ?_)
    refine j_fmul C hg dX6_product_9 (fun hg => ?_)
    refine j_f2d C hg dX6_product_10 (fun hg => ?_)
    refine j_goto C 17 dX6_product_11 (by decide) ?_
    exact j_dret C dX6_product_17 (by rw [← Option.some.inj hg]) rfl rfl

def gX6_quotient (x0 : UInt64) (x1 : UInt64) (x2 : Int32) : Option UInt64 := if x2 = 0 then (if FP.dIsNaN (FP.ddiv x0 x1) = false then (some (FP.ddiv x0 x1)) else none) else (if FP.fIsNaN (FP.d2f x0) = false then (if FP.fIsNaN (FP.d2f x1) = false then (if FP.fIsNaN (FP.fdiv (FP.d2f x0) (FP.d2f x1)) = false then (if FP.dIsNaN (FP.f2d (FP.fdiv (FP.d2f x0) (FP.d2f x1))) = false then (some (FP.f2d (FP.fdiv (FP.d2f x0) (FP.d2f x1)))) else none) else none) else none) else none)
theorem hd_X6_quotient : yX6_quotient.cls ≠ "java/lang/invoke/MethodHandle" ∧ yX6_quotient.cls ≠ "java/lang/invoke/VarHandle" ∧ (parseMethodDescriptor yX6_quotient.desc).map (fun d => d.parameters.length) = some 3 := by decide +kernel
set_option maxHeartbeats 4000000 in
set_option maxRecDepth 100000 in
theorem tX6_quotient {G : GG} {l : Launch} {z N : Nat} {ct : Nat → va_E} (x0 : UInt64) (x1 : UInt64) (x2 : Int32) {r : UInt64} (hg : gX6_quotient x0 x1 x2 = some r) : Ct G l yX6_quotient cX6_quotient 5 (some .double) ({ frames := 0, cells := 0, slots := 0, locals := 0 } : Room) [.double x0, .double x1, .int x2] z ct N (some (.double r)) ct N := by
  refine Ct.of (lv := [(0, .double x0), (2, .double x1), (4, .int x2)]) (by decide +kernel) (Nat.le_of_ble_eq_true rfl) rfl (fun p e s m args below meth c C => ?_)
  rw [gX6_quotient] at hg
  refine j_iload C dX6_quotient_0 2 rfl ?_
  refine j_if_eq C 14 hg dX6_quotient_2 (by decide) (fun hg => ?_) (fun hg => ?_)
  · refine j_dload_n C dX6_quotient_14 0 rfl rfl ?_
    refine j_dload_n C dX6_quotient_15 1 rfl rfl ?_
    refine j_ddiv C hg dX6_quotient_16 (fun hg => ?_)
    exact j_dret C dX6_quotient_17 (by rw [← Option.some.inj hg]) rfl rfl
  · refine j_dload_n C dX6_quotient_5 0 rfl rfl ?_
    refine j_d2f C hg dX6_quotient_6 (fun hg => ?_)
    refine j_dload_n C dX6_quotient_7 1 rfl rfl ?_
    refine j_d2f C hg dX6_quotient_8 (fun hg => ?_)
    refine j_fdiv C hg dX6_quotient_9 (fun hg => ?_)
    refine j_f2d C hg dX6_quotient_10 (fun hg => ?_)
    refine j_goto C 17 dX6_quotient_11 (by decide) ?_
    exact j_dret C dX6_quotient_17 (by rw [← Option.some.inj hg]) rfl rfl

def gX6_isSurelyWhole (x0 : UInt64) : Option Int32 := if 0 ≤ (Op.cmpValue (FP.dcmp x0 (4841369599423283200 : UInt64)) CmpOp.l) then (some (1 : Int32)) else (if 0 < (Op.cmpValue (FP.dcmp x0 (14064741636278059008 : UInt64)) CmpOp.g) then (some (0 : Int32)) else (some (1 : Int32)))
theorem hd_X6_isSurelyWhole : yX6_isSurelyWhole.cls ≠ "java/lang/invoke/MethodHandle" ∧ yX6_isSurelyWhole.cls ≠ "java/lang/invoke/VarHandle" ∧ (parseMethodDescriptor yX6_isSurelyWhole.desc).map (fun d => d.parameters.length) = some 1 := by decide +kernel
set_option maxHeartbeats 4000000 in
set_option maxRecDepth 100000 in
theorem tX6_isSurelyWhole {G : GG} {l : Launch} {z N : Nat} {ct : Nat → va_E} (x0 : UInt64) {r : Int32} (hg : gX6_isSurelyWhole x0 = some r) : Ct G l yX6_isSurelyWhole cX6_isSurelyWhole 2 (some .boolean) ({ frames := 0, cells := 0, slots := 0, locals := 0 } : Room) [.double x0] z ct N (some (.int r)) ct N := by
  refine Ct.of (lv := [(0, .double x0)]) (by decide +kernel) (Nat.le_of_ble_eq_true rfl) rfl (fun p e s m args below meth c C => ?_)
  rw [gX6_isSurelyWhole] at hg
  refine j_dload_n C dX6_isSurelyWhole_0 0 rfl rfl ?_
  refine j_ldc2d C q2_116 dX6_isSurelyWhole_1 ?_
  refine j_dcmp C dX6_isSurelyWhole_4 ?_
  refine j_if_ge C 16 hg dX6_isSurelyWhole_5 (by decide) (fun hg => ?_) (fun hg => ?_)
  · refine j_iconst (v := 1) C dX6_isSurelyWhole_16 (by decide) ?_
    refine j_goto C 21 dX6_isSurelyWhole_17 (by decide) ?_
    exact j_zret C dX6_isSurelyWhole_21 (by decide) (by rw [← Option.some.inj hg]) rfl rfl
  · refine j_dload_n C dX6_isSurelyWhole_8 0 rfl rfl ?_
    refine j_ldc2d C q2_117 dX6_isSurelyWhole_9 ?_
    refine j_dcmp C dX6_isSurelyWhole_12 ?_
    refine j_if_gt C 20 hg dX6_isSurelyWhole_13 (by decide) (fun hg => ?_) (fun hg => ?_)
    · refine j_iconst (v := 0) C dX6_isSurelyWhole_20 (by decide) ?_
      exact j_zret C dX6_isSurelyWhole_21 (by decide) (by rw [← Option.some.inj hg]) rfl rfl
    · refine j_iconst (v := 1) C dX6_isSurelyWhole_16 (by decide) ?_
      refine j_goto C 21 dX6_isSurelyWhole_17 (by decide) ?_
      exact j_zret C dX6_isSurelyWhole_21 (by decide) (by rw [← Option.some.inj hg]) rfl rfl

def gX6_zeroLike (x0 : UInt64) : Option UInt64 := if FP.dIsNaN (FP.dmul x0 FP.dconst0) = false then (some (FP.dmul x0 FP.dconst0)) else none
theorem hd_X6_zeroLike : yX6_zeroLike.cls ≠ "java/lang/invoke/MethodHandle" ∧ yX6_zeroLike.cls ≠ "java/lang/invoke/VarHandle" ∧ (parseMethodDescriptor yX6_zeroLike.desc).map (fun d => d.parameters.length) = some 1 := by decide +kernel
set_option maxHeartbeats 4000000 in
set_option maxRecDepth 100000 in
theorem tX6_zeroLike {G : GG} {l : Launch} {z N : Nat} {ct : Nat → va_E} (x0 : UInt64) {r : UInt64} (hg : gX6_zeroLike x0 = some r) : Ct G l yX6_zeroLike cX6_zeroLike 2 (some .double) ({ frames := 0, cells := 0, slots := 0, locals := 0 } : Room) [.double x0] z ct N (some (.double r)) ct N := by
  refine Ct.of (lv := [(0, .double x0)]) (by decide +kernel) (Nat.le_of_ble_eq_true rfl) rfl (fun p e s m args below meth c C => ?_)
  rw [gX6_zeroLike] at hg
  refine j_dload_n C dX6_zeroLike_0 0 rfl rfl ?_
  refine j_dconst0 C dX6_zeroLike_1 ?_
  refine j_dmul C hg dX6_zeroLike_2 (fun hg => ?_)
  exact j_dret C dX6_zeroLike_3 (by rw [← Option.some.inj hg]) rfl rfl

def gX6_floor_23 (x0 : UInt64) (v2 : UInt64) : Option UInt64 := if (Op.cmpValue (FP.dcmp v2 FP.dconst0) CmpOp.l) = 0 then ((gX6_zeroLike x0).bind (fun r2 => some r2)) else (some v2)
def gX6_floor (x0 : UInt64) : Option UInt64 := (gX6_isSurelyWhole x0).bind (fun r1 => if r1 = 0 then (if (Op.cmpValue (FP.dcmp (FP.l2d (FP.d2l x0)) x0) CmpOp.l) ≤ 0 then (gX6_floor_23 x0 (FP.l2d (FP.d2l x0))) else (if FP.dIsNaN (FP.dsub (FP.l2d (FP.d2l x0)) FP.dconst1) = false then (gX6_floor_23 x0 (FP.dsub (FP.l2d (FP.d2l x0)) FP.dconst1)) else none)) else (some x0))
theorem hd_X6_floor : yX6_floor.cls ≠ "java/lang/invoke/MethodHandle" ∧ yX6_floor.cls ≠ "java/lang/invoke/VarHandle" ∧ (parseMethodDescriptor yX6_floor.desc).map (fun d => d.parameters.length) = some 1 := by decide +kernel
set_option maxHeartbeats 4000000 in
set_option maxRecDepth 100000 in
theorem tX6_floor {G : GG} {l : Launch} {z N : Nat} {ct : Nat → va_E} (x0 : UInt64) {r : UInt64} (hg : gX6_floor x0 = some r) : Ct G l yX6_floor cX6_floor 4 (some .double) ({ frames := 1, cells := 0, slots := 0, locals := 21 } : Room) [.double x0] z ct N (some (.double r)) ct N := by
  refine Ct.of (lv := [(0, .double x0)]) (by decide +kernel) (Nat.le_of_ble_eq_true rfl) rfl (fun p e s m args below meth c C => ?_)
  have L_23 : ∀ (v2 : UInt64), gX6_floor_23 x0 v2 = some r → J G p l e ({ frames := 1, cells := 0, slots := 0, locals := 21 } : Room) s m args below meth c z 4 (MQ below (Qd G z (some (.double r)) ct N) args s 0 0 (zA z)) ct N 0 0 23 [(0, .double x0), (2, .double v2)] [] := by
    intro v2 hg
    rw [gX6_floor_23] at hg
    refine j_dload_n C dX6_floor_23 1 rfl rfl ?_
    refine j_dconst0 C dX6_floor_24 ?_
    refine j_dcmp C dX6_floor_25 ?_
    refine j_if_ne C 36 hg dX6_floor_26 (by decide) (fun hg => ?_) (fun hg => ?_)
    · refine j_dload_n C dX6_floor_36 1 rfl rfl ?_
      exact j_dret C dX6_floor_37 (by rw [← Option.some.inj hg]) rfl rfl
    · refine j_dload_n C dX6_floor_29 0 rfl rfl ?_
      obtain ⟨r2, hr2, hg⟩ := ob hg
      refine j_callS C [.double x0] (tX6_zeroLike x0 hr2) q2_120 q1_10 q2_119 q2_118 hd_X6_zeroLike rfl dX6_floor_30 rfl (Nat.le_of_ble_eq_true rfl) ⟨(Nat.le_of_ble_eq_true rfl), (Nat.le_of_ble_eq_true rfl)⟩ ⟨(Nat.le_of_ble_eq_true rfl), (Nat.le_of_ble_eq_true rfl)⟩ ?_
      refine j_goto C 37 dX6_floor_33 (by decide) ?_
      exact j_dret C dX6_floor_37 (by rw [← Option.some.inj hg]) rfl rfl
  rw [gX6_floor] at hg
  refine j_dload_n C dX6_floor_0 0 rfl rfl ?_
  obtain ⟨r1, hr1, hg⟩ := ob hg
  refine j_callS C [.double x0] (tX6_isSurelyWhole x0 hr1) q2_115 q1_10 q2_114 q2_113 hd_X6_isSurelyWhole rfl dX6_floor_1 rfl (Nat.le_of_ble_eq_true rfl) ⟨(Nat.le_of_ble_eq_true rfl), (Nat.le_of_ble_eq_true rfl)⟩ ⟨(Nat.le_of_ble_eq_true rfl), (Nat.le_of_ble_eq_true rfl)⟩ ?_
  refine j_if_eq C 9 hg dX6_floor_4 (by decide) (fun hg => ?_) (fun hg => ?_)
  · refine j_dload_n C dX6_floor_9 0 rfl rfl ?_
    refine j_d2l C dX6_floor_10 ?_
    refine j_l2d C dX6_floor_11 ?_
    refine j_dstore_n C [(2, .double (FP.l2d (FP.d2l x0))), (0, .double x0)] dX6_floor_12 rfl (by decide) rfl ?_
    refine j_dload_n C dX6_floor_13 0 rfl rfl ?_
    refine j_dload_n C dX6_floor_14 1 rfl rfl ?_
    refine j_dcmp C dX6_floor_15 ?_
    refine j_if_le C 23 hg dX6_floor_16 (by decide) (fun hg => ?_) (fun hg => ?_)
    · exact j_re [1, 0] rfl (L_23 (FP.l2d (FP.d2l x0)) hg)
    · refine j_dload_n C dX6_floor_19 0 rfl rfl ?_
      refine j_dconst1 C dX6_floor_20 ?_
      refine j_dsub C hg dX6_floor_21 (fun hg => ?_)
      refine j_dstore_n C [(2, .double (FP.dsub (FP.l2d (FP.d2l x0)) FP.dconst1)), (0, .double x0)] dX6_floor_22 rfl (by decide) rfl ?_
      exact j_re [1, 0] rfl (L_23 (FP.dsub (FP.l2d (FP.d2l x0)) FP.dconst1) hg)
  · refine j_dload_n C dX6_floor_7 0 rfl rfl ?_
    exact j_dret C dX6_floor_8 (by rw [← Option.some.inj hg]) rfl rfl

def gX6_nearest_66 (x0 : UInt64) (v4 : Int64) : Option UInt64 := if (lg_cmp v4 (0 : Int64)) = 0 then ((gX6_zeroLike x0).bind (fun r2 => some r2)) else (if 0 ≤ (Op.cmpValue (FP.dcmp x0 FP.dconst0) CmpOp.g) then (some (FP.l2d v4)) else (some (FP.l2d (-v4))))
def gX6_nearest_60 (x0 : UInt64) (v4 : Int64) : Option UInt64 := gX6_nearest_66 x0 (v4 + (1 : Int64))
def gX6_nearest_21 (x0 : UInt64) (s0 : UInt64) : Option UInt64 := if FP.dIsNaN (FP.dsub s0 (FP.l2d (FP.d2l s0))) = false then (if 0 < (Op.cmpValue (FP.dcmp (FP.dsub s0 (FP.l2d (FP.d2l s0))) (4602678819172646912 : UInt64)) CmpOp.l) then (gX6_nearest_60 x0 (FP.d2l s0)) else (if (Op.cmpValue (FP.dcmp (FP.dsub s0 (FP.l2d (FP.d2l s0))) (4602678819172646912 : UInt64)) CmpOp.l) = 0 then (if (lg_cmp ((FP.d2l s0) &&& (1 : Int64)) (0 : Int64)) = 0 then (gX6_nearest_66 x0 (FP.d2l s0)) else (gX6_nearest_60 x0 (FP.d2l s0))) else (gX6_nearest_66 x0 (FP.d2l s0)))) else none
def gX6_nearest (x0 : UInt64) : Option UInt64 := (gX6_isSurelyWhole x0).bind (fun r1 => if r1 = 0 then (if 0 ≤ (Op.cmpValue (FP.dcmp x0 FP.dconst0) CmpOp.g) then (gX6_nearest_21 x0 x0) else (gX6_nearest_21 x0 (FP.dneg x0))) else (some x0))
theorem hd_X6_nearest : yX6_nearest.cls ≠ "java/lang/invoke/MethodHandle" ∧ yX6_nearest.cls ≠ "java/lang/invoke/VarHandle" ∧ (parseMethodDescriptor yX6_nearest.desc).map (fun d => d.parameters.length) = some 1 := by decide +kernel
set_option maxHeartbeats 4000000 in
set_option maxRecDepth 100000 in
theorem tX6_nearest {G : GG} {l : Launch} {z N : Nat} {ct : Nat → va_E} (x0 : UInt64) {r : UInt64} (hg : gX6_nearest x0 = some r) : Ct G l yX6_nearest cX6_nearest 8 (some .double) ({ frames := 1, cells := 0, slots := 0, locals := 21 } : Room) [.double x0] z ct N (some (.double r)) ct N := by
  refine Ct.of (lv := [(0, .double x0)]) (by decide +kernel) (Nat.le_of_ble_eq_true rfl) rfl (fun p e s m args below meth c C => ?_)
  have L_66 : ∀ (v4 : Int64), gX6_nearest_66 x0 v4 = some r → J G p l e ({ frames := 1, cells := 0, slots := 0, locals := 21 } : Room) s m args below meth c z 8 (MQ below (Qd G z (some (.double r)) ct N) args s 0 0 (zA z)) ct N 0 0 66 [(0, .double x0), (4, .long v4)] [] := by
    intro v4 hg
    rw [gX6_nearest_66] at hg
    refine j_lload C dX6_nearest_66 1 rfl ?_
    refine j_lconst (v := 0) C dX6_nearest_68 (by decide) ?_
    refine j_lcmp C dX6_nearest_69 ?_
    refine j_if_ne C 78 hg dX6_nearest_70 (by decide) (fun hg => ?_) (fun hg => ?_)
    · refine j_dload_n C dX6_nearest_78 0 rfl rfl ?_
      refine j_dconst0 C dX6_nearest_79 ?_
      refine j_dcmp C dX6_nearest_80 ?_
      refine j_if_ge C 91 hg dX6_nearest_81 (by decide) (fun hg => ?_) (fun hg => ?_)
      · refine j_lload C dX6_nearest_91 1 rfl ?_
        refine j_l2d C dX6_nearest_93 ?_
        exact j_dret C dX6_nearest_94 (by rw [← Option.some.inj hg]) rfl rfl
      · refine j_lload C dX6_nearest_84 1 rfl ?_
        refine j_lneg C dX6_nearest_86 ?_
        refine j_l2d C dX6_nearest_87 ?_
        refine j_goto C 94 dX6_nearest_88 (by decide) ?_
        exact j_dret C dX6_nearest_94 (by rw [← Option.some.inj hg]) rfl rfl
    · refine j_dload_n C dX6_nearest_73 0 rfl rfl ?_
      obtain ⟨r2, hr2, hg⟩ := ob hg
      refine j_callS C [.double x0] (tX6_zeroLike x0 hr2) q2_120 q1_10 q2_119 q2_118 hd_X6_zeroLike rfl dX6_nearest_74 rfl (Nat.le_of_ble_eq_true rfl) ⟨(Nat.le_of_ble_eq_true rfl), (Nat.le_of_ble_eq_true rfl)⟩ ⟨(Nat.le_of_ble_eq_true rfl), (Nat.le_of_ble_eq_true rfl)⟩ ?_
      exact j_dret C dX6_nearest_77 (by rw [← Option.some.inj hg]) rfl rfl
  have L_60 : ∀ (v4 : Int64), gX6_nearest_60 x0 v4 = some r → J G p l e ({ frames := 1, cells := 0, slots := 0, locals := 21 } : Room) s m args below meth c z 8 (MQ below (Qd G z (some (.double r)) ct N) args s 0 0 (zA z)) ct N 0 0 60 [(0, .double x0), (4, .long v4)] [] := by
    intro v4 hg
    rw [gX6_nearest_60] at hg
    refine j_lload C dX6_nearest_60 1 rfl ?_
    refine j_lconst (v := 1) C dX6_nearest_62 (by decide) ?_
    refine j_ladd C dX6_nearest_63 ?_
    refine j_lstore C [(4, .long (v4 + (1 : Int64))), (0, .double x0)] dX6_nearest_64 (by decide) rfl ?_
    exact j_re [1, 0] rfl (L_66 (v4 + (1 : Int64)) hg)
  have L_21 : ∀ (s0 : UInt64), gX6_nearest_21 x0 s0 = some r → J G p l e ({ frames := 1, cells := 0, slots := 0, locals := 21 } : Room) s m args below meth c z 8 (MQ below (Qd G z (some (.double r)) ct N) args s 0 0 (zA z)) ct N 0 0 21 [(0, .double x0)] [.double s0] := by
    intro s0 hg
    rw [gX6_nearest_21] at hg
    refine j_dstore_n C [(2, .double s0), (0, .double x0)] dX6_nearest_21 rfl (by decide) rfl ?_
    refine j_dload_n C dX6_nearest_22 0 rfl rfl ?_
    refine j_d2l C dX6_nearest_23 ?_
    refine j_lstore C [(4, .long (FP.d2l s0)), (2, .double s0), (0, .double x0)] dX6_nearest_24 (by decide) rfl ?_
    refine j_dload_n C dX6_nearest_26 1 rfl rfl ?_
    refine j_lload C dX6_nearest_27 0 rfl ?_
    refine j_l2d C dX6_nearest_29 ?_
    refine j_dsub C hg dX6_nearest_30 (fun hg => ?_)
    refine j_dstore C [(6, .double (FP.dsub s0 (FP.l2d (FP.d2l s0)))), (4, .long (FP.d2l s0)), (2, .double s0), (0, .double x0)] dX6_nearest_31 (by decide) rfl ?_
    refine j_dload C dX6_nearest_33 0 rfl ?_
    refine j_ldc2d C q1_225 dX6_nearest_35 ?_
    refine j_dcmp C dX6_nearest_38 ?_
    refine j_if_gt C 60 hg dX6_nearest_39 (by decide) (fun hg => ?_) (fun hg => ?_)
    · exact j_re [3, 1] rfl (L_60 (FP.d2l s0) hg)
    · refine j_dload C dX6_nearest_42 0 rfl ?_
      refine j_ldc2d C q1_225 dX6_nearest_44 ?_
      refine j_dcmp C dX6_nearest_47 ?_
      refine j_if_ne C 66 hg dX6_nearest_48 (by decide) (fun hg => ?_) (fun hg => ?_)
      · exact j_re [3, 1] rfl (L_66 (FP.d2l s0) hg)
      · refine j_lload C dX6_nearest_51 1 rfl ?_
        refine j_lconst (v := 1) C dX6_nearest_53 (by decide) ?_
        refine j_land C dX6_nearest_54 ?_
        refine j_lconst (v := 0) C dX6_nearest_55 (by decide) ?_
        refine j_lcmp C dX6_nearest_56 ?_
        refine j_if_eq C 66 hg dX6_nearest_57 (by decide) (fun hg => ?_) (fun hg => ?_)
        · exact j_re [3, 1] rfl (L_66 (FP.d2l s0) hg)
        · exact j_re [3, 1] rfl (L_60 (FP.d2l s0) hg)
  rw [gX6_nearest] at hg
  refine j_dload_n C dX6_nearest_0 0 rfl rfl ?_
  obtain ⟨r1, hr1, hg⟩ := ob hg
  refine j_callS C [.double x0] (tX6_isSurelyWhole x0 hr1) q2_115 q1_10 q2_114 q2_113 hd_X6_isSurelyWhole rfl dX6_nearest_1 rfl (Nat.le_of_ble_eq_true rfl) ⟨(Nat.le_of_ble_eq_true rfl), (Nat.le_of_ble_eq_true rfl)⟩ ⟨(Nat.le_of_ble_eq_true rfl), (Nat.le_of_ble_eq_true rfl)⟩ ?_
  refine j_if_eq C 9 hg dX6_nearest_4 (by decide) (fun hg => ?_) (fun hg => ?_)
  · refine j_dload_n C dX6_nearest_9 0 rfl rfl ?_
    refine j_dconst0 C dX6_nearest_10 ?_
    refine j_dcmp C dX6_nearest_11 ?_
    refine j_if_ge C 20 hg dX6_nearest_12 (by decide) (fun hg => ?_) (fun hg => ?_)
    · refine j_dload_n C dX6_nearest_20 0 rfl rfl ?_
      exact L_21 x0 hg
    · refine j_dload_n C dX6_nearest_15 0 rfl rfl ?_
      refine j_dneg C dX6_nearest_16 ?_
      refine j_goto C 21 dX6_nearest_17 (by decide) ?_
      exact L_21 (FP.dneg x0) hg
  · refine j_dload_n C dX6_nearest_7 0 rfl rfl ?_
    exact j_dret C dX6_nearest_8 (by rw [← Option.some.inj hg]) rfl rfl

def gX1_behindSign_169 (x0 : UInt64) (x1 : Int32) (v5 : UInt64) (v7 : UInt64) (s0 : Int32) (s1 : Int32) : Option Int64 := if FP.dIsNaN (FP.dsub v7 FP.dconst1) = false then (if FP.dIsNaN (FP.dmul (FP.dsub v7 FP.dconst1) v5) = false then (if x1 = 0 then (some ((((s1 + s0).toInt64) <<< ((52 : Int32).toInt64 &&& 63)) + (FP.d2l (FP.dmul (FP.dsub v7 FP.dconst1) v5)))) else (some ((((s1 + s0).toInt64) <<< ((23 : Int32).toInt64 &&& 63)) + (FP.d2l (FP.dmul (FP.dsub v7 FP.dconst1) v5))))) else none) else none
def gX1_behindSign_155 (x0 : UInt64) (x1 : Int32) (v5 : UInt64) (v7 : UInt64) (v9 : Int32) : Option Int64 := if x1 = 0 then (gX1_behindSign_169 x0 x1 v5 v7 (1023 : Int32) v9) else (gX1_behindSign_169 x0 x1 v5 v7 (127 : Int32) v9)
def gX1_behindSign_122 (x0 : UInt64) (x1 : Int32) (k122 : UInt64 → UInt64 → Int32 → Int32 → Option Int64) (v5 : UInt64) (v7 : UInt64) (v9 : Int32) (v10 : Int32) : Option Int64 := if (32 : Int32) ≤ v10 then (gX1_behindSign_155 x0 x1 v5 v7 v9) else (if (Op.cmpValue (FP.dcmp v7 (4611686018427387904 : UInt64)) CmpOp.l) < 0 then (gX1_behindSign_155 x0 x1 v5 v7 v9) else (if FP.dIsNaN (FP.dmul v7 (4602678819172646912 : UInt64)) = false then (k122 v5 (FP.dmul v7 (4602678819172646912 : UInt64)) (v9 + (1 : Int32)) (v10 + (1 : Int32))) else none))
def gX1_behindSign_119 (x0 : UInt64) (x1 : Int32) (v5 : UInt64) (v7 : UInt64) (v9 : Int32) : Option Int64 := lq4 (gX1_behindSign_122 x0 x1) 40 v5 v7 v9 (0 : Int32)
def gX1_behindSign_88 (x0 : UInt64) (x1 : Int32) (k88 : UInt64 → UInt64 → Int32 → Int32 → Option Int64) (v5 : UInt64) (v7 : UInt64) (v9 : Int32) (v10 : Int32) : Option Int64 := if (32 : Int32) ≤ v10 then (gX1_behindSign_119 x0 x1 v5 v7 v9) else (if 0 ≤ (Op.cmpValue (FP.dcmp v7 FP.dconst1) CmpOp.g) then (gX1_behindSign_119 x0 x1 v5 v7 v9) else (if FP.dIsNaN (FP.dmul v7 (4751297606875873280 : UInt64)) = false then (k88 v5 (FP.dmul v7 (4751297606875873280 : UInt64)) (v9 + (-32 : Int32)) (v10 + (1 : Int32))) else none))
def gX1_behindSign_85 (x0 : UInt64) (x1 : Int32) (v5 : UInt64) (v7 : UInt64) (v9 : Int32) : Option Int64 := lq4 (gX1_behindSign_88 x0 x1) 40 v5 v7 v9 (0 : Int32)
def gX1_behindSign_52 (x0 : UInt64) (x1 : Int32) (k52 : UInt64 → UInt64 → Int32 → Int32 → Option Int64) (v5 : UInt64) (v7 : UInt64) (v9 : Int32) (v10 : Int32) : Option Int64 := if (32 : Int32) ≤ v10 then (gX1_behindSign_85 x0 x1 v5 v7 v9) else (if (Op.cmpValue (FP.dcmp v7 (4751297606875873280 : UInt64)) CmpOp.l) < 0 then (gX1_behindSign_85 x0 x1 v5 v7 v9) else (if FP.dIsNaN (FP.dmul v7 (4463067230724161536 : UInt64)) = false then (k52 v5 (FP.dmul v7 (4463067230724161536 : UInt64)) (v9 + (32 : Int32)) (v10 + (1 : Int32))) else none))
def gX1_behindSign_27 (x0 : UInt64) (x1 : Int32) (v3 : UInt64) (s0 : UInt64) : Option Int64 := if 0 ≤ (Op.cmpValue (FP.dcmp x0 v3) CmpOp.g) then (lq4 (gX1_behindSign_52 x0 x1) 40 s0 x0 (0 : Int32) (0 : Int32)) else (if FP.dIsNaN (FP.ddiv x0 v3) = false then (if FP.dIsNaN (FP.dmul (FP.ddiv x0 v3) s0) = false then (some (FP.d2l (FP.dmul (FP.ddiv x0 v3) s0))) else none) else none)
def gX1_behindSign_13 (x0 : UInt64) (x1 : Int32) (s0 : UInt64) : Option Int64 := if x1 = 0 then (gX1_behindSign_27 x0 x1 s0 (4841369599423283200 : UInt64)) else (gX1_behindSign_27 x0 x1 s0 (4710765210229538816 : UInt64))
def gX1_behindSign (x0 : UInt64) (x1 : Int32) : Option Int64 := if x1 = 0 then (gX1_behindSign_13 x0 x1 (4503599627370496 : UInt64)) else (gX1_behindSign_13 x0 x1 (4039728865751334912 : UInt64))
theorem hd_X1_behindSign : yX1_behindSign.cls ≠ "java/lang/invoke/MethodHandle" ∧ yX1_behindSign.cls ≠ "java/lang/invoke/VarHandle" ∧ (parseMethodDescriptor yX1_behindSign.desc).map (fun d => d.parameters.length) = some 2 := by decide +kernel
set_option maxHeartbeats 4000000 in
set_option maxRecDepth 100000 in
theorem tX1_behindSign {G : GG} {l : Launch} {z N : Nat} {ct : Nat → va_E} (x0 : UInt64) (x1 : Int32) {r : Int64} (hg : gX1_behindSign x0 x1 = some r) : Ct G l yX1_behindSign cX1_behindSign 14 (some .long) ({ frames := 0, cells := 0, slots := 0, locals := 0 } : Room) [.double x0, .int x1] z ct N (some (.long r)) ct N := by
  refine Ct.of (lv := [(0, .double x0), (2, .int x1)]) (by decide +kernel) (Nat.le_of_ble_eq_true rfl) rfl (fun p e s m args below meth c C => ?_)
  have L_169 : ∀ (v5 : UInt64) (v7 : UInt64) (s0 : Int32) (s1 : Int32), gX1_behindSign_169 x0 x1 v5 v7 s0 s1 = some r → J G p l e ({ frames := 0, cells := 0, slots := 0, locals := 0 } : Room) s m args below meth c z 14 (MQ below (Qd G z (some (.long r)) ct N) args s 0 0 (zA z)) ct N 0 0 169 [(2, .int x1), (5, .double v5), (7, .double v7)] [.int s0, .int s1] := by
    intro v5 v7 s0 s1 hg
    rw [gX1_behindSign_169] at hg
    refine j_iadd C dX1_behindSign_169 ?_
    refine j_i2l C dX1_behindSign_170 ?_
    refine j_lstore C [(10, .long ((s1 + s0).toInt64)), (2, .int x1), (5, .double v5), (7, .double v7)] dX1_behindSign_171 (by decide) rfl ?_
    refine j_dload C dX1_behindSign_173 3 rfl ?_
    refine j_dconst1 C dX1_behindSign_175 ?_
    refine j_dsub C hg dX1_behindSign_176 (fun hg => ?_)
    refine j_dload C dX1_behindSign_177 2 rfl ?_
    refine j_dmul C hg dX1_behindSign_179 (fun hg => ?_)
    refine j_d2l C dX1_behindSign_180 ?_
    refine j_lstore C [(12, .long (FP.d2l (FP.dmul (FP.dsub v7 FP.dconst1) v5))), (10, .long ((s1 + s0).toInt64)), (2, .int x1), (5, .double v5), (7, .double v7)] dX1_behindSign_181 (by decide) rfl ?_
    refine j_lload C dX1_behindSign_183 1 rfl ?_
    refine j_iload_n C dX1_behindSign_185 2 rfl rfl ?_
    refine j_if_eq C 194 hg dX1_behindSign_186 (by decide) (fun hg => ?_) (fun hg => ?_)
    · refine j_bipush (v := 52) C dX1_behindSign_194 (by decide) ?_
      refine j_lshl C dX1_behindSign_196 ?_
      refine j_lload C dX1_behindSign_197 0 rfl ?_
      refine j_ladd C dX1_behindSign_199 ?_
      exact j_lret C dX1_behindSign_200 (by rw [← Option.some.inj hg]) rfl rfl
    · refine j_bipush (v := 23) C dX1_behindSign_189 (by decide) ?_
      refine j_goto C 196 dX1_behindSign_191 (by decide) ?_
      refine j_lshl C dX1_behindSign_196 ?_
      refine j_lload C dX1_behindSign_197 0 rfl ?_
      refine j_ladd C dX1_behindSign_199 ?_
      exact j_lret C dX1_behindSign_200 (by rw [← Option.some.inj hg]) rfl rfl
  have L_155 : ∀ (v5 : UInt64) (v7 : UInt64) (v9 : Int32), gX1_behindSign_155 x0 x1 v5 v7 v9 = some r → J G p l e ({ frames := 0, cells := 0, slots := 0, locals := 0 } : Room) s m args below meth c z 14 (MQ below (Qd G z (some (.long r)) ct N) args s 0 0 (zA z)) ct N 0 0 155 [(2, .int x1), (5, .double v5), (7, .double v7), (9, .int v9)] [] := by
    intro v5 v7 v9 hg
    rw [gX1_behindSign_155] at hg
    refine j_iload C dX1_behindSign_155 3 rfl ?_
    refine j_iload_n C dX1_behindSign_157 0 rfl rfl ?_
    refine j_if_eq C 166 hg dX1_behindSign_158 (by decide) (fun hg => ?_) (fun hg => ?_)
    · refine j_sipush (v := 1023) C dX1_behindSign_166 (by decide) ?_
      exact j_re [0, 1, 2] rfl (L_169 v5 v7 (1023 : Int32) v9 hg)
    · refine j_bipush (v := 127) C dX1_behindSign_161 (by decide) ?_
      refine j_goto C 169 dX1_behindSign_163 (by decide) ?_
      exact j_re [0, 1, 2] rfl (L_169 v5 v7 (127 : Int32) v9 hg)
  have L_122 : ∀ (n122 : Nat) (v5 : UInt64) (v7 : UInt64) (v9 : Int32) (v10 : Int32), lq4 (gX1_behindSign_122 x0 x1) n122 v5 v7 v9 v10 = some r → J G p l e ({ frames := 0, cells := 0, slots := 0, locals := 0 } : Room) s m args below meth c z 14 (MQ below (Qd G z (some (.long r)) ct N) args s 0 0 (zA z)) ct N 0 0 122 [(2, .int x1), (5, .double v5), (7, .double v7), (9, .int v9), (10, .int v10)] [] := by
    intro n122
    induction n122 with
    | zero => intro v5 v7 v9 v10 hg; cases hg
    | succ n122 ih122 =>
      intro v5 v7 v9 v10 hg
      replace hg : gX1_behindSign_122 x0 x1 (lq4 (gX1_behindSign_122 x0 x1) n122) v5 v7 v9 v10 = some r := hg
      rw [gX1_behindSign_122] at hg
      refine j_iload C dX1_behindSign_122 4 rfl ?_
      refine j_bipush (v := 32) C dX1_behindSign_124 (by decide) ?_
      refine j_icmp_ge C 155 hg dX1_behindSign_126 (by decide) (fun hg => ?_) (fun hg => ?_)
      · exact j_re [0, 1, 2, 3] rfl (L_155 v5 v7 v9 hg)
      · refine j_dload C dX1_behindSign_129 2 rfl ?_
        refine j_ldc2d C q2_161 dX1_behindSign_131 ?_
        refine j_dcmp C dX1_behindSign_134 ?_
        refine j_if_lt C 155 hg dX1_behindSign_135 (by decide) (fun hg => ?_) (fun hg => ?_)
        · exact j_re [0, 1, 2, 3] rfl (L_155 v5 v7 v9 hg)
        · refine j_dload C dX1_behindSign_138 2 rfl ?_
          refine j_ldc2d C q2_162 dX1_behindSign_140 ?_
          refine j_dmul C hg dX1_behindSign_143 (fun hg => ?_)
          refine j_dstore C [(7, .double (FP.dmul v7 (4602678819172646912 : UInt64))), (2, .int x1), (5, .double v5), (9, .int v9), (10, .int v10)] dX1_behindSign_144 (by decide) rfl ?_
          refine j_iinc C [(9, .int (v9 + (1 : Int32))), (7, .double (FP.dmul v7 (4602678819172646912 : UInt64))), (2, .int x1), (5, .double v5), (10, .int v10)] dX1_behindSign_146 3 rfl rfl (by decide) rfl ?_
          refine j_iinc C [(10, .int (v10 + (1 : Int32))), (9, .int (v9 + (1 : Int32))), (7, .double (FP.dmul v7 (4602678819172646912 : UInt64))), (2, .int x1), (5, .double v5)] dX1_behindSign_149 4 rfl rfl (by decide) rfl ?_
          refine j_goto C 122 dX1_behindSign_152 (by decide) ?_
          exact j_re [3, 4, 2, 1, 0] rfl (ih122 v5 (FP.dmul v7 (4602678819172646912 : UInt64)) (v9 + (1 : Int32)) (v10 + (1 : Int32)) hg)
  have L_119 : ∀ (v5 : UInt64) (v7 : UInt64) (v9 : Int32), gX1_behindSign_119 x0 x1 v5 v7 v9 = some r → J G p l e ({ frames := 0, cells := 0, slots := 0, locals := 0 } : Room) s m args below meth c z 14 (MQ below (Qd G z (some (.long r)) ct N) args s 0 0 (zA z)) ct N 0 0 119 [(2, .int x1), (5, .double v5), (7, .double v7), (9, .int v9)] [] := by
    intro v5 v7 v9 hg
    rw [gX1_behindSign_119] at hg
    refine j_iconst (v := 0) C dX1_behindSign_119 (by decide) ?_
    refine j_istore C [(10, .int (0 : Int32)), (2, .int x1), (5, .double v5), (7, .double v7), (9, .int v9)] dX1_behindSign_120 (by decide) rfl ?_
    exact j_re [1, 2, 3, 4, 0] rfl (L_122 40 v5 v7 v9 (0 : Int32) hg)
  have L_88 : ∀ (n88 : Nat) (v5 : UInt64) (v7 : UInt64) (v9 : Int32) (v10 : Int32), lq4 (gX1_behindSign_88 x0 x1) n88 v5 v7 v9 v10 = some r → J G p l e ({ frames := 0, cells := 0, slots := 0, locals := 0 } : Room) s m args below meth c z 14 (MQ below (Qd G z (some (.long r)) ct N) args s 0 0 (zA z)) ct N 0 0 88 [(2, .int x1), (5, .double v5), (7, .double v7), (9, .int v9), (10, .int v10)] [] := by
    intro n88
    induction n88 with
    | zero => intro v5 v7 v9 v10 hg; cases hg
    | succ n88 ih88 =>
      intro v5 v7 v9 v10 hg
      replace hg : gX1_behindSign_88 x0 x1 (lq4 (gX1_behindSign_88 x0 x1) n88) v5 v7 v9 v10 = some r := hg
      rw [gX1_behindSign_88] at hg
      refine j_iload C dX1_behindSign_88 4 rfl ?_
      refine j_bipush (v := 32) C dX1_behindSign_90 (by decide) ?_
      refine j_icmp_ge C 119 hg dX1_behindSign_92 (by decide) (fun hg => ?_) (fun hg => ?_)
      · exact j_re [0, 1, 2, 3] rfl (L_119 v5 v7 v9 hg)
      · refine j_dload C dX1_behindSign_95 2 rfl ?_
        refine j_dconst1 C dX1_behindSign_97 ?_
        refine j_dcmp C dX1_behindSign_98 ?_
        refine j_if_ge C 119 hg dX1_behindSign_99 (by decide) (fun hg => ?_) (fun hg => ?_)
        · exact j_re [0, 1, 2, 3] rfl (L_119 v5 v7 v9 hg)
        · refine j_dload C dX1_behindSign_102 2 rfl ?_
          refine j_ldc2d C q2_159 dX1_behindSign_104 ?_
          refine j_dmul C hg dX1_behindSign_107 (fun hg => ?_)
          refine j_dstore C [(7, .double (FP.dmul v7 (4751297606875873280 : UInt64))), (2, .int x1), (5, .double v5), (9, .int v9), (10, .int v10)] dX1_behindSign_108 (by decide) rfl ?_
          refine j_iinc C [(9, .int (v9 + (-32 : Int32))), (7, .double (FP.dmul v7 (4751297606875873280 : UInt64))), (2, .int x1), (5, .double v5), (10, .int v10)] dX1_behindSign_110 3 rfl rfl (by decide) rfl ?_
          refine j_iinc C [(10, .int (v10 + (1 : Int32))), (9, .int (v9 + (-32 : Int32))), (7, .double (FP.dmul v7 (4751297606875873280 : UInt64))), (2, .int x1), (5, .double v5)] dX1_behindSign_113 4 rfl rfl (by decide) rfl ?_
          refine j_goto C 88 dX1_behindSign_116 (by decide) ?_
          exact j_re [3, 4, 2, 1, 0] rfl (ih88 v5 (FP.dmul v7 (4751297606875873280 : UInt64)) (v9 + (-32 : Int32)) (v10 + (1 : Int32)) hg)
  have L_85 : ∀ (v5 : UInt64) (v7 : UInt64) (v9 : Int32), gX1_behindSign_85 x0 x1 v5 v7 v9 = some r → J G p l e ({ frames := 0, cells := 0, slots := 0, locals := 0 } : Room) s m args below meth c z 14 (MQ below (Qd G z (some (.long r)) ct N) args s 0 0 (zA z)) ct N 0 0 85 [(2, .int x1), (5, .double v5), (7, .double v7), (9, .int v9)] [] := by
    intro v5 v7 v9 hg
    rw [gX1_behindSign_85] at hg
    refine j_iconst (v := 0) C dX1_behindSign_85 (by decide) ?_
    refine j_istore C [(10, .int (0 : Int32)), (2, .int x1), (5, .double v5), (7, .double v7), (9, .int v9)] dX1_behindSign_86 (by decide) rfl ?_
    exact j_re [1, 2, 3, 4, 0] rfl (L_88 40 v5 v7 v9 (0 : Int32) hg)
  have L_52 : ∀ (n52 : Nat) (v5 : UInt64) (v7 : UInt64) (v9 : Int32) (v10 : Int32), lq4 (gX1_behindSign_52 x0 x1) n52 v5 v7 v9 v10 = some r → J G p l e ({ frames := 0, cells := 0, slots := 0, locals := 0 } : Room) s m args below meth c z 14 (MQ below (Qd G z (some (.long r)) ct N) args s 0 0 (zA z)) ct N 0 0 52 [(2, .int x1), (5, .double v5), (7, .double v7), (9, .int v9), (10, .int v10)] [] := by
    intro n52
    induction n52 with
    | zero => intro v5 v7 v9 v10 hg; cases hg
    | succ n52 ih52 =>
      intro v5 v7 v9 v10 hg
      replace hg : gX1_behindSign_52 x0 x1 (lq4 (gX1_behindSign_52 x0 x1) n52) v5 v7 v9 v10 = some r := hg
      rw [gX1_behindSign_52] at hg
      refine j_iload C dX1_behindSign_52 4 rfl ?_
      refine j_bipush (v := 32) C dX1_behindSign_54 (by decide) ?_
      refine j_icmp_ge C 85 hg dX1_behindSign_56 (by decide) (fun hg => ?_) (fun hg => ?_)
      · exact j_re [0, 1, 2, 3] rfl (L_85 v5 v7 v9 hg)
      · refine j_dload C dX1_behindSign_59 2 rfl ?_
        refine j_ldc2d C q2_159 dX1_behindSign_61 ?_
        refine j_dcmp C dX1_behindSign_64 ?_
        refine j_if_lt C 85 hg dX1_behindSign_65 (by decide) (fun hg => ?_) (fun hg => ?_)
        · exact j_re [0, 1, 2, 3] rfl (L_85 v5 v7 v9 hg)
        · refine j_dload C dX1_behindSign_68 2 rfl ?_
          refine j_ldc2d C q2_160 dX1_behindSign_70 ?_
          refine j_dmul C hg dX1_behindSign_73 (fun hg => ?_)
          refine j_dstore C [(7, .double (FP.dmul v7 (4463067230724161536 : UInt64))), (2, .int x1), (5, .double v5), (9, .int v9), (10, .int v10)] dX1_behindSign_74 (by decide) rfl ?_
          refine j_iinc C [(9, .int (v9 + (32 : Int32))), (7, .double (FP.dmul v7 (4463067230724161536 : UInt64))), (2, .int x1), (5, .double v5), (10, .int v10)] dX1_behindSign_76 3 rfl rfl (by decide) rfl ?_
          refine j_iinc C [(10, .int (v10 + (1 : Int32))), (9, .int (v9 + (32 : Int32))), (7, .double (FP.dmul v7 (4463067230724161536 : UInt64))), (2, .int x1), (5, .double v5)] dX1_behindSign_79 4 rfl rfl (by decide) rfl ?_
          refine j_goto C 52 dX1_behindSign_82 (by decide) ?_
          exact j_re [3, 4, 2, 1, 0] rfl (ih52 v5 (FP.dmul v7 (4463067230724161536 : UInt64)) (v9 + (32 : Int32)) (v10 + (1 : Int32)) hg)
  have L_27 : ∀ (v3 : UInt64) (s0 : UInt64), gX1_behindSign_27 x0 x1 v3 s0 = some r → J G p l e ({ frames := 0, cells := 0, slots := 0, locals := 0 } : Room) s m args below meth c z 14 (MQ below (Qd G z (some (.long r)) ct N) args s 0 0 (zA z)) ct N 0 0 27 [(0, .double x0), (2, .int x1), (3, .double v3)] [.double s0] := by
    intro v3 s0 hg
    rw [gX1_behindSign_27] at hg
    refine j_dstore C [(5, .double s0), (0, .double x0), (2, .int x1), (3, .double v3)] dX1_behindSign_27 (by decide) rfl ?_
    refine j_dload_n C dX1_behindSign_29 1 rfl rfl ?_
    refine j_dload_n C dX1_behindSign_30 3 rfl rfl ?_
    refine j_dcmp C dX1_behindSign_31 ?_
    refine j_if_ge C 43 hg dX1_behindSign_32 (by decide) (fun hg => ?_) (fun hg => ?_)
    · refine j_dload_n C dX1_behindSign_43 1 rfl rfl ?_
      refine j_dstore C [(7, .double x0), (5, .double s0), (0, .double x0), (2, .int x1), (3, .double v3)] dX1_behindSign_44 (by decide) rfl ?_
      refine j_iconst (v := 0) C dX1_behindSign_46 (by decide) ?_
      refine j_istore C [(9, .int (0 : Int32)), (7, .double x0), (5, .double s0), (0, .double x0), (2, .int x1), (3, .double v3)] dX1_behindSign_47 (by decide) rfl ?_
      refine j_iconst (v := 0) C dX1_behindSign_49 (by decide) ?_
      refine j_istore C [(10, .int (0 : Int32)), (9, .int (0 : Int32)), (7, .double x0), (5, .double s0), (0, .double x0), (2, .int x1), (3, .double v3)] dX1_behindSign_50 (by decide) rfl ?_
      exact j_re [5, 3, 2, 1, 0] rfl (L_52 40 s0 x0 (0 : Int32) (0 : Int32) hg)
    · refine j_dload_n C dX1_behindSign_35 1 rfl rfl ?_
      refine j_dload_n C dX1_behindSign_36 3 rfl rfl ?_
      refine j_ddiv C hg dX1_behindSign_37 (fun hg => ?_)
      refine j_dload C dX1_behindSign_38 0 rfl ?_
      refine j_dmul C hg dX1_behindSign_40 (fun hg => ?_)
      refine j_d2l C dX1_behindSign_41 ?_
      exact j_lret C dX1_behindSign_42 (by rw [← Option.some.inj hg]) rfl rfl
  have L_13 : ∀ (s0 : UInt64), gX1_behindSign_13 x0 x1 s0 = some r → J G p l e ({ frames := 0, cells := 0, slots := 0, locals := 0 } : Room) s m args below meth c z 14 (MQ below (Qd G z (some (.long r)) ct N) args s 0 0 (zA z)) ct N 0 0 13 [(0, .double x0), (2, .int x1)] [.double s0] := by
    intro s0 hg
    rw [gX1_behindSign_13] at hg
    refine j_dstore_n C [(3, .double s0), (0, .double x0), (2, .int x1)] dX1_behindSign_13 rfl (by decide) rfl ?_
    refine j_iload_n C dX1_behindSign_14 2 rfl rfl ?_
    refine j_if_eq C 24 hg dX1_behindSign_15 (by decide) (fun hg => ?_) (fun hg => ?_)
    · refine j_ldc2d C q2_158 dX1_behindSign_24 ?_
      exact j_re [1, 2, 0] rfl (L_27 s0 (4841369599423283200 : UInt64) hg)
    · refine j_ldc2d C q2_157 dX1_behindSign_18 ?_
      refine j_goto C 27 dX1_behindSign_21 (by decide) ?_
      exact j_re [1, 2, 0] rfl (L_27 s0 (4710765210229538816 : UInt64) hg)
  rw [gX1_behindSign] at hg
  refine j_iload_n C dX1_behindSign_0 1 rfl rfl ?_
  refine j_if_eq C 10 hg dX1_behindSign_1 (by decide) (fun hg => ?_) (fun hg => ?_)
  · refine j_ldc2d C q2_156 dX1_behindSign_10 ?_
    exact L_13 (4503599627370496 : UInt64) hg
  · refine j_ldc2d C q2_155 dX1_behindSign_4 ?_
    refine j_goto C 13 dX1_behindSign_7 (by decide) ?_
    exact L_13 (4039728865751334912 : UInt64) hg

def gX1_wideDigits (x0 : Int64) : Option Int64 := if (lg_cmp x0 (x0 &&& (4503599627370495 : Int64))) = 0 then (some (x0 &&& (4503599627370495 : Int64))) else (some ((x0 &&& (4503599627370495 : Int64)) + (4503599627370496 : Int64)))
theorem hd_X1_wideDigits : yX1_wideDigits.cls ≠ "java/lang/invoke/MethodHandle" ∧ yX1_wideDigits.cls ≠ "java/lang/invoke/VarHandle" ∧ (parseMethodDescriptor yX1_wideDigits.desc).map (fun d => d.parameters.length) = some 1 := by decide +kernel
set_option maxHeartbeats 4000000 in
set_option maxRecDepth 100000 in
theorem tX1_wideDigits {G : GG} {l : Launch} {z N : Nat} {ct : Nat → va_E} (x0 : Int64) {r : Int64} (hg : gX1_wideDigits x0 = some r) : Ct G l yX1_wideDigits cX1_wideDigits 4 (some .long) ({ frames := 0, cells := 0, slots := 0, locals := 0 } : Room) [.long x0] z ct N (some (.long r)) ct N := by
  refine Ct.of (lv := [(0, .long x0)]) (by decide +kernel) (Nat.le_of_ble_eq_true rfl) rfl (fun p e s m args below meth c C => ?_)
  rw [gX1_wideDigits] at hg
  refine j_lload_n C dX1_wideDigits_0 0 rfl rfl ?_
  refine j_ldc2 C q2_166 dX1_wideDigits_1 ?_
  refine j_land C dX1_wideDigits_4 ?_
  refine j_lstore_n C [(2, .long (x0 &&& (4503599627370495 : Int64))), (0, .long x0)] dX1_wideDigits_5 rfl (by decide) rfl ?_
  refine j_lload_n C dX1_wideDigits_6 1 rfl rfl ?_
  refine j_lload_n C dX1_wideDigits_7 0 rfl rfl ?_
  refine j_lcmp C dX1_wideDigits_8 ?_
  refine j_if_ne C 16 hg dX1_wideDigits_9 (by decide) (fun hg => ?_) (fun hg => ?_)
  · refine j_lload_n C dX1_wideDigits_16 0 rfl rfl ?_
    refine j_ldc2 C q2_167 dX1_wideDigits_17 ?_
    refine j_ladd C dX1_wideDigits_20 ?_
    exact j_lret C dX1_wideDigits_21 (by rw [← Option.some.inj hg]) rfl rfl
  · refine j_lload_n C dX1_wideDigits_12 0 rfl rfl ?_
    refine j_goto C 21 dX1_wideDigits_13 (by decide) ?_
    exact j_lret C dX1_wideDigits_21 (by rw [← Option.some.inj hg]) rfl rfl

def gX1_widePower (x0 : Int64) : Option Int32 := if ((x0 >>> ((52 : Int32).toInt64 &&& 63)).toInt32) = 0 then (some (((1 : Int32) - (1023 : Int32)) - (52 : Int32))) else (some ((((x0 >>> ((52 : Int32).toInt64 &&& 63)).toInt32) - (1023 : Int32)) - (52 : Int32)))
theorem hd_X1_widePower : yX1_widePower.cls ≠ "java/lang/invoke/MethodHandle" ∧ yX1_widePower.cls ≠ "java/lang/invoke/VarHandle" ∧ (parseMethodDescriptor yX1_widePower.desc).map (fun d => d.parameters.length) = some 1 := by decide +kernel
set_option maxHeartbeats 4000000 in
set_option maxRecDepth 100000 in
theorem tX1_widePower {G : GG} {l : Launch} {z N : Nat} {ct : Nat → va_E} (x0 : Int64) {r : Int32} (hg : gX1_widePower x0 = some r) : Ct G l yX1_widePower cX1_widePower 3 (some .int) ({ frames := 0, cells := 0, slots := 0, locals := 0 } : Room) [.long x0] z ct N (some (.int r)) ct N := by
  refine Ct.of (lv := [(0, .long x0)]) (by decide +kernel) (Nat.le_of_ble_eq_true rfl) rfl (fun p e s m args below meth c C => ?_)
  rw [gX1_widePower] at hg
  refine j_lload_n C dX1_widePower_0 0 rfl rfl ?_
  refine j_bipush (v := 52) C dX1_widePower_1 (by decide) ?_
  refine j_lshr C dX1_widePower_3 ?_
  refine j_l2i C dX1_widePower_4 ?_
  refine j_istore_n C [(2, .int ((x0 >>> ((52 : Int32).toInt64 &&& 63)).toInt32)), (0, .long x0)] dX1_widePower_5 rfl (by decide) rfl ?_
  refine j_iload_n C dX1_widePower_6 0 rfl rfl ?_
  refine j_if_ne C 14 hg dX1_widePower_7 (by decide) (fun hg => ?_) (fun hg => ?_)
  · refine j_iload_n C dX1_widePower_14 0 rfl rfl ?_
    refine j_sipush (v := 1023) C dX1_widePower_15 (by decide) ?_
    refine j_isub C dX1_widePower_18 ?_
    refine j_bipush (v := 52) C dX1_widePower_19 (by decide) ?_
    refine j_isub C dX1_widePower_21 ?_
    exact j_iret C dX1_widePower_22 (by rw [← Option.some.inj hg]) rfl rfl
  · refine j_iconst (v := 1) C dX1_widePower_10 (by decide) ?_
    refine j_goto C 15 dX1_widePower_11 (by decide) ?_
    refine j_sipush (v := 1023) C dX1_widePower_15 (by decide) ?_
    refine j_isub C dX1_widePower_18 ?_
    refine j_bipush (v := 52) C dX1_widePower_19 (by decide) ?_
    refine j_isub C dX1_widePower_21 ?_
    exact j_iret C dX1_widePower_22 (by rw [← Option.some.inj hg]) rfl rfl

def gX6_remainder_97 (x0 : UInt64) (x1 : UInt64) (k97 : Int64 → Int32 → Int64 → Int32 → Option UInt64) (v12 : Int64) (v14 : Int32) (v15 : Int64) (v17 : Int32) : Option UInt64 := if v17 ≤ 0 then ((gX6_twoTo v14).bind (fun r7 => if FP.dIsNaN (FP.dmul (FP.l2d v15) r7) = false then (if 0 ≤ (Op.cmpValue (FP.dcmp x0 FP.dconst0) CmpOp.g) then (some (FP.dmul (FP.l2d v15) r7)) else (some (FP.dneg (FP.dmul (FP.l2d v15) r7)))) else none)) else (if ¬ v12 = 0 then (k97 v12 v14 ((v15 <<< ((if (10 : Int32) < v17 then (10 : Int32) else v17).toInt64 &&& 63)) - (v15 <<< ((if (10 : Int32) < v17 then (10 : Int32) else v17).toInt64 &&& 63)) / v12 * v12) (v17 + (-10 : Int32))) else none)
def gX6_remainder_26 (x0 : UInt64) (x1 : UInt64) (v4 : UInt64) (s0 : UInt64) : Option UInt64 := if 0 ≤ (Op.cmpValue (FP.dcmp v4 s0) CmpOp.g) then ((gX1_behindSign v4 (0 : Int32)).bind (fun r1 => (gX1_behindSign s0 (0 : Int32)).bind (fun r2 => (gX1_wideDigits r2).bind (fun r3 => if 0 < (lg_cmp r3 (0 : Int64)) then ((gX1_widePower r2).bind (fun r4 => (gX1_wideDigits r1).bind (fun r5 => if ¬ r3 = 0 then ((gX1_widePower r1).bind (fun r6 => lq4 (gX6_remainder_97 x0 x1) 300 r3 r4 (r5 - r5 / r3 * r3) (r6 - r4))) else none))) else (some x0))))) else (some x0)
def gX6_remainder_12 (x0 : UInt64) (x1 : UInt64) (s0 : UInt64) : Option UInt64 := if 0 ≤ (Op.cmpValue (FP.dcmp x1 FP.dconst0) CmpOp.g) then (gX6_remainder_26 x0 x1 s0 x1) else (gX6_remainder_26 x0 x1 s0 (FP.dneg x1))
def gX6_remainder (x0 : UInt64) (x1 : UInt64) : Option UInt64 := if 0 ≤ (Op.cmpValue (FP.dcmp x0 FP.dconst0) CmpOp.g) then (gX6_remainder_12 x0 x1 x0) else (gX6_remainder_12 x0 x1 (FP.dneg x0))
theorem hd_X6_remainder : yX6_remainder.cls ≠ "java/lang/invoke/MethodHandle" ∧ yX6_remainder.cls ≠ "java/lang/invoke/VarHandle" ∧ (parseMethodDescriptor yX6_remainder.desc).map (fun d => d.parameters.length) = some 2 := by decide +kernel
set_option maxHeartbeats 4000000 in
set_option maxRecDepth 100000 in
theorem tX6_remainder {G : GG} {l : Launch} {z N : Nat} {ct : Nat → va_E} (x0 : UInt64) (x1 : UInt64) {r : UInt64} (hg : gX6_remainder x0 x1 = some r) : Ct G l yX6_remainder cX6_remainder 19 (some .double) ({ frames := 1, cells := 0, slots := 0, locals := 33 } : Room) [.double x0, .double x1] z ct N (some (.double r)) ct N := by
  refine Ct.of (lv := [(0, .double x0), (2, .double x1)]) (by decide +kernel) (Nat.le_of_ble_eq_true rfl) rfl (fun p e s m args below meth c C => ?_)
  have L_97 : ∀ (n97 : Nat) (v12 : Int64) (v14 : Int32) (v15 : Int64) (v17 : Int32), lq4 (gX6_remainder_97 x0 x1) n97 v12 v14 v15 v17 = some r → J G p l e ({ frames := 1, cells := 0, slots := 0, locals := 33 } : Room) s m args below meth c z 19 (MQ below (Qd G z (some (.double r)) ct N) args s 0 0 (zA z)) ct N 0 0 97 [(0, .double x0), (12, .long v12), (14, .int v14), (15, .long v15), (17, .int v17)] [] := by
    intro n97
    induction n97 with
    | zero => intro v12 v14 v15 v17 hg; cases hg
    | succ n97 ih97 =>
      intro v12 v14 v15 v17 hg
      replace hg : gX6_remainder_97 x0 x1 (lq4 (gX6_remainder_97 x0 x1) n97) v12 v14 v15 v17 = some r := hg
      rw [gX6_remainder_97] at hg
      refine j_iload C dX6_remainder_97 4 rfl ?_
      refine j_if_le C 123 hg dX6_remainder_99 (by decide) (fun hg => ?_) (fun hg => ?_)
      · refine j_lload C dX6_remainder_123 3 rfl ?_
        refine j_l2d C dX6_remainder_125 ?_
        refine j_iload C dX6_remainder_126 2 rfl ?_
        obtain ⟨r7, hr7, hg⟩ := ob hg
        refine j_callS C [.int v14] (tX6_twoTo v14 hr7) q1_224 q1_10 q1_223 q2_172 hd_X6_twoTo rfl dX6_remainder_128 rfl (Nat.le_of_ble_eq_true rfl) ⟨(Nat.le_of_ble_eq_true rfl), (Nat.le_of_ble_eq_true rfl)⟩ ⟨(Nat.le_of_ble_eq_true rfl), (Nat.le_of_ble_eq_true rfl)⟩ ?_
        refine j_dmul C hg dX6_remainder_131 (fun hg => ?_)
        refine j_dstore C [(17, .double (FP.dmul (FP.l2d v15) r7)), (0, .double x0), (12, .long v12), (14, .int v14), (15, .long v15)] dX6_remainder_132 (by decide) rfl ?_
        refine j_dload_n C dX6_remainder_134 1 rfl rfl ?_
        refine j_dconst0 C dX6_remainder_135 ?_
        refine j_dcmp C dX6_remainder_136 ?_
        refine j_if_ge C 146 hg dX6_remainder_137 (by decide) (fun hg => ?_) (fun hg => ?_)
        · refine j_dload C dX6_remainder_146 0 rfl ?_
          exact j_dret C dX6_remainder_148 (by rw [← Option.some.inj hg]) rfl rfl
        · refine j_dload C dX6_remainder_140 0 rfl ?_
          refine j_dneg C dX6_remainder_142 ?_
          refine j_goto C 148 dX6_remainder_143 (by decide) ?_
          exact j_dret C dX6_remainder_148 (by rw [← Option.some.inj hg]) rfl rfl
      · refine j_lload C dX6_remainder_102 3 rfl ?_
        refine j_iload C dX6_remainder_104 4 rfl ?_
        refine j_bipush (v := 10) C dX6_remainder_106 (by decide) ?_
        refine j_mmin C q2_171 q1_220 q1_9 q1_221 (Nat.le_of_ble_eq_true rfl) (Nat.le_of_ble_eq_true rfl) (Nat.le_of_ble_eq_true rfl) (Nat.le_of_ble_eq_true rfl) dX6_remainder_108 ?_
        refine j_lshl C dX6_remainder_111 ?_
        refine j_lload C dX6_remainder_112 1 rfl ?_
        refine j_lrem C hg dX6_remainder_114 (fun hg => ?_)
        refine j_lstore C [(15, .long ((v15 <<< ((if (10 : Int32) < v17 then (10 : Int32) else v17).toInt64 &&& 63)) - (v15 <<< ((if (10 : Int32) < v17 then (10 : Int32) else v17).toInt64 &&& 63)) / v12 * v12)), (0, .double x0), (12, .long v12), (14, .int v14), (17, .int v17)] dX6_remainder_115 (by decide) rfl ?_
        refine j_iinc C [(17, .int (v17 + (-10 : Int32))), (15, .long ((v15 <<< ((if (10 : Int32) < v17 then (10 : Int32) else v17).toInt64 &&& 63)) - (v15 <<< ((if (10 : Int32) < v17 then (10 : Int32) else v17).toInt64 &&& 63)) / v12 * v12)), (0, .double x0), (12, .long v12), (14, .int v14)] dX6_remainder_117 4 rfl rfl (by decide) rfl ?_
        refine j_goto C 97 dX6_remainder_120 (by decide) ?_
        exact j_re [2, 3, 4, 1, 0] rfl (ih97 v12 v14 ((v15 <<< ((if (10 : Int32) < v17 then (10 : Int32) else v17).toInt64 &&& 63)) - (v15 <<< ((if (10 : Int32) < v17 then (10 : Int32) else v17).toInt64 &&& 63)) / v12 * v12) (v17 + (-10 : Int32)) hg)
  have L_26 : ∀ (v4 : UInt64) (s0 : UInt64), gX6_remainder_26 x0 x1 v4 s0 = some r → J G p l e ({ frames := 1, cells := 0, slots := 0, locals := 33 } : Room) s m args below meth c z 19 (MQ below (Qd G z (some (.double r)) ct N) args s 0 0 (zA z)) ct N 0 0 26 [(0, .double x0), (4, .double v4)] [.double s0] := by
    intro v4 s0 hg
    rw [gX6_remainder_26] at hg
    refine j_dstore C [(6, .double s0), (0, .double x0), (4, .double v4)] dX6_remainder_26 (by decide) rfl ?_
    refine j_dload C dX6_remainder_28 2 rfl ?_
    refine j_dload C dX6_remainder_30 0 rfl ?_
    refine j_dcmp C dX6_remainder_32 ?_
    refine j_if_ge C 38 hg dX6_remainder_33 (by decide) (fun hg => ?_) (fun hg => ?_)
    · refine j_dload C dX6_remainder_38 2 rfl ?_
      refine j_iconst (v := 0) C dX6_remainder_40 (by decide) ?_
      obtain ⟨r1, hr1, hg⟩ := ob hg
      refine j_callS C [.double v4, .int (0 : Int32)] (tX1_behindSign v4 (0 : Int32) hr1) q2_154 q1_12 q2_153 q2_152 hd_X1_behindSign rfl dX6_remainder_41 rfl (Nat.le_of_ble_eq_true rfl) ⟨(Nat.le_of_ble_eq_true rfl), (Nat.le_of_ble_eq_true rfl)⟩ ⟨(Nat.le_of_ble_eq_true rfl), (Nat.le_of_ble_eq_true rfl)⟩ ?_
      refine j_lstore C [(8, .long r1), (6, .double s0), (0, .double x0), (4, .double v4)] dX6_remainder_44 (by decide) rfl ?_
      refine j_dload C dX6_remainder_46 1 rfl ?_
      refine j_iconst (v := 0) C dX6_remainder_48 (by decide) ?_
      obtain ⟨r2, hr2, hg⟩ := ob hg
      refine j_callS C [.double s0, .int (0 : Int32)] (tX1_behindSign s0 (0 : Int32) hr2) q2_154 q1_12 q2_153 q2_152 hd_X1_behindSign rfl dX6_remainder_49 rfl (Nat.le_of_ble_eq_true rfl) ⟨(Nat.le_of_ble_eq_true rfl), (Nat.le_of_ble_eq_true rfl)⟩ ⟨(Nat.le_of_ble_eq_true rfl), (Nat.le_of_ble_eq_true rfl)⟩ ?_
      refine j_lstore C [(10, .long r2), (8, .long r1), (6, .double s0), (0, .double x0), (4, .double v4)] dX6_remainder_52 (by decide) rfl ?_
      refine j_lload C dX6_remainder_54 0 rfl ?_
      obtain ⟨r3, hr3, hg⟩ := ob hg
      refine j_callS C [.long r2] (tX1_wideDigits r2 hr3) q2_165 q1_12 q2_164 q2_163 hd_X1_wideDigits rfl dX6_remainder_56 rfl (Nat.le_of_ble_eq_true rfl) ⟨(Nat.le_of_ble_eq_true rfl), (Nat.le_of_ble_eq_true rfl)⟩ ⟨(Nat.le_of_ble_eq_true rfl), (Nat.le_of_ble_eq_true rfl)⟩ ?_
      refine j_lstore C [(12, .long r3), (10, .long r2), (8, .long r1), (6, .double s0), (0, .double x0), (4, .double v4)] dX6_remainder_59 (by decide) rfl ?_
      refine j_lload C dX6_remainder_61 0 rfl ?_
      refine j_lconst (v := 0) C dX6_remainder_63 (by decide) ?_
      refine j_lcmp C dX6_remainder_64 ?_
      refine j_if_gt C 70 hg dX6_remainder_65 (by decide) (fun hg => ?_) (fun hg => ?_)
      · refine j_lload C dX6_remainder_70 1 rfl ?_
        obtain ⟨r4, hr4, hg⟩ := ob hg
        refine j_callS C [.long r2] (tX1_widePower r2 hr4) q2_170 q1_12 q2_169 q2_168 hd_X1_widePower rfl dX6_remainder_72 rfl (Nat.le_of_ble_eq_true rfl) ⟨(Nat.le_of_ble_eq_true rfl), (Nat.le_of_ble_eq_true rfl)⟩ ⟨(Nat.le_of_ble_eq_true rfl), (Nat.le_of_ble_eq_true rfl)⟩ ?_
        refine j_istore C [(14, .int r4), (12, .long r3), (10, .long r2), (8, .long r1), (6, .double s0), (0, .double x0), (4, .double v4)] dX6_remainder_75 (by decide) rfl ?_
        refine j_lload C dX6_remainder_77 3 rfl ?_
        obtain ⟨r5, hr5, hg⟩ := ob hg
        refine j_callS C [.long r1] (tX1_wideDigits r1 hr5) q2_165 q1_12 q2_164 q2_163 hd_X1_wideDigits rfl dX6_remainder_79 rfl (Nat.le_of_ble_eq_true rfl) ⟨(Nat.le_of_ble_eq_true rfl), (Nat.le_of_ble_eq_true rfl)⟩ ⟨(Nat.le_of_ble_eq_true rfl), (Nat.le_of_ble_eq_true rfl)⟩ ?_
        refine j_lload C dX6_remainder_82 1 rfl ?_
        refine j_lrem C hg dX6_remainder_84 (fun hg => ?_)
        refine j_lstore C [(15, .long (r5 - r5 / r3 * r3)), (14, .int r4), (12, .long r3), (10, .long r2), (8, .long r1), (6, .double s0), (0, .double x0), (4, .double v4)] dX6_remainder_85 (by decide) rfl ?_
        refine j_lload C dX6_remainder_87 4 rfl ?_
        obtain ⟨r6, hr6, hg⟩ := ob hg
        refine j_callS C [.long r1] (tX1_widePower r1 hr6) q2_170 q1_12 q2_169 q2_168 hd_X1_widePower rfl dX6_remainder_89 rfl (Nat.le_of_ble_eq_true rfl) ⟨(Nat.le_of_ble_eq_true rfl), (Nat.le_of_ble_eq_true rfl)⟩ ⟨(Nat.le_of_ble_eq_true rfl), (Nat.le_of_ble_eq_true rfl)⟩ ?_
        refine j_iload C dX6_remainder_92 1 rfl ?_
        refine j_isub C dX6_remainder_94 ?_
        refine j_istore C [(17, .int (r6 - r4)), (15, .long (r5 - r5 / r3 * r3)), (14, .int r4), (12, .long r3), (10, .long r2), (8, .long r1), (6, .double s0), (0, .double x0), (4, .double v4)] dX6_remainder_95 (by decide) rfl ?_
        exact j_re [7, 3, 2, 1, 0] rfl (L_97 300 r3 r4 (r5 - r5 / r3 * r3) (r6 - r4) hg)
      · refine j_dload_n C dX6_remainder_68 4 rfl rfl ?_
        exact j_dret C dX6_remainder_69 (by rw [← Option.some.inj hg]) rfl rfl
    · refine j_dload_n C dX6_remainder_36 1 rfl rfl ?_
      exact j_dret C dX6_remainder_37 (by rw [← Option.some.inj hg]) rfl rfl
  have L_12 : ∀ (s0 : UInt64), gX6_remainder_12 x0 x1 s0 = some r → J G p l e ({ frames := 1, cells := 0, slots := 0, locals := 33 } : Room) s m args below meth c z 19 (MQ below (Qd G z (some (.double r)) ct N) args s 0 0 (zA z)) ct N 0 0 12 [(0, .double x0), (2, .double x1)] [.double s0] := by
    intro s0 hg
    rw [gX6_remainder_12] at hg
    refine j_dstore C [(4, .double s0), (0, .double x0), (2, .double x1)] dX6_remainder_12 (by decide) rfl ?_
    refine j_dload_n C dX6_remainder_14 2 rfl rfl ?_
    refine j_dconst0 C dX6_remainder_15 ?_
    refine j_dcmp C dX6_remainder_16 ?_
    refine j_if_ge C 25 hg dX6_remainder_17 (by decide) (fun hg => ?_) (fun hg => ?_)
    · refine j_dload_n C dX6_remainder_25 2 rfl rfl ?_
      exact j_re [1, 0] rfl (L_26 s0 x1 hg)
    · refine j_dload_n C dX6_remainder_20 2 rfl rfl ?_
      refine j_dneg C dX6_remainder_21 ?_
      refine j_goto C 26 dX6_remainder_22 (by decide) ?_
      exact j_re [1, 0] rfl (L_26 s0 (FP.dneg x1) hg)
  rw [gX6_remainder] at hg
  refine j_dload_n C dX6_remainder_0 0 rfl rfl ?_
  refine j_dconst0 C dX6_remainder_1 ?_
  refine j_dcmp C dX6_remainder_2 ?_
  refine j_if_ge C 11 hg dX6_remainder_3 (by decide) (fun hg => ?_) (fun hg => ?_)
  · refine j_dload_n C dX6_remainder_11 0 rfl rfl ?_
    exact L_12 x0 hg
  · refine j_dload_n C dX6_remainder_6 0 rfl rfl ?_
    refine j_dneg C dX6_remainder_7 ?_
    refine j_goto C 12 dX6_remainder_8 (by decide) ?_
    exact L_12 (FP.dneg x0) hg

def gX6_ofOne (x0 : Int32) (x1 : UInt64) (x2 : Int32) : Option UInt64 := if x0 = (1 : Int32) then ((gX6_withSign x1 (0 : Int32)).bind (fun r7 => some r7)) else (if x0 = (2 : Int32) then ((gX6_floor x1).bind (fun r6 => some r6)) else (if x0 = (3 : Int32) then ((gX6_floor (FP.dneg x1)).bind (fun r5 => some (FP.dneg r5))) else (if x0 = (4 : Int32) then ((gX6_nearest x1).bind (fun r4 => some r4)) else (if x0 = (5 : Int32) then (if (Op.cmpValue (FP.dcmp x1 FP.dconst0) CmpOp.l) ≤ 0 then (if 0 ≤ (Op.cmpValue (FP.dcmp x1 FP.dconst0) CmpOp.g) then (some x1) else (some (13830554455654793216 : UInt64))) else (some FP.dconst1)) else (if x0 = (6 : Int32) then ((gX6_quotient x1 (4611686018427387904 : UInt64) x2).bind (fun r3 => some r3)) else (if x0 = (7 : Int32) then ((gX6_product x1 (4611686018427387904 : UInt64) x2).bind (fun r2 => some r2)) else (if x0 = (8 : Int32) then (some (FP.dneg x1)) else (some x1))))))))
theorem hd_X6_ofOne : yX6_ofOne.cls ≠ "java/lang/invoke/MethodHandle" ∧ yX6_ofOne.cls ≠ "java/lang/invoke/VarHandle" ∧ (parseMethodDescriptor yX6_ofOne.desc).map (fun d => d.parameters.length) = some 3 := by decide +kernel
set_option maxHeartbeats 4000000 in
set_option maxRecDepth 100000 in
theorem tX6_ofOne {G : GG} {l : Launch} {z N : Nat} {ct : Nat → va_E} (x0 : Int32) (x1 : UInt64) (x2 : Int32) {r : UInt64} (hg : gX6_ofOne x0 x1 x2 = some r) : Ct G l yX6_ofOne cX6_ofOne 4 (some .double) ({ frames := 2, cells := 0, slots := 0, locals := 48 } : Room) [.int x0, .double x1, .int x2] z ct N (some (.double r)) ct N := by
  refine Ct.of (lv := [(0, .int x0), (1, .double x1), (3, .int x2)]) (by decide +kernel) (Nat.le_of_ble_eq_true rfl) rfl (fun p e s m args below meth c C => ?_)
  rw [gX6_ofOne] at hg
  refine j_iload_n C dX6_ofOne_0 0 rfl rfl ?_
  by_cases c1_0 : x0 = (1 : Int32)
  · replace hg := (if_pos c1_0).symm.trans hg
    refine j_tableIn (off := 47) C 48 dX6_ofOne_1 (by rw [c1_0]; decide) (by rw [c1_0]; decide) (by rw [c1_0]; rfl) (by decide) ?_
    refine j_dload_n C dX6_ofOne_48 1 rfl rfl ?_
    refine j_iconst (v := 0) C dX6_ofOne_49 (by decide) ?_
    obtain ⟨r7, hr7, hg⟩ := ob hg
    refine j_callS C [.double x1, .int (0 : Int32)] (tX6_withSign x1 (0 : Int32) hr7) q2_106 q1_10 q2_105 q2_104 hd_X6_withSign rfl dX6_ofOne_50 rfl (Nat.le_of_ble_eq_true rfl) ⟨(Nat.le_of_ble_eq_true rfl), (Nat.le_of_ble_eq_true rfl)⟩ ⟨(Nat.le_of_ble_eq_true rfl), (Nat.le_of_ble_eq_true rfl)⟩ ?_
    exact j_dret C dX6_ofOne_53 (by rw [← Option.some.inj hg]) rfl rfl
  · replace hg := (if_neg c1_0).symm.trans hg
    by_cases c1_1 : x0 = (2 : Int32)
    · replace hg := (if_pos c1_1).symm.trans hg
      refine j_tableIn (off := 53) C 54 dX6_ofOne_1 (by rw [c1_1]; decide) (by rw [c1_1]; decide) (by rw [c1_1]; rfl) (by decide) ?_
      refine j_dload_n C dX6_ofOne_54 1 rfl rfl ?_
      obtain ⟨r6, hr6, hg⟩ := ob hg
      refine j_callS C [.double x1] (tX6_floor x1 hr6) q2_112 q1_10 q2_111 q2_110 hd_X6_floor rfl dX6_ofOne_55 rfl (Nat.le_of_ble_eq_true rfl) ⟨(Nat.le_of_ble_eq_true rfl), (Nat.le_of_ble_eq_true rfl)⟩ ⟨(Nat.le_of_ble_eq_true rfl), (Nat.le_of_ble_eq_true rfl)⟩ ?_
      exact j_dret C dX6_ofOne_58 (by rw [← Option.some.inj hg]) rfl rfl
    · replace hg := (if_neg c1_1).symm.trans hg
      by_cases c1_2 : x0 = (3 : Int32)
      · replace hg := (if_pos c1_2).symm.trans hg
        refine j_tableIn (off := 58) C 59 dX6_ofOne_1 (by rw [c1_2]; decide) (by rw [c1_2]; decide) (by rw [c1_2]; rfl) (by decide) ?_
        refine j_dload_n C dX6_ofOne_59 1 rfl rfl ?_
        refine j_dneg C dX6_ofOne_60 ?_
        obtain ⟨r5, hr5, hg⟩ := ob hg
        refine j_callS C [.double (FP.dneg x1)] (tX6_floor (FP.dneg x1) hr5) q2_112 q1_10 q2_111 q2_110 hd_X6_floor rfl dX6_ofOne_61 rfl (Nat.le_of_ble_eq_true rfl) ⟨(Nat.le_of_ble_eq_true rfl), (Nat.le_of_ble_eq_true rfl)⟩ ⟨(Nat.le_of_ble_eq_true rfl), (Nat.le_of_ble_eq_true rfl)⟩ ?_
        refine j_dneg C dX6_ofOne_64 ?_
        exact j_dret C dX6_ofOne_65 (by rw [← Option.some.inj hg]) rfl rfl
      · replace hg := (if_neg c1_2).symm.trans hg
        by_cases c1_3 : x0 = (4 : Int32)
        · replace hg := (if_pos c1_3).symm.trans hg
          refine j_tableIn (off := 65) C 66 dX6_ofOne_1 (by rw [c1_3]; decide) (by rw [c1_3]; decide) (by rw [c1_3]; rfl) (by decide) ?_
          refine j_dload_n C dX6_ofOne_66 1 rfl rfl ?_
          obtain ⟨r4, hr4, hg⟩ := ob hg
          refine j_callS C [.double x1] (tX6_nearest x1 hr4) q2_123 q1_10 q2_122 q2_121 hd_X6_nearest rfl dX6_ofOne_67 rfl (Nat.le_of_ble_eq_true rfl) ⟨(Nat.le_of_ble_eq_true rfl), (Nat.le_of_ble_eq_true rfl)⟩ ⟨(Nat.le_of_ble_eq_true rfl), (Nat.le_of_ble_eq_true rfl)⟩ ?_
          exact j_dret C dX6_ofOne_70 (by rw [← Option.some.inj hg]) rfl rfl
        · replace hg := (if_neg c1_3).symm.trans hg
          by_cases c1_4 : x0 = (5 : Int32)
          · replace hg := (if_pos c1_4).symm.trans hg
            refine j_tableIn (off := 70) C 71 dX6_ofOne_1 (by rw [c1_4]; decide) (by rw [c1_4]; decide) (by rw [c1_4]; rfl) (by decide) ?_
            refine j_dload_n C dX6_ofOne_71 1 rfl rfl ?_
            refine j_dconst0 C dX6_ofOne_72 ?_
            refine j_dcmp C dX6_ofOne_73 ?_
            refine j_if_le C 81 hg dX6_ofOne_74 (by decide) (fun hg => ?_) (fun hg => ?_)
            · refine j_dload_n C dX6_ofOne_81 1 rfl rfl ?_
              refine j_dconst0 C dX6_ofOne_82 ?_
              refine j_dcmp C dX6_ofOne_83 ?_
              refine j_if_ge C 93 hg dX6_ofOne_84 (by decide) (fun hg => ?_) (fun hg => ?_)
              · refine j_dload_n C dX6_ofOne_93 1 rfl rfl ?_
                exact j_dret C dX6_ofOne_94 (by rw [← Option.some.inj hg]) rfl rfl
              · refine j_ldc2d C q2_124 dX6_ofOne_87 ?_
                refine j_goto C 94 dX6_ofOne_90 (by decide) ?_
                exact j_dret C dX6_ofOne_94 (by rw [← Option.some.inj hg]) rfl rfl
            · refine j_dconst1 C dX6_ofOne_77 ?_
              refine j_goto C 94 dX6_ofOne_78 (by decide) ?_
              exact j_dret C dX6_ofOne_94 (by rw [← Option.some.inj hg]) rfl rfl
          · replace hg := (if_neg c1_4).symm.trans hg
            by_cases c1_5 : x0 = (6 : Int32)
            · replace hg := (if_pos c1_5).symm.trans hg
              refine j_tableIn (off := 94) C 95 dX6_ofOne_1 (by rw [c1_5]; decide) (by rw [c1_5]; decide) (by rw [c1_5]; rfl) (by decide) ?_
              refine j_dload_n C dX6_ofOne_95 1 rfl rfl ?_
              refine j_ldc2d C q1_226 dX6_ofOne_96 ?_
              refine j_iload_n C dX6_ofOne_99 2 rfl rfl ?_
              obtain ⟨r3, hr3, hg⟩ := ob hg
              refine j_callS C [.double x1, .double (4611686018427387904 : UInt64), .int x2] (tX6_quotient x1 (4611686018427387904 : UInt64) x2 hr3) q2_127 q1_10 q2_126 q2_125 hd_X6_quotient rfl dX6_ofOne_100 rfl (Nat.le_of_ble_eq_true rfl) ⟨(Nat.le_of_ble_eq_true rfl), (Nat.le_of_ble_eq_true rfl)⟩ ⟨(Nat.le_of_ble_eq_true rfl), (Nat.le_of_ble_eq_true rfl)⟩ ?_
              exact j_dret C dX6_ofOne_103 (by rw [← Option.some.inj hg]) rfl rfl
            · replace hg := (if_neg c1_5).symm.trans hg
              by_cases c1_6 : x0 = (7 : Int32)
              · replace hg := (if_pos c1_6).symm.trans hg
                refine j_tableIn (off := 103) C 104 dX6_ofOne_1 (by rw [c1_6]; decide) (by rw [c1_6]; decide) (by rw [c1_6]; rfl) (by decide) ?_
                refine j_dload_n C dX6_ofOne_104 1 rfl rfl ?_
                refine j_ldc2d C q1_226 dX6_ofOne_105 ?_
                refine j_iload_n C dX6_ofOne_108 2 rfl rfl ?_
                obtain ⟨r2, hr2, hg⟩ := ob hg
                refine j_callS C [.double x1, .double (4611686018427387904 : UInt64), .int x2] (tX6_product x1 (4611686018427387904 : UInt64) x2 hr2) q2_130 q1_10 q2_129 q2_128 hd_X6_product rfl dX6_ofOne_109 rfl (Nat.le_of_ble_eq_true rfl) ⟨(Nat.le_of_ble_eq_true rfl), (Nat.le_of_ble_eq_true rfl)⟩ ⟨(Nat.le_of_ble_eq_true rfl), (Nat.le_of_ble_eq_true rfl)⟩ ?_
                exact j_dret C dX6_ofOne_112 (by rw [← Option.some.inj hg]) rfl rfl
              · replace hg := (if_neg c1_6).symm.trans hg
                by_cases c1_7 : x0 = (8 : Int32)
                · replace hg := (if_pos c1_7).symm.trans hg
                  refine j_tableIn (off := 112) C 113 dX6_ofOne_1 (by rw [c1_7]; decide) (by rw [c1_7]; decide) (by rw [c1_7]; rfl) (by decide) ?_
                  refine j_dload_n C dX6_ofOne_113 1 rfl rfl ?_
                  refine j_dneg C dX6_ofOne_114 ?_
                  exact j_dret C dX6_ofOne_115 (by rw [← Option.some.inj hg]) rfl rfl
                · replace hg := (if_neg c1_7).symm.trans hg
                  have ho : x0.toInt < 1 ∨ 8 < x0.toInt := by
                    by_cases ho : x0.toInt < 1 ∨ 8 < x0.toInt
                    · exact ho
                    · obtain ⟨k, hk, hx⟩ := sw_in ho
                      match k, hk, hx with
                      | 0, _, hx => exact absurd (Int32.toInt_inj.mp (hx.trans (by decide))) c1_0
                      | 1, _, hx => exact absurd (Int32.toInt_inj.mp (hx.trans (by decide))) c1_1
                      | 2, _, hx => exact absurd (Int32.toInt_inj.mp (hx.trans (by decide))) c1_2
                      | 3, _, hx => exact absurd (Int32.toInt_inj.mp (hx.trans (by decide))) c1_3
                      | 4, _, hx => exact absurd (Int32.toInt_inj.mp (hx.trans (by decide))) c1_4
                      | 5, _, hx => exact absurd (Int32.toInt_inj.mp (hx.trans (by decide))) c1_5
                      | 6, _, hx => exact absurd (Int32.toInt_inj.mp (hx.trans (by decide))) c1_6
                      | 7, _, hx => exact absurd (Int32.toInt_inj.mp (hx.trans (by decide))) c1_7
                      | k + 8, hk, _ => exact absurd hk (Nat.not_lt.mpr (Nat.le_add_left _ _))
                  refine j_tableOut C 116 dX6_ofOne_1 ho (by decide) ?_
                  refine j_dload_n C dX6_ofOne_116 1 rfl rfl ?_
                  exact j_dret C dX6_ofOne_117 (by rw [← Option.some.inj hg]) rfl rfl

def gX6_isVoid_184 (x0 : Int32) (x1 : UInt64) (x2 : UInt64) : Option Int32 := (gX6_isInfinite x1).bind (fun r9 => if r9 = 0 then (some (0 : Int32)) else ((gX6_isInfinite x2).bind (fun r10 => if r10 = 0 then (some (0 : Int32)) else (some (1 : Int32)))))
def gX6_isVoid_153 (x0 : Int32) (x1 : UInt64) (x2 : UInt64) : Option Int32 := (gX6_isInfinite x1).bind (fun r11 => if r11 = 0 then (some (0 : Int32)) else (if (Op.cmpValue (FP.dcmp x2 FP.dconst0) CmpOp.l) = 0 then (some (1 : Int32)) else (some (0 : Int32))))
def gX6_isVoid (x0 : Int32) (x1 : UInt64) (x2 : UInt64) : Option Int32 := if x0 = (9 : Int32) then ((gX6_isInfinite x1).bind (fun r7 => if r7 = 0 then (some (0 : Int32)) else ((gX6_isInfinite x2).bind (fun r8 => if r8 = 0 then (some (0 : Int32)) else (if (Op.cmpValue (FP.dcmp x1 x2) CmpOp.l) = 0 then (some (0 : Int32)) else (some (1 : Int32))))))) else (if x0 = (10 : Int32) then ((gX6_isInfinite x1).bind (fun r5 => if r5 = 0 then (some (0 : Int32)) else ((gX6_isInfinite x2).bind (fun r6 => if r6 = 0 then (some (0 : Int32)) else (if (Op.cmpValue (FP.dcmp x1 x2) CmpOp.l) = 0 then (some (1 : Int32)) else (some (0 : Int32))))))) else (if x0 = (11 : Int32) then (if (Op.cmpValue (FP.dcmp x1 FP.dconst0) CmpOp.l) = 0 then ((gX6_isInfinite x2).bind (fun r4 => if r4 = 0 then (gX6_isVoid_153 x0 x1 x2 ) else (some (1 : Int32)))) else (gX6_isVoid_153 x0 x1 x2 )) else (if x0 = (12 : Int32) then (if (Op.cmpValue (FP.dcmp x1 FP.dconst0) CmpOp.l) = 0 then (if (Op.cmpValue (FP.dcmp x2 FP.dconst0) CmpOp.l) = 0 then (some (1 : Int32)) else (gX6_isVoid_184 x0 x1 x2 )) else (gX6_isVoid_184 x0 x1 x2 )) else (if x0 = (13 : Int32) then (if (Op.cmpValue (FP.dcmp x2 FP.dconst0) CmpOp.l) = 0 then (some (1 : Int32)) else ((gX6_isInfinite x1).bind (fun r3 => if r3 = 0 then (some (0 : Int32)) else (some (1 : Int32))))) else (if x0 = (26 : Int32) then (if (Op.cmpValue (FP.dcmp x2 FP.dconst0) CmpOp.l) = 0 then (some (1 : Int32)) else ((gX6_isInfinite x2).bind (fun r2 => if r2 = 0 then (some (0 : Int32)) else (some (1 : Int32))))) else (some (0 : Int32)))))))
theorem hd_X6_isVoid : yX6_isVoid.cls ≠ "java/lang/invoke/MethodHandle" ∧ yX6_isVoid.cls ≠ "java/lang/invoke/VarHandle" ∧ (parseMethodDescriptor yX6_isVoid.desc).map (fun d => d.parameters.length) = some 3 := by decide +kernel
set_option maxHeartbeats 4000000 in
set_option maxRecDepth 100000 in
theorem tX6_isVoid {G : GG} {l : Launch} {z N : Nat} {ct : Nat → va_E} (x0 : Int32) (x1 : UInt64) (x2 : UInt64) {r : Int32} (hg : gX6_isVoid x0 x1 x2 = some r) : Ct G l yX6_isVoid cX6_isVoid 5 (some .boolean) ({ frames := 1, cells := 0, slots := 0, locals := 21 } : Room) [.int x0, .double x1, .double x2] z ct N (some (.int r)) ct N := by
  refine Ct.of (lv := [(0, .int x0), (1, .double x1), (3, .double x2)]) (by decide +kernel) (Nat.le_of_ble_eq_true rfl) rfl (fun p e s m args below meth c C => ?_)
  have L_184 : gX6_isVoid_184 x0 x1 x2 = some r → J G p l e ({ frames := 1, cells := 0, slots := 0, locals := 21 } : Room) s m args below meth c z 5 (MQ below (Qd G z (some (.int r)) ct N) args s 0 0 (zA z)) ct N 0 0 184 [(1, .double x1), (3, .double x2)] [] := by
    intro  hg
    rw [gX6_isVoid_184] at hg
    refine j_dload_n C dX6_isVoid_184 0 rfl rfl ?_
    obtain ⟨r9, hr9, hg⟩ := ob hg
    refine j_callS C [.double x1] (tX6_isInfinite x1 hr9) q2_141 q1_10 q2_140 q2_139 hd_X6_isInfinite rfl dX6_isVoid_185 rfl (Nat.le_of_ble_eq_true rfl) ⟨(Nat.le_of_ble_eq_true rfl), (Nat.le_of_ble_eq_true rfl)⟩ ⟨(Nat.le_of_ble_eq_true rfl), (Nat.le_of_ble_eq_true rfl)⟩ ?_
    refine j_if_eq C 202 hg dX6_isVoid_188 (by decide) (fun hg => ?_) (fun hg => ?_)
    · refine j_iconst (v := 0) C dX6_isVoid_202 (by decide) ?_
      exact j_zret C dX6_isVoid_203 (by decide) (by rw [← Option.some.inj hg]) rfl rfl
    · refine j_dload_n C dX6_isVoid_191 1 rfl rfl ?_
      obtain ⟨r10, hr10, hg⟩ := ob hg
      refine j_callS C [.double x2] (tX6_isInfinite x2 hr10) q2_141 q1_10 q2_140 q2_139 hd_X6_isInfinite rfl dX6_isVoid_192 rfl (Nat.le_of_ble_eq_true rfl) ⟨(Nat.le_of_ble_eq_true rfl), (Nat.le_of_ble_eq_true rfl)⟩ ⟨(Nat.le_of_ble_eq_true rfl), (Nat.le_of_ble_eq_true rfl)⟩ ?_
      refine j_if_eq C 202 hg dX6_isVoid_195 (by decide) (fun hg => ?_) (fun hg => ?_)
      · refine j_iconst (v := 0) C dX6_isVoid_202 (by decide) ?_
        exact j_zret C dX6_isVoid_203 (by decide) (by rw [← Option.some.inj hg]) rfl rfl
      · refine j_iconst (v := 1) C dX6_isVoid_198 (by decide) ?_
        refine j_goto C 203 dX6_isVoid_199 (by decide) ?_
        exact j_zret C dX6_isVoid_203 (by decide) (by rw [← Option.some.inj hg]) rfl rfl
  have L_153 : gX6_isVoid_153 x0 x1 x2 = some r → J G p l e ({ frames := 1, cells := 0, slots := 0, locals := 21 } : Room) s m args below meth c z 5 (MQ below (Qd G z (some (.int r)) ct N) args s 0 0 (zA z)) ct N 0 0 153 [(1, .double x1), (3, .double x2)] [] := by
    intro  hg
    rw [gX6_isVoid_153] at hg
    refine j_dload_n C dX6_isVoid_153 0 rfl rfl ?_
    obtain ⟨r11, hr11, hg⟩ := ob hg
    refine j_callS C [.double x1] (tX6_isInfinite x1 hr11) q2_141 q1_10 q2_140 q2_139 hd_X6_isInfinite rfl dX6_isVoid_154 rfl (Nat.le_of_ble_eq_true rfl) ⟨(Nat.le_of_ble_eq_true rfl), (Nat.le_of_ble_eq_true rfl)⟩ ⟨(Nat.le_of_ble_eq_true rfl), (Nat.le_of_ble_eq_true rfl)⟩ ?_
    refine j_if_eq C 170 hg dX6_isVoid_157 (by decide) (fun hg => ?_) (fun hg => ?_)
    · refine j_iconst (v := 0) C dX6_isVoid_170 (by decide) ?_
      exact j_zret C dX6_isVoid_171 (by decide) (by rw [← Option.some.inj hg]) rfl rfl
    · refine j_dload_n C dX6_isVoid_160 1 rfl rfl ?_
      refine j_dconst0 C dX6_isVoid_161 ?_
      refine j_dcmp C dX6_isVoid_162 ?_
      refine j_if_ne C 170 hg dX6_isVoid_163 (by decide) (fun hg => ?_) (fun hg => ?_)
      · refine j_iconst (v := 0) C dX6_isVoid_170 (by decide) ?_
        exact j_zret C dX6_isVoid_171 (by decide) (by rw [← Option.some.inj hg]) rfl rfl
      · refine j_iconst (v := 1) C dX6_isVoid_166 (by decide) ?_
        refine j_goto C 171 dX6_isVoid_167 (by decide) ?_
        exact j_zret C dX6_isVoid_171 (by decide) (by rw [← Option.some.inj hg]) rfl rfl
  rw [gX6_isVoid] at hg
  refine j_iload_n C dX6_isVoid_0 0 rfl rfl ?_
  by_cases c1_0 : x0 = (9 : Int32)
  · replace hg := (if_pos c1_0).symm.trans hg
    refine j_tableIn (off := 87) C 88 dX6_isVoid_1 (by rw [c1_0]; decide) (by rw [c1_0]; decide) (by rw [c1_0]; rfl) (by decide) ?_
    refine j_dload_n C dX6_isVoid_88 1 rfl rfl ?_
    obtain ⟨r7, hr7, hg⟩ := ob hg
    refine j_callS C [.double x1] (tX6_isInfinite x1 hr7) q2_141 q1_10 q2_140 q2_139 hd_X6_isInfinite rfl dX6_isVoid_89 rfl (Nat.le_of_ble_eq_true rfl) ⟨(Nat.le_of_ble_eq_true rfl), (Nat.le_of_ble_eq_true rfl)⟩ ⟨(Nat.le_of_ble_eq_true rfl), (Nat.le_of_ble_eq_true rfl)⟩ ?_
    refine j_if_eq C 112 hg dX6_isVoid_92 (by decide) (fun hg => ?_) (fun hg => ?_)
    · refine j_iconst (v := 0) C dX6_isVoid_112 (by decide) ?_
      exact j_zret C dX6_isVoid_113 (by decide) (by rw [← Option.some.inj hg]) rfl rfl
    · refine j_dload_n C dX6_isVoid_95 2 rfl rfl ?_
      obtain ⟨r8, hr8, hg⟩ := ob hg
      refine j_callS C [.double x2] (tX6_isInfinite x2 hr8) q2_141 q1_10 q2_140 q2_139 hd_X6_isInfinite rfl dX6_isVoid_96 rfl (Nat.le_of_ble_eq_true rfl) ⟨(Nat.le_of_ble_eq_true rfl), (Nat.le_of_ble_eq_true rfl)⟩ ⟨(Nat.le_of_ble_eq_true rfl), (Nat.le_of_ble_eq_true rfl)⟩ ?_
      refine j_if_eq C 112 hg dX6_isVoid_99 (by decide) (fun hg => ?_) (fun hg => ?_)
      · refine j_iconst (v := 0) C dX6_isVoid_112 (by decide) ?_
        exact j_zret C dX6_isVoid_113 (by decide) (by rw [← Option.some.inj hg]) rfl rfl
      · refine j_dload_n C dX6_isVoid_102 1 rfl rfl ?_
        refine j_dload_n C dX6_isVoid_103 2 rfl rfl ?_
        refine j_dcmp C dX6_isVoid_104 ?_
        refine j_if_eq C 112 hg dX6_isVoid_105 (by decide) (fun hg => ?_) (fun hg => ?_)
        · refine j_iconst (v := 0) C dX6_isVoid_112 (by decide) ?_
          exact j_zret C dX6_isVoid_113 (by decide) (by rw [← Option.some.inj hg]) rfl rfl
        · refine j_iconst (v := 1) C dX6_isVoid_108 (by decide) ?_
          refine j_goto C 113 dX6_isVoid_109 (by decide) ?_
          exact j_zret C dX6_isVoid_113 (by decide) (by rw [← Option.some.inj hg]) rfl rfl
  · replace hg := (if_neg c1_0).symm.trans hg
    by_cases c1_1 : x0 = (10 : Int32)
    · replace hg := (if_pos c1_1).symm.trans hg
      refine j_tableIn (off := 113) C 114 dX6_isVoid_1 (by rw [c1_1]; decide) (by rw [c1_1]; decide) (by rw [c1_1]; rfl) (by decide) ?_
      refine j_dload_n C dX6_isVoid_114 1 rfl rfl ?_
      obtain ⟨r5, hr5, hg⟩ := ob hg
      refine j_callS C [.double x1] (tX6_isInfinite x1 hr5) q2_141 q1_10 q2_140 q2_139 hd_X6_isInfinite rfl dX6_isVoid_115 rfl (Nat.le_of_ble_eq_true rfl) ⟨(Nat.le_of_ble_eq_true rfl), (Nat.le_of_ble_eq_true rfl)⟩ ⟨(Nat.le_of_ble_eq_true rfl), (Nat.le_of_ble_eq_true rfl)⟩ ?_
      refine j_if_eq C 138 hg dX6_isVoid_118 (by decide) (fun hg => ?_) (fun hg => ?_)
      · refine j_iconst (v := 0) C dX6_isVoid_138 (by decide) ?_
        exact j_zret C dX6_isVoid_139 (by decide) (by rw [← Option.some.inj hg]) rfl rfl
      · refine j_dload_n C dX6_isVoid_121 2 rfl rfl ?_
        obtain ⟨r6, hr6, hg⟩ := ob hg
        refine j_callS C [.double x2] (tX6_isInfinite x2 hr6) q2_141 q1_10 q2_140 q2_139 hd_X6_isInfinite rfl dX6_isVoid_122 rfl (Nat.le_of_ble_eq_true rfl) ⟨(Nat.le_of_ble_eq_true rfl), (Nat.le_of_ble_eq_true rfl)⟩ ⟨(Nat.le_of_ble_eq_true rfl), (Nat.le_of_ble_eq_true rfl)⟩ ?_
        refine j_if_eq C 138 hg dX6_isVoid_125 (by decide) (fun hg => ?_) (fun hg => ?_)
        · refine j_iconst (v := 0) C dX6_isVoid_138 (by decide) ?_
          exact j_zret C dX6_isVoid_139 (by decide) (by rw [← Option.some.inj hg]) rfl rfl
        · refine j_dload_n C dX6_isVoid_128 1 rfl rfl ?_
          refine j_dload_n C dX6_isVoid_129 2 rfl rfl ?_
          refine j_dcmp C dX6_isVoid_130 ?_
          refine j_if_ne C 138 hg dX6_isVoid_131 (by decide) (fun hg => ?_) (fun hg => ?_)
          · refine j_iconst (v := 0) C dX6_isVoid_138 (by decide) ?_
            exact j_zret C dX6_isVoid_139 (by decide) (by rw [← Option.some.inj hg]) rfl rfl
          · refine j_iconst (v := 1) C dX6_isVoid_134 (by decide) ?_
            refine j_goto C 139 dX6_isVoid_135 (by decide) ?_
            exact j_zret C dX6_isVoid_139 (by decide) (by rw [← Option.some.inj hg]) rfl rfl
    · replace hg := (if_neg c1_1).symm.trans hg
      by_cases c1_2 : x0 = (11 : Int32)
      · replace hg := (if_pos c1_2).symm.trans hg
        refine j_tableIn (off := 139) C 140 dX6_isVoid_1 (by rw [c1_2]; decide) (by rw [c1_2]; decide) (by rw [c1_2]; rfl) (by decide) ?_
        refine j_dload_n C dX6_isVoid_140 1 rfl rfl ?_
        refine j_dconst0 C dX6_isVoid_141 ?_
        refine j_dcmp C dX6_isVoid_142 ?_
        refine j_if_ne C 153 hg dX6_isVoid_143 (by decide) (fun hg => ?_) (fun hg => ?_)
        · exact j_re [1, 2] rfl (L_153  hg)
        · refine j_dload_n C dX6_isVoid_146 2 rfl rfl ?_
          obtain ⟨r4, hr4, hg⟩ := ob hg
          refine j_callS C [.double x2] (tX6_isInfinite x2 hr4) q2_141 q1_10 q2_140 q2_139 hd_X6_isInfinite rfl dX6_isVoid_147 rfl (Nat.le_of_ble_eq_true rfl) ⟨(Nat.le_of_ble_eq_true rfl), (Nat.le_of_ble_eq_true rfl)⟩ ⟨(Nat.le_of_ble_eq_true rfl), (Nat.le_of_ble_eq_true rfl)⟩ ?_
          refine j_if_ne C 166 hg dX6_isVoid_150 (by decide) (fun hg => ?_) (fun hg => ?_)
          · refine j_iconst (v := 1) C dX6_isVoid_166 (by decide) ?_
            refine j_goto C 171 dX6_isVoid_167 (by decide) ?_
            exact j_zret C dX6_isVoid_171 (by decide) (by rw [← Option.some.inj hg]) rfl rfl
          · exact j_re [1, 2] rfl (L_153  hg)
      · replace hg := (if_neg c1_2).symm.trans hg
        by_cases c1_3 : x0 = (12 : Int32)
        · replace hg := (if_pos c1_3).symm.trans hg
          refine j_tableIn (off := 171) C 172 dX6_isVoid_1 (by rw [c1_3]; decide) (by rw [c1_3]; decide) (by rw [c1_3]; rfl) (by decide) ?_
          refine j_dload_n C dX6_isVoid_172 1 rfl rfl ?_
          refine j_dconst0 C dX6_isVoid_173 ?_
          refine j_dcmp C dX6_isVoid_174 ?_
          refine j_if_ne C 184 hg dX6_isVoid_175 (by decide) (fun hg => ?_) (fun hg => ?_)
          · exact j_re [1, 2] rfl (L_184  hg)
          · refine j_dload_n C dX6_isVoid_178 2 rfl rfl ?_
            refine j_dconst0 C dX6_isVoid_179 ?_
            refine j_dcmp C dX6_isVoid_180 ?_
            refine j_if_eq C 198 hg dX6_isVoid_181 (by decide) (fun hg => ?_) (fun hg => ?_)
            · refine j_iconst (v := 1) C dX6_isVoid_198 (by decide) ?_
              refine j_goto C 203 dX6_isVoid_199 (by decide) ?_
              exact j_zret C dX6_isVoid_203 (by decide) (by rw [← Option.some.inj hg]) rfl rfl
            · exact j_re [1, 2] rfl (L_184  hg)
        · replace hg := (if_neg c1_3).symm.trans hg
          by_cases c1_4 : x0 = (13 : Int32)
          · replace hg := (if_pos c1_4).symm.trans hg
            refine j_tableIn (off := 203) C 204 dX6_isVoid_1 (by rw [c1_4]; decide) (by rw [c1_4]; decide) (by rw [c1_4]; rfl) (by decide) ?_
            refine j_dload_n C dX6_isVoid_204 2 rfl rfl ?_
            refine j_dconst0 C dX6_isVoid_205 ?_
            refine j_dcmp C dX6_isVoid_206 ?_
            refine j_if_eq C 217 hg dX6_isVoid_207 (by decide) (fun hg => ?_) (fun hg => ?_)
            · refine j_iconst (v := 1) C dX6_isVoid_217 (by decide) ?_
              refine j_goto C 222 dX6_isVoid_218 (by decide) ?_
              exact j_zret C dX6_isVoid_222 (by decide) (by rw [← Option.some.inj hg]) rfl rfl
            · refine j_dload_n C dX6_isVoid_210 1 rfl rfl ?_
              obtain ⟨r3, hr3, hg⟩ := ob hg
              refine j_callS C [.double x1] (tX6_isInfinite x1 hr3) q2_141 q1_10 q2_140 q2_139 hd_X6_isInfinite rfl dX6_isVoid_211 rfl (Nat.le_of_ble_eq_true rfl) ⟨(Nat.le_of_ble_eq_true rfl), (Nat.le_of_ble_eq_true rfl)⟩ ⟨(Nat.le_of_ble_eq_true rfl), (Nat.le_of_ble_eq_true rfl)⟩ ?_
              refine j_if_eq C 221 hg dX6_isVoid_214 (by decide) (fun hg => ?_) (fun hg => ?_)
              · refine j_iconst (v := 0) C dX6_isVoid_221 (by decide) ?_
                exact j_zret C dX6_isVoid_222 (by decide) (by rw [← Option.some.inj hg]) rfl rfl
              · refine j_iconst (v := 1) C dX6_isVoid_217 (by decide) ?_
                refine j_goto C 222 dX6_isVoid_218 (by decide) ?_
                exact j_zret C dX6_isVoid_222 (by decide) (by rw [← Option.some.inj hg]) rfl rfl
          · replace hg := (if_neg c1_4).symm.trans hg
            by_cases c1_5 : x0 = (26 : Int32)
            · replace hg := (if_pos c1_5).symm.trans hg
              refine j_tableIn (off := 222) C 223 dX6_isVoid_1 (by rw [c1_5]; decide) (by rw [c1_5]; decide) (by rw [c1_5]; rfl) (by decide) ?_
              refine j_dload_n C dX6_isVoid_223 2 rfl rfl ?_
              refine j_dconst0 C dX6_isVoid_224 ?_
              refine j_dcmp C dX6_isVoid_225 ?_
              refine j_if_eq C 236 hg dX6_isVoid_226 (by decide) (fun hg => ?_) (fun hg => ?_)
              · refine j_iconst (v := 1) C dX6_isVoid_236 (by decide) ?_
                refine j_goto C 241 dX6_isVoid_237 (by decide) ?_
                exact j_zret C dX6_isVoid_241 (by decide) (by rw [← Option.some.inj hg]) rfl rfl
              · refine j_dload_n C dX6_isVoid_229 2 rfl rfl ?_
                obtain ⟨r2, hr2, hg⟩ := ob hg
                refine j_callS C [.double x2] (tX6_isInfinite x2 hr2) q2_141 q1_10 q2_140 q2_139 hd_X6_isInfinite rfl dX6_isVoid_230 rfl (Nat.le_of_ble_eq_true rfl) ⟨(Nat.le_of_ble_eq_true rfl), (Nat.le_of_ble_eq_true rfl)⟩ ⟨(Nat.le_of_ble_eq_true rfl), (Nat.le_of_ble_eq_true rfl)⟩ ?_
                refine j_if_eq C 240 hg dX6_isVoid_233 (by decide) (fun hg => ?_) (fun hg => ?_)
                · refine j_iconst (v := 0) C dX6_isVoid_240 (by decide) ?_
                  exact j_zret C dX6_isVoid_241 (by decide) (by rw [← Option.some.inj hg]) rfl rfl
                · refine j_iconst (v := 1) C dX6_isVoid_236 (by decide) ?_
                  refine j_goto C 241 dX6_isVoid_237 (by decide) ?_
                  exact j_zret C dX6_isVoid_241 (by decide) (by rw [← Option.some.inj hg]) rfl rfl
            · replace hg := (if_neg c1_5).symm.trans hg
              have hD : J G p l e ({ frames := 1, cells := 0, slots := 0, locals := 21 } : Room) s m args below meth c z 5 (MQ below (Qd G z (some (.int r)) ct N) args s 0 0 (zA z)) ct N 0 0 242 [(0, .int x0), (1, .double x1), (3, .double x2)] [] := by
                refine j_iconst (v := 0) C dX6_isVoid_242 (by decide) ?_
                exact j_zret C dX6_isVoid_243 (by decide) (by rw [← Option.some.inj hg]) rfl rfl
              by_cases ho : x0.toInt < 9 ∨ 26 < x0.toInt
              · exact j_tableOut C 242 dX6_isVoid_1 ho (by decide) hD
              · obtain ⟨k, hk, hx⟩ := sw_in ho
                match k, hk, hx with
                | 0, _, hx => exact absurd (Int32.toInt_inj.mp (hx.trans (by decide))) c1_0
                | 1, _, hx => exact absurd (Int32.toInt_inj.mp (hx.trans (by decide))) c1_1
                | 2, _, hx => exact absurd (Int32.toInt_inj.mp (hx.trans (by decide))) c1_2
                | 3, _, hx => exact absurd (Int32.toInt_inj.mp (hx.trans (by decide))) c1_3
                | 4, _, hx => exact absurd (Int32.toInt_inj.mp (hx.trans (by decide))) c1_4
                | 5, _, hx => exact j_tableIn (off := 241) C 242 dX6_isVoid_1 (by rw [hx]; decide) (by rw [hx]; decide) (by rw [hx]; rfl) (by decide) hD
                | 6, _, hx => exact j_tableIn (off := 241) C 242 dX6_isVoid_1 (by rw [hx]; decide) (by rw [hx]; decide) (by rw [hx]; rfl) (by decide) hD
                | 7, _, hx => exact j_tableIn (off := 241) C 242 dX6_isVoid_1 (by rw [hx]; decide) (by rw [hx]; decide) (by rw [hx]; rfl) (by decide) hD
                | 8, _, hx => exact j_tableIn (off := 241) C 242 dX6_isVoid_1 (by rw [hx]; decide) (by rw [hx]; decide) (by rw [hx]; rfl) (by decide) hD
                | 9, _, hx => exact j_tableIn (off := 241) C 242 dX6_isVoid_1 (by rw [hx]; decide) (by rw [hx]; decide) (by rw [hx]; rfl) (by decide) hD
                | 10, _, hx => exact j_tableIn (off := 241) C 242 dX6_isVoid_1 (by rw [hx]; decide) (by rw [hx]; decide) (by rw [hx]; rfl) (by decide) hD
                | 11, _, hx => exact j_tableIn (off := 241) C 242 dX6_isVoid_1 (by rw [hx]; decide) (by rw [hx]; decide) (by rw [hx]; rfl) (by decide) hD
                | 12, _, hx => exact j_tableIn (off := 241) C 242 dX6_isVoid_1 (by rw [hx]; decide) (by rw [hx]; decide) (by rw [hx]; rfl) (by decide) hD
                | 13, _, hx => exact j_tableIn (off := 241) C 242 dX6_isVoid_1 (by rw [hx]; decide) (by rw [hx]; decide) (by rw [hx]; rfl) (by decide) hD
                | 14, _, hx => exact j_tableIn (off := 241) C 242 dX6_isVoid_1 (by rw [hx]; decide) (by rw [hx]; decide) (by rw [hx]; rfl) (by decide) hD
                | 15, _, hx => exact j_tableIn (off := 241) C 242 dX6_isVoid_1 (by rw [hx]; decide) (by rw [hx]; decide) (by rw [hx]; rfl) (by decide) hD
                | 16, _, hx => exact j_tableIn (off := 241) C 242 dX6_isVoid_1 (by rw [hx]; decide) (by rw [hx]; decide) (by rw [hx]; rfl) (by decide) hD
                | 17, _, hx => exact absurd (Int32.toInt_inj.mp (hx.trans (by decide))) c1_5
                | k + 18, hk, _ => exact absurd hk (Nat.not_lt.mpr (Nat.le_add_left _ _))

def gX6_ofTwo (x0 : Int32) (x1 : UInt64) (x2 : UInt64) (x3 : Int32) : Option UInt64 := if x0 = (9 : Int32) then ((gX6_sum x1 x2 x3).bind (fun r13 => some r13)) else (if x0 = (10 : Int32) then ((gX6_sum x1 (FP.dneg x2) x3).bind (fun r12 => some r12)) else (if x0 = (11 : Int32) then ((gX6_product x1 x2 x3).bind (fun r11 => some r11)) else (if x0 = (12 : Int32) then ((gX6_quotient x1 x2 x3).bind (fun r10 => some r10)) else (if x0 = (13 : Int32) then ((gX6_remainder x1 x2).bind (fun r9 => some r9)) else (if x0 = (14 : Int32) then ((gX6_lesser x1 x2).bind (fun r8 => some r8)) else (if x0 = (15 : Int32) then ((gX6_greater x1 x2).bind (fun r7 => some r7)) else (if x0 = (16 : Int32) then ((gX6_hasMinus x2).bind (fun r5 => (gX6_withSign x1 r5).bind (fun r6 => some r6))) else ((gX6_quotient x1 x2 x3).bind (fun r2 => (gX6_nearest r2).bind (fun r3 => (gX6_product r3 x2 x3).bind (fun r4 => some r4)))))))))))
theorem hd_X6_ofTwo : yX6_ofTwo.cls ≠ "java/lang/invoke/MethodHandle" ∧ yX6_ofTwo.cls ≠ "java/lang/invoke/VarHandle" ∧ (parseMethodDescriptor yX6_ofTwo.desc).map (fun d => d.parameters.length) = some 4 := by decide +kernel
set_option maxHeartbeats 4000000 in
set_option maxRecDepth 100000 in
theorem tX6_ofTwo {G : GG} {l : Launch} {z N : Nat} {ct : Nat → va_E} (x0 : Int32) (x1 : UInt64) (x2 : UInt64) (x3 : Int32) {r : UInt64} (hg : gX6_ofTwo x0 x1 x2 x3 = some r) : Ct G l yX6_ofTwo cX6_ofTwo 6 (some .double) ({ frames := 2, cells := 0, slots := 0, locals := 71 } : Room) [.int x0, .double x1, .double x2, .int x3] z ct N (some (.double r)) ct N := by
  refine Ct.of (lv := [(0, .int x0), (1, .double x1), (3, .double x2), (5, .int x3)]) (by decide +kernel) (Nat.le_of_ble_eq_true rfl) rfl (fun p e s m args below meth c C => ?_)
  rw [gX6_ofTwo] at hg
  refine j_iload_n C dX6_ofTwo_0 0 rfl rfl ?_
  by_cases c1_0 : x0 = (9 : Int32)
  · replace hg := (if_pos c1_0).symm.trans hg
    refine j_tableIn (off := 47) C 48 dX6_ofTwo_1 (by rw [c1_0]; decide) (by rw [c1_0]; decide) (by rw [c1_0]; rfl) (by decide) ?_
    refine j_dload_n C dX6_ofTwo_48 1 rfl rfl ?_
    refine j_dload_n C dX6_ofTwo_49 2 rfl rfl ?_
    refine j_iload C dX6_ofTwo_50 3 rfl ?_
    obtain ⟨r13, hr13, hg⟩ := ob hg
    refine j_callS C [.double x1, .double x2, .int x3] (tX6_sum x1 x2 x3 hr13) q2_148 q1_10 q2_147 q2_146 hd_X6_sum rfl dX6_ofTwo_52 rfl (Nat.le_of_ble_eq_true rfl) ⟨(Nat.le_of_ble_eq_true rfl), (Nat.le_of_ble_eq_true rfl)⟩ ⟨(Nat.le_of_ble_eq_true rfl), (Nat.le_of_ble_eq_true rfl)⟩ ?_
    exact j_dret C dX6_ofTwo_55 (by rw [← Option.some.inj hg]) rfl rfl
  · replace hg := (if_neg c1_0).symm.trans hg
    by_cases c1_1 : x0 = (10 : Int32)
    · replace hg := (if_pos c1_1).symm.trans hg
      refine j_tableIn (off := 55) C 56 dX6_ofTwo_1 (by rw [c1_1]; decide) (by rw [c1_1]; decide) (by rw [c1_1]; rfl) (by decide) ?_
      refine j_dload_n C dX6_ofTwo_56 1 rfl rfl ?_
      refine j_dload_n C dX6_ofTwo_57 2 rfl rfl ?_
      refine j_dneg C dX6_ofTwo_58 ?_
      refine j_iload C dX6_ofTwo_59 3 rfl ?_
      obtain ⟨r12, hr12, hg⟩ := ob hg
      refine j_callS C [.double x1, .double (FP.dneg x2), .int x3] (tX6_sum x1 (FP.dneg x2) x3 hr12) q2_148 q1_10 q2_147 q2_146 hd_X6_sum rfl dX6_ofTwo_61 rfl (Nat.le_of_ble_eq_true rfl) ⟨(Nat.le_of_ble_eq_true rfl), (Nat.le_of_ble_eq_true rfl)⟩ ⟨(Nat.le_of_ble_eq_true rfl), (Nat.le_of_ble_eq_true rfl)⟩ ?_
      exact j_dret C dX6_ofTwo_64 (by rw [← Option.some.inj hg]) rfl rfl
    · replace hg := (if_neg c1_1).symm.trans hg
      by_cases c1_2 : x0 = (11 : Int32)
      · replace hg := (if_pos c1_2).symm.trans hg
        refine j_tableIn (off := 64) C 65 dX6_ofTwo_1 (by rw [c1_2]; decide) (by rw [c1_2]; decide) (by rw [c1_2]; rfl) (by decide) ?_
        refine j_dload_n C dX6_ofTwo_65 1 rfl rfl ?_
        refine j_dload_n C dX6_ofTwo_66 2 rfl rfl ?_
        refine j_iload C dX6_ofTwo_67 3 rfl ?_
        obtain ⟨r11, hr11, hg⟩ := ob hg
        refine j_callS C [.double x1, .double x2, .int x3] (tX6_product x1 x2 x3 hr11) q2_130 q1_10 q2_129 q2_128 hd_X6_product rfl dX6_ofTwo_69 rfl (Nat.le_of_ble_eq_true rfl) ⟨(Nat.le_of_ble_eq_true rfl), (Nat.le_of_ble_eq_true rfl)⟩ ⟨(Nat.le_of_ble_eq_true rfl), (Nat.le_of_ble_eq_true rfl)⟩ ?_
        exact j_dret C dX6_ofTwo_72 (by rw [← Option.some.inj hg]) rfl rfl
      · replace hg := (if_neg c1_2).symm.trans hg
        by_cases c1_3 : x0 = (12 : Int32)
        · replace hg := (if_pos c1_3).symm.trans hg
          refine j_tableIn (off := 72) C 73 dX6_ofTwo_1 (by rw [c1_3]; decide) (by rw [c1_3]; decide) (by rw [c1_3]; rfl) (by decide) ?_
          refine j_dload_n C dX6_ofTwo_73 1 rfl rfl ?_
          refine j_dload_n C dX6_ofTwo_74 2 rfl rfl ?_
          refine j_iload C dX6_ofTwo_75 3 rfl ?_
          obtain ⟨r10, hr10, hg⟩ := ob hg
          refine j_callS C [.double x1, .double x2, .int x3] (tX6_quotient x1 x2 x3 hr10) q2_127 q1_10 q2_126 q2_125 hd_X6_quotient rfl dX6_ofTwo_77 rfl (Nat.le_of_ble_eq_true rfl) ⟨(Nat.le_of_ble_eq_true rfl), (Nat.le_of_ble_eq_true rfl)⟩ ⟨(Nat.le_of_ble_eq_true rfl), (Nat.le_of_ble_eq_true rfl)⟩ ?_
          exact j_dret C dX6_ofTwo_80 (by rw [← Option.some.inj hg]) rfl rfl
        · replace hg := (if_neg c1_3).symm.trans hg
          by_cases c1_4 : x0 = (13 : Int32)
          · replace hg := (if_pos c1_4).symm.trans hg
            refine j_tableIn (off := 80) C 81 dX6_ofTwo_1 (by rw [c1_4]; decide) (by rw [c1_4]; decide) (by rw [c1_4]; rfl) (by decide) ?_
            refine j_dload_n C dX6_ofTwo_81 1 rfl rfl ?_
            refine j_dload_n C dX6_ofTwo_82 2 rfl rfl ?_
            obtain ⟨r9, hr9, hg⟩ := ob hg
            refine j_callS C [.double x1, .double x2] (tX6_remainder x1 x2 hr9) q2_151 q1_10 q2_150 q2_149 hd_X6_remainder rfl dX6_ofTwo_83 rfl (Nat.le_of_ble_eq_true rfl) ⟨(Nat.le_of_ble_eq_true rfl), (Nat.le_of_ble_eq_true rfl)⟩ ⟨(Nat.le_of_ble_eq_true rfl), (Nat.le_of_ble_eq_true rfl)⟩ ?_
            exact j_dret C dX6_ofTwo_86 (by rw [← Option.some.inj hg]) rfl rfl
          · replace hg := (if_neg c1_4).symm.trans hg
            by_cases c1_5 : x0 = (14 : Int32)
            · replace hg := (if_pos c1_5).symm.trans hg
              refine j_tableIn (off := 86) C 87 dX6_ofTwo_1 (by rw [c1_5]; decide) (by rw [c1_5]; decide) (by rw [c1_5]; rfl) (by decide) ?_
              refine j_dload_n C dX6_ofTwo_87 1 rfl rfl ?_
              refine j_dload_n C dX6_ofTwo_88 2 rfl rfl ?_
              obtain ⟨r8, hr8, hg⟩ := ob hg
              refine j_callS C [.double x1, .double x2] (tX6_lesser x1 x2 hr8) q2_175 q1_10 q2_174 q2_173 hd_X6_lesser rfl dX6_ofTwo_89 rfl (Nat.le_of_ble_eq_true rfl) ⟨(Nat.le_of_ble_eq_true rfl), (Nat.le_of_ble_eq_true rfl)⟩ ⟨(Nat.le_of_ble_eq_true rfl), (Nat.le_of_ble_eq_true rfl)⟩ ?_
              exact j_dret C dX6_ofTwo_92 (by rw [← Option.some.inj hg]) rfl rfl
            · replace hg := (if_neg c1_5).symm.trans hg
              by_cases c1_6 : x0 = (15 : Int32)
              · replace hg := (if_pos c1_6).symm.trans hg
                refine j_tableIn (off := 92) C 93 dX6_ofTwo_1 (by rw [c1_6]; decide) (by rw [c1_6]; decide) (by rw [c1_6]; rfl) (by decide) ?_
                refine j_dload_n C dX6_ofTwo_93 1 rfl rfl ?_
                refine j_dload_n C dX6_ofTwo_94 2 rfl rfl ?_
                obtain ⟨r7, hr7, hg⟩ := ob hg
                refine j_callS C [.double x1, .double x2] (tX6_greater x1 x2 hr7) q2_181 q1_10 q2_180 q2_179 hd_X6_greater rfl dX6_ofTwo_95 rfl (Nat.le_of_ble_eq_true rfl) ⟨(Nat.le_of_ble_eq_true rfl), (Nat.le_of_ble_eq_true rfl)⟩ ⟨(Nat.le_of_ble_eq_true rfl), (Nat.le_of_ble_eq_true rfl)⟩ ?_
                exact j_dret C dX6_ofTwo_98 (by rw [← Option.some.inj hg]) rfl rfl
              · replace hg := (if_neg c1_6).symm.trans hg
                by_cases c1_7 : x0 = (16 : Int32)
                · replace hg := (if_pos c1_7).symm.trans hg
                  refine j_tableIn (off := 98) C 99 dX6_ofTwo_1 (by rw [c1_7]; decide) (by rw [c1_7]; decide) (by rw [c1_7]; rfl) (by decide) ?_
                  refine j_dload_n C dX6_ofTwo_99 1 rfl rfl ?_
                  refine j_dload_n C dX6_ofTwo_100 2 rfl rfl ?_
                  obtain ⟨r5, hr5, hg⟩ := ob hg
                  refine j_callS C [.double x2] (tX6_hasMinus x2 hr5) q2_109 q1_10 q2_108 q2_107 hd_X6_hasMinus rfl dX6_ofTwo_101 rfl (Nat.le_of_ble_eq_true rfl) ⟨(Nat.le_of_ble_eq_true rfl), (Nat.le_of_ble_eq_true rfl)⟩ ⟨(Nat.le_of_ble_eq_true rfl), (Nat.le_of_ble_eq_true rfl)⟩ ?_
                  obtain ⟨r6, hr6, hg⟩ := ob hg
                  refine j_callS C [.double x1, .int r5] (tX6_withSign x1 r5 hr6) q2_106 q1_10 q2_105 q2_104 hd_X6_withSign rfl dX6_ofTwo_104 rfl (Nat.le_of_ble_eq_true rfl) ⟨(Nat.le_of_ble_eq_true rfl), (Nat.le_of_ble_eq_true rfl)⟩ ⟨(Nat.le_of_ble_eq_true rfl), (Nat.le_of_ble_eq_true rfl)⟩ ?_
                  exact j_dret C dX6_ofTwo_107 (by rw [← Option.some.inj hg]) rfl rfl
                · replace hg := (if_neg c1_7).symm.trans hg
                  have ho : x0.toInt < 9 ∨ 16 < x0.toInt := by
                    by_cases ho : x0.toInt < 9 ∨ 16 < x0.toInt
                    · exact ho
                    · obtain ⟨k, hk, hx⟩ := sw_in ho
                      match k, hk, hx with
                      | 0, _, hx => exact absurd (Int32.toInt_inj.mp (hx.trans (by decide))) c1_0
                      | 1, _, hx => exact absurd (Int32.toInt_inj.mp (hx.trans (by decide))) c1_1
                      | 2, _, hx => exact absurd (Int32.toInt_inj.mp (hx.trans (by decide))) c1_2
                      | 3, _, hx => exact absurd (Int32.toInt_inj.mp (hx.trans (by decide))) c1_3
                      | 4, _, hx => exact absurd (Int32.toInt_inj.mp (hx.trans (by decide))) c1_4
                      | 5, _, hx => exact absurd (Int32.toInt_inj.mp (hx.trans (by decide))) c1_5
                      | 6, _, hx => exact absurd (Int32.toInt_inj.mp (hx.trans (by decide))) c1_6
                      | 7, _, hx => exact absurd (Int32.toInt_inj.mp (hx.trans (by decide))) c1_7
                      | k + 8, hk, _ => exact absurd hk (Nat.not_lt.mpr (Nat.le_add_left _ _))
                  refine j_tableOut C 108 dX6_ofTwo_1 ho (by decide) ?_
                  refine j_dload_n C dX6_ofTwo_108 1 rfl rfl ?_
                  refine j_dload_n C dX6_ofTwo_109 2 rfl rfl ?_
                  refine j_iload C dX6_ofTwo_110 3 rfl ?_
                  obtain ⟨r2, hr2, hg⟩ := ob hg
                  refine j_callS C [.double x1, .double x2, .int x3] (tX6_quotient x1 x2 x3 hr2) q2_127 q1_10 q2_126 q2_125 hd_X6_quotient rfl dX6_ofTwo_112 rfl (Nat.le_of_ble_eq_true rfl) ⟨(Nat.le_of_ble_eq_true rfl), (Nat.le_of_ble_eq_true rfl)⟩ ⟨(Nat.le_of_ble_eq_true rfl), (Nat.le_of_ble_eq_true rfl)⟩ ?_
                  obtain ⟨r3, hr3, hg⟩ := ob hg
                  refine j_callS C [.double r2] (tX6_nearest r2 hr3) q2_123 q1_10 q2_122 q2_121 hd_X6_nearest rfl dX6_ofTwo_115 rfl (Nat.le_of_ble_eq_true rfl) ⟨(Nat.le_of_ble_eq_true rfl), (Nat.le_of_ble_eq_true rfl)⟩ ⟨(Nat.le_of_ble_eq_true rfl), (Nat.le_of_ble_eq_true rfl)⟩ ?_
                  refine j_dload_n C dX6_ofTwo_118 2 rfl rfl ?_
                  refine j_iload C dX6_ofTwo_119 3 rfl ?_
                  obtain ⟨r4, hr4, hg⟩ := ob hg
                  refine j_callS C [.double r3, .double x2, .int x3] (tX6_product r3 x2 x3 hr4) q2_130 q1_10 q2_129 q2_128 hd_X6_product rfl dX6_ofTwo_121 rfl (Nat.le_of_ble_eq_true rfl) ⟨(Nat.le_of_ble_eq_true rfl), (Nat.le_of_ble_eq_true rfl)⟩ ⟨(Nat.le_of_ble_eq_true rfl), (Nat.le_of_ble_eq_true rfl)⟩ ?_
                  exact j_dret C dX6_ofTwo_124 (by rw [← Option.some.inj hg]) rfl rfl

def gX1_ofInfinite (x0 : Int32) : Option Int64 := if x0 = 0 then (some (9218868437227405312 : Int64)) else (some (2139095040 : Int64))
theorem hd_X1_ofInfinite : yX1_ofInfinite.cls ≠ "java/lang/invoke/MethodHandle" ∧ yX1_ofInfinite.cls ≠ "java/lang/invoke/VarHandle" ∧ (parseMethodDescriptor yX1_ofInfinite.desc).map (fun d => d.parameters.length) = some 1 := by decide +kernel
set_option maxHeartbeats 4000000 in
set_option maxRecDepth 100000 in
theorem tX1_ofInfinite {G : GG} {l : Launch} {z N : Nat} {ct : Nat → va_E} (x0 : Int32) {r : Int64} (hg : gX1_ofInfinite x0 = some r) : Ct G l yX1_ofInfinite cX1_ofInfinite 1 (some .long) ({ frames := 0, cells := 0, slots := 0, locals := 0 } : Room) [.int x0] z ct N (some (.long r)) ct N := by
  refine Ct.of (lv := [(0, .int x0)]) (by decide +kernel) (Nat.le_of_ble_eq_true rfl) rfl (fun p e s m args below meth c C => ?_)
  rw [gX1_ofInfinite] at hg
  refine j_iload_n C dX1_ofInfinite_0 0 rfl rfl ?_
  refine j_if_eq C 10 hg dX1_ofInfinite_1 (by decide) (fun hg => ?_) (fun hg => ?_)
  · refine j_ldc2 C q3_58 dX1_ofInfinite_10 ?_
    exact j_lret C dX1_ofInfinite_13 (by rw [← Option.some.inj hg]) rfl rfl
  · refine j_ldc2 C q3_57 dX1_ofInfinite_4 ?_
    refine j_goto C 13 dX1_ofInfinite_7 (by decide) ?_
    exact j_lret C dX1_ofInfinite_13 (by rw [← Option.some.inj hg]) rfl rfl

def gX1_of_37 (x0 : UInt64) (x1 : Int32) (v3 : Int64) (s0 : Int64) : Option Int64 := (gX6_hasMinus x0).bind (fun r5 => if r5 = 0 then (some s0) else (some (s0 ||| v3)))
def gX1_of_13 (x0 : UInt64) (x1 : Int32) (s0 : Int64) : Option Int64 := (gX6_isInfinite x0).bind (fun r1 => if r1 = 0 then ((gX6_withSign x0 (0 : Int32)).bind (fun r2 => (gX1_behindSign r2 x1).bind (fun r3 => gX1_of_37 x0 x1 s0 r3))) else ((gX1_ofInfinite x1).bind (fun r4 => gX1_of_37 x0 x1 s0 r4)))
def gX1_of (x0 : UInt64) (x1 : Int32) : Option Int64 := if x1 = 0 then (gX1_of_13 x0 x1 (-9223372036854775808 : Int64)) else (gX1_of_13 x0 x1 (-2147483648 : Int64))
theorem hd_X1_of : yX1_of.cls ≠ "java/lang/invoke/MethodHandle" ∧ yX1_of.cls ≠ "java/lang/invoke/VarHandle" ∧ (parseMethodDescriptor yX1_of.desc).map (fun d => d.parameters.length) = some 2 := by decide +kernel
set_option maxHeartbeats 4000000 in
set_option maxRecDepth 100000 in
theorem tX1_of {G : GG} {l : Launch} {z N : Nat} {ct : Nat → va_E} (x0 : UInt64) (x1 : Int32) {r : Int64} (hg : gX1_of x0 x1 = some r) : Ct G l yX1_of cX1_of 7 (some .long) ({ frames := 2, cells := 0, slots := 0, locals := 43 } : Room) [.double x0, .int x1] z ct N (some (.long r)) ct N := by
  refine Ct.of (lv := [(0, .double x0), (2, .int x1)]) (by decide +kernel) (Nat.le_of_ble_eq_true rfl) rfl (fun p e s m args below meth c C => ?_)
  have L_37 : ∀ (v3 : Int64) (s0 : Int64), gX1_of_37 x0 x1 v3 s0 = some r → J G p l e ({ frames := 2, cells := 0, slots := 0, locals := 43 } : Room) s m args below meth c z 7 (MQ below (Qd G z (some (.long r)) ct N) args s 0 0 (zA z)) ct N 0 0 37 [(0, .double x0), (3, .long v3)] [.long s0] := by
    intro v3 s0 hg
    rw [gX1_of_37] at hg
    refine j_lstore C [(5, .long s0), (0, .double x0), (3, .long v3)] dX1_of_37 (by decide) rfl ?_
    refine j_dload_n C dX1_of_39 1 rfl rfl ?_
    obtain ⟨r5, hr5, hg⟩ := ob hg
    refine j_callS C [.double x0] (tX6_hasMinus x0 hr5) q2_109 q1_10 q2_108 q3_61 hd_X6_hasMinus rfl dX1_of_40 rfl (Nat.le_of_ble_eq_true rfl) ⟨(Nat.le_of_ble_eq_true rfl), (Nat.le_of_ble_eq_true rfl)⟩ ⟨(Nat.le_of_ble_eq_true rfl), (Nat.le_of_ble_eq_true rfl)⟩ ?_
    refine j_if_eq C 53 hg dX1_of_43 (by decide) (fun hg => ?_) (fun hg => ?_)
    · refine j_lload C dX1_of_53 0 rfl ?_
      exact j_lret C dX1_of_55 (by rw [← Option.some.inj hg]) rfl rfl
    · refine j_lload C dX1_of_46 0 rfl ?_
      refine j_lload_n C dX1_of_48 2 rfl rfl ?_
      refine j_lor C dX1_of_49 ?_
      refine j_goto C 55 dX1_of_50 (by decide) ?_
      exact j_lret C dX1_of_55 (by rw [← Option.some.inj hg]) rfl rfl
  have L_13 : ∀ (s0 : Int64), gX1_of_13 x0 x1 s0 = some r → J G p l e ({ frames := 2, cells := 0, slots := 0, locals := 43 } : Room) s m args below meth c z 7 (MQ below (Qd G z (some (.long r)) ct N) args s 0 0 (zA z)) ct N 0 0 13 [(0, .double x0), (2, .int x1)] [.long s0] := by
    intro s0 hg
    rw [gX1_of_13] at hg
    refine j_lstore_n C [(3, .long s0), (0, .double x0), (2, .int x1)] dX1_of_13 rfl (by decide) rfl ?_
    refine j_dload_n C dX1_of_14 1 rfl rfl ?_
    obtain ⟨r1, hr1, hg⟩ := ob hg
    refine j_callS C [.double x0] (tX6_isInfinite x0 hr1) q2_141 q1_10 q2_140 q3_53 hd_X6_isInfinite rfl dX1_of_15 rfl (Nat.le_of_ble_eq_true rfl) ⟨(Nat.le_of_ble_eq_true rfl), (Nat.le_of_ble_eq_true rfl)⟩ ⟨(Nat.le_of_ble_eq_true rfl), (Nat.le_of_ble_eq_true rfl)⟩ ?_
    refine j_if_eq C 28 hg dX1_of_18 (by decide) (fun hg => ?_) (fun hg => ?_)
    · refine j_dload_n C dX1_of_28 1 rfl rfl ?_
      refine j_iconst (v := 0) C dX1_of_29 (by decide) ?_
      obtain ⟨r2, hr2, hg⟩ := ob hg
      refine j_callS C [.double x0, .int (0 : Int32)] (tX6_withSign x0 (0 : Int32) hr2) q2_106 q1_10 q2_105 q3_59 hd_X6_withSign rfl dX1_of_30 rfl (Nat.le_of_ble_eq_true rfl) ⟨(Nat.le_of_ble_eq_true rfl), (Nat.le_of_ble_eq_true rfl)⟩ ⟨(Nat.le_of_ble_eq_true rfl), (Nat.le_of_ble_eq_true rfl)⟩ ?_
      refine j_iload_n C dX1_of_33 2 rfl rfl ?_
      obtain ⟨r3, hr3, hg⟩ := ob hg
      refine j_callS C [.double r2, .int x1] (tX1_behindSign r2 x1 hr3) q2_154 q1_12 q2_153 q3_60 hd_X1_behindSign rfl dX1_of_34 rfl (Nat.le_of_ble_eq_true rfl) ⟨(Nat.le_of_ble_eq_true rfl), (Nat.le_of_ble_eq_true rfl)⟩ ⟨(Nat.le_of_ble_eq_true rfl), (Nat.le_of_ble_eq_true rfl)⟩ ?_
      exact j_re [1, 0] rfl (L_37 s0 r3 hg)
    · refine j_iload_n C dX1_of_21 2 rfl rfl ?_
      obtain ⟨r4, hr4, hg⟩ := ob hg
      refine j_callS C [.int x1] (tX1_ofInfinite x1 hr4) q3_56 q1_12 q3_55 q3_54 hd_X1_ofInfinite rfl dX1_of_22 rfl (Nat.le_of_ble_eq_true rfl) ⟨(Nat.le_of_ble_eq_true rfl), (Nat.le_of_ble_eq_true rfl)⟩ ⟨(Nat.le_of_ble_eq_true rfl), (Nat.le_of_ble_eq_true rfl)⟩ ?_
      refine j_goto C 37 dX1_of_25 (by decide) ?_
      exact j_re [1, 0] rfl (L_37 s0 r4 hg)
  rw [gX1_of] at hg
  refine j_iload_n C dX1_of_0 1 rfl rfl ?_
  refine j_if_eq C 10 hg dX1_of_1 (by decide) (fun hg => ?_) (fun hg => ?_)
  · refine j_ldc2 C q3_52 dX1_of_10 ?_
    exact L_13 (-9223372036854775808 : Int64) hg
  · refine j_ldc2 C q3_51 dX1_of_4 ?_
    refine j_goto C 13 dX1_of_7 (by decide) ?_
    exact L_13 (-2147483648 : Int64) hg

def gX5_isSoOf (x0 : Int32) (x1 : UInt64) (x2 : UInt64) : Option Int32 := if x0 = (0 : Int32) then (if 0 ≤ (Op.cmpValue (FP.dcmp x1 x2) CmpOp.g) then (some (0 : Int32)) else (some (1 : Int32))) else (if x0 = (1 : Int32) then (if 0 < (Op.cmpValue (FP.dcmp x1 x2) CmpOp.g) then (some (0 : Int32)) else (some (1 : Int32))) else (if x0 = (2 : Int32) then (if (Op.cmpValue (FP.dcmp x1 x2) CmpOp.l) ≤ 0 then (some (0 : Int32)) else (some (1 : Int32))) else (if x0 = (3 : Int32) then (if (Op.cmpValue (FP.dcmp x1 x2) CmpOp.l) < 0 then (some (0 : Int32)) else (some (1 : Int32))) else (if x0 = (4 : Int32) then (if (Op.cmpValue (FP.dcmp x1 x2) CmpOp.l) = 0 then (some (1 : Int32)) else (some (0 : Int32))) else (if (Op.cmpValue (FP.dcmp x1 x2) CmpOp.l) = 0 then (some (0 : Int32)) else (some (1 : Int32)))))))
theorem hd_X5_isSoOf : yX5_isSoOf.cls ≠ "java/lang/invoke/MethodHandle" ∧ yX5_isSoOf.cls ≠ "java/lang/invoke/VarHandle" ∧ (parseMethodDescriptor yX5_isSoOf.desc).map (fun d => d.parameters.length) = some 3 := by decide +kernel
set_option maxHeartbeats 4000000 in
set_option maxRecDepth 100000 in
theorem tX5_isSoOf {G : GG} {l : Launch} {z N : Nat} {ct : Nat → va_E} (x0 : Int32) (x1 : UInt64) (x2 : UInt64) {r : Int32} (hg : gX5_isSoOf x0 x1 x2 = some r) : Ct G l yX5_isSoOf cX5_isSoOf 5 (some .boolean) ({ frames := 0, cells := 0, slots := 0, locals := 0 } : Room) [.int x0, .double x1, .double x2] z ct N (some (.int r)) ct N := by
  refine Ct.of (lv := [(0, .int x0), (1, .double x1), (3, .double x2)]) (by decide +kernel) (Nat.le_of_ble_eq_true rfl) rfl (fun p e s m args below meth c C => ?_)
  rw [gX5_isSoOf] at hg
  refine j_iload_n C dX5_isSoOf_0 0 rfl rfl ?_
  by_cases c1_0 : x0 = (0 : Int32)
  · replace hg := (if_pos c1_0).symm.trans hg
    refine j_tableIn (off := 35) C 36 dX5_isSoOf_1 (by rw [c1_0]; decide) (by rw [c1_0]; decide) (by rw [c1_0]; rfl) (by decide) ?_
    refine j_dload_n C dX5_isSoOf_36 1 rfl rfl ?_
    refine j_dload_n C dX5_isSoOf_37 2 rfl rfl ?_
    refine j_dcmp C dX5_isSoOf_38 ?_
    refine j_if_ge C 46 hg dX5_isSoOf_39 (by decide) (fun hg => ?_) (fun hg => ?_)
    · refine j_iconst (v := 0) C dX5_isSoOf_46 (by decide) ?_
      exact j_zret C dX5_isSoOf_47 (by decide) (by rw [← Option.some.inj hg]) rfl rfl
    · refine j_iconst (v := 1) C dX5_isSoOf_42 (by decide) ?_
      refine j_goto C 47 dX5_isSoOf_43 (by decide) ?_
      exact j_zret C dX5_isSoOf_47 (by decide) (by rw [← Option.some.inj hg]) rfl rfl
  · replace hg := (if_neg c1_0).symm.trans hg
    by_cases c1_1 : x0 = (1 : Int32)
    · replace hg := (if_pos c1_1).symm.trans hg
      refine j_tableIn (off := 47) C 48 dX5_isSoOf_1 (by rw [c1_1]; decide) (by rw [c1_1]; decide) (by rw [c1_1]; rfl) (by decide) ?_
      refine j_dload_n C dX5_isSoOf_48 1 rfl rfl ?_
      refine j_dload_n C dX5_isSoOf_49 2 rfl rfl ?_
      refine j_dcmp C dX5_isSoOf_50 ?_
      refine j_if_gt C 58 hg dX5_isSoOf_51 (by decide) (fun hg => ?_) (fun hg => ?_)
      · refine j_iconst (v := 0) C dX5_isSoOf_58 (by decide) ?_
        exact j_zret C dX5_isSoOf_59 (by decide) (by rw [← Option.some.inj hg]) rfl rfl
      · refine j_iconst (v := 1) C dX5_isSoOf_54 (by decide) ?_
        refine j_goto C 59 dX5_isSoOf_55 (by decide) ?_
        exact j_zret C dX5_isSoOf_59 (by decide) (by rw [← Option.some.inj hg]) rfl rfl
    · replace hg := (if_neg c1_1).symm.trans hg
      by_cases c1_2 : x0 = (2 : Int32)
      · replace hg := (if_pos c1_2).symm.trans hg
        refine j_tableIn (off := 59) C 60 dX5_isSoOf_1 (by rw [c1_2]; decide) (by rw [c1_2]; decide) (by rw [c1_2]; rfl) (by decide) ?_
        refine j_dload_n C dX5_isSoOf_60 1 rfl rfl ?_
        refine j_dload_n C dX5_isSoOf_61 2 rfl rfl ?_
        refine j_dcmp C dX5_isSoOf_62 ?_
        refine j_if_le C 70 hg dX5_isSoOf_63 (by decide) (fun hg => ?_) (fun hg => ?_)
        · refine j_iconst (v := 0) C dX5_isSoOf_70 (by decide) ?_
          exact j_zret C dX5_isSoOf_71 (by decide) (by rw [← Option.some.inj hg]) rfl rfl
        · refine j_iconst (v := 1) C dX5_isSoOf_66 (by decide) ?_
          refine j_goto C 71 dX5_isSoOf_67 (by decide) ?_
          exact j_zret C dX5_isSoOf_71 (by decide) (by rw [← Option.some.inj hg]) rfl rfl
      · replace hg := (if_neg c1_2).symm.trans hg
        by_cases c1_3 : x0 = (3 : Int32)
        · replace hg := (if_pos c1_3).symm.trans hg
          refine j_tableIn (off := 71) C 72 dX5_isSoOf_1 (by rw [c1_3]; decide) (by rw [c1_3]; decide) (by rw [c1_3]; rfl) (by decide) ?_
          refine j_dload_n C dX5_isSoOf_72 1 rfl rfl ?_
          refine j_dload_n C dX5_isSoOf_73 2 rfl rfl ?_
          refine j_dcmp C dX5_isSoOf_74 ?_
          refine j_if_lt C 82 hg dX5_isSoOf_75 (by decide) (fun hg => ?_) (fun hg => ?_)
          · refine j_iconst (v := 0) C dX5_isSoOf_82 (by decide) ?_
            exact j_zret C dX5_isSoOf_83 (by decide) (by rw [← Option.some.inj hg]) rfl rfl
          · refine j_iconst (v := 1) C dX5_isSoOf_78 (by decide) ?_
            refine j_goto C 83 dX5_isSoOf_79 (by decide) ?_
            exact j_zret C dX5_isSoOf_83 (by decide) (by rw [← Option.some.inj hg]) rfl rfl
        · replace hg := (if_neg c1_3).symm.trans hg
          by_cases c1_4 : x0 = (4 : Int32)
          · replace hg := (if_pos c1_4).symm.trans hg
            refine j_tableIn (off := 83) C 84 dX5_isSoOf_1 (by rw [c1_4]; decide) (by rw [c1_4]; decide) (by rw [c1_4]; rfl) (by decide) ?_
            refine j_dload_n C dX5_isSoOf_84 1 rfl rfl ?_
            refine j_dload_n C dX5_isSoOf_85 2 rfl rfl ?_
            refine j_dcmp C dX5_isSoOf_86 ?_
            refine j_if_ne C 94 hg dX5_isSoOf_87 (by decide) (fun hg => ?_) (fun hg => ?_)
            · refine j_iconst (v := 0) C dX5_isSoOf_94 (by decide) ?_
              exact j_zret C dX5_isSoOf_95 (by decide) (by rw [← Option.some.inj hg]) rfl rfl
            · refine j_iconst (v := 1) C dX5_isSoOf_90 (by decide) ?_
              refine j_goto C 95 dX5_isSoOf_91 (by decide) ?_
              exact j_zret C dX5_isSoOf_95 (by decide) (by rw [← Option.some.inj hg]) rfl rfl
          · replace hg := (if_neg c1_4).symm.trans hg
            have ho : x0.toInt < 0 ∨ 4 < x0.toInt := by
              by_cases ho : x0.toInt < 0 ∨ 4 < x0.toInt
              · exact ho
              · obtain ⟨k, hk, hx⟩ := sw_in ho
                match k, hk, hx with
                | 0, _, hx => exact absurd (Int32.toInt_inj.mp (hx.trans (by decide))) c1_0
                | 1, _, hx => exact absurd (Int32.toInt_inj.mp (hx.trans (by decide))) c1_1
                | 2, _, hx => exact absurd (Int32.toInt_inj.mp (hx.trans (by decide))) c1_2
                | 3, _, hx => exact absurd (Int32.toInt_inj.mp (hx.trans (by decide))) c1_3
                | 4, _, hx => exact absurd (Int32.toInt_inj.mp (hx.trans (by decide))) c1_4
                | k + 5, hk, _ => exact absurd hk (Nat.not_lt.mpr (Nat.le_add_left _ _))
            refine j_tableOut C 96 dX5_isSoOf_1 ho (by decide) ?_
            refine j_dload_n C dX5_isSoOf_96 1 rfl rfl ?_
            refine j_dload_n C dX5_isSoOf_97 2 rfl rfl ?_
            refine j_dcmp C dX5_isSoOf_98 ?_
            refine j_if_eq C 106 hg dX5_isSoOf_99 (by decide) (fun hg => ?_) (fun hg => ?_)
            · refine j_iconst (v := 0) C dX5_isSoOf_106 (by decide) ?_
              exact j_zret C dX5_isSoOf_107 (by decide) (by rw [← Option.some.inj hg]) rfl rfl
            · refine j_iconst (v := 1) C dX5_isSoOf_102 (by decide) ?_
              refine j_goto C 107 dX5_isSoOf_103 (by decide) ?_
              exact j_zret C dX5_isSoOf_107 (by decide) (by rw [← Option.some.inj hg]) rfl rfl
