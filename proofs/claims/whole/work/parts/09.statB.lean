def gX10_isColumn (x0 : Int32) : Option Int32 := if x0 < 0 then (some (0 : Int32)) else (if (12 : Int32) ≤ x0 then (some (0 : Int32)) else (some (1 : Int32)))
theorem hd_X10_isColumn : yX10_isColumn.cls ≠ "java/lang/invoke/MethodHandle" ∧ yX10_isColumn.cls ≠ "java/lang/invoke/VarHandle" ∧ (parseMethodDescriptor yX10_isColumn.desc).map (fun d => d.parameters.length) = some 1 := by decide +kernel
set_option maxHeartbeats 4000000 in
set_option maxRecDepth 100000 in
theorem tX10_isColumn {G : GG} {l : Launch} {z N : Nat} {ct : Nat → va_E} (x0 : Int32) {r : Int32} (hg : gX10_isColumn x0 = some r) : Ct G l yX10_isColumn cX10_isColumn 1 (some .boolean) ({ frames := 0, cells := 0, slots := 0, locals := 0 } : Room) [.int x0] z ct N (some (.int r)) ct N := by
  refine Ct.of (lv := [(0, .int x0)]) (by decide +kernel) (Nat.le_of_ble_eq_true rfl) rfl (fun p e s m args below meth c C => ?_)
  rw [gX10_isColumn] at hg
  refine j_iload_n C dX10_isColumn_0 0 rfl rfl ?_
  refine j_if_lt C 14 hg dX10_isColumn_1 (by decide) (fun hg => ?_) (fun hg => ?_)
  · refine j_iconst (v := 0) C dX10_isColumn_14 (by decide) ?_
    exact j_zret C dX10_isColumn_15 (by decide) (by rw [← Option.some.inj hg]) rfl rfl
  · refine j_iload_n C dX10_isColumn_4 0 rfl rfl ?_
    refine j_bipush (v := 12) C dX10_isColumn_5 (by decide) ?_
    refine j_icmp_ge C 14 hg dX10_isColumn_7 (by decide) (fun hg => ?_) (fun hg => ?_)
    · refine j_iconst (v := 0) C dX10_isColumn_14 (by decide) ?_
      exact j_zret C dX10_isColumn_15 (by decide) (by rw [← Option.some.inj hg]) rfl rfl
    · refine j_iconst (v := 1) C dX10_isColumn_10 (by decide) ?_
      refine j_goto C 15 dX10_isColumn_11 (by decide) ?_
      exact j_zret C dX10_isColumn_15 (by decide) (by rw [← Option.some.inj hg]) rfl rfl

def gX10_isPlace (x0 : Int32) : Option Int32 := if x0 < 0 then (some (0 : Int32)) else (if (16 : Int32) ≤ x0 then (some (0 : Int32)) else (some (1 : Int32)))
theorem hd_X10_isPlace : yX10_isPlace.cls ≠ "java/lang/invoke/MethodHandle" ∧ yX10_isPlace.cls ≠ "java/lang/invoke/VarHandle" ∧ (parseMethodDescriptor yX10_isPlace.desc).map (fun d => d.parameters.length) = some 1 := by decide +kernel
set_option maxHeartbeats 4000000 in
set_option maxRecDepth 100000 in
theorem tX10_isPlace {G : GG} {l : Launch} {z N : Nat} {ct : Nat → va_E} (x0 : Int32) {r : Int32} (hg : gX10_isPlace x0 = some r) : Ct G l yX10_isPlace cX10_isPlace 1 (some .boolean) ({ frames := 0, cells := 0, slots := 0, locals := 0 } : Room) [.int x0] z ct N (some (.int r)) ct N := by
  refine Ct.of (lv := [(0, .int x0)]) (by decide +kernel) (Nat.le_of_ble_eq_true rfl) rfl (fun p e s m args below meth c C => ?_)
  rw [gX10_isPlace] at hg
  refine j_iload_n C dX10_isPlace_0 0 rfl rfl ?_
  refine j_if_lt C 14 hg dX10_isPlace_1 (by decide) (fun hg => ?_) (fun hg => ?_)
  · refine j_iconst (v := 0) C dX10_isPlace_14 (by decide) ?_
    exact j_zret C dX10_isPlace_15 (by decide) (by rw [← Option.some.inj hg]) rfl rfl
  · refine j_iload_n C dX10_isPlace_4 0 rfl rfl ?_
    refine j_bipush (v := 16) C dX10_isPlace_5 (by decide) ?_
    refine j_icmp_ge C 14 hg dX10_isPlace_7 (by decide) (fun hg => ?_) (fun hg => ?_)
    · refine j_iconst (v := 0) C dX10_isPlace_14 (by decide) ?_
      exact j_zret C dX10_isPlace_15 (by decide) (by rw [← Option.some.inj hg]) rfl rfl
    · refine j_iconst (v := 1) C dX10_isPlace_10 (by decide) ?_
      refine j_goto C 15 dX10_isPlace_11 (by decide) ?_
      exact j_zret C dX10_isPlace_15 (by decide) (by rw [← Option.some.inj hg]) rfl rfl

def gX10_isConstant (x0 : Int32) : Option Int32 := if x0 < 0 then (some (0 : Int32)) else (if (8 : Int32) ≤ x0 then (some (0 : Int32)) else (some (1 : Int32)))
theorem hd_X10_isConstant : yX10_isConstant.cls ≠ "java/lang/invoke/MethodHandle" ∧ yX10_isConstant.cls ≠ "java/lang/invoke/VarHandle" ∧ (parseMethodDescriptor yX10_isConstant.desc).map (fun d => d.parameters.length) = some 1 := by decide +kernel
set_option maxHeartbeats 4000000 in
set_option maxRecDepth 100000 in
theorem tX10_isConstant {G : GG} {l : Launch} {z N : Nat} {ct : Nat → va_E} (x0 : Int32) {r : Int32} (hg : gX10_isConstant x0 = some r) : Ct G l yX10_isConstant cX10_isConstant 1 (some .boolean) ({ frames := 0, cells := 0, slots := 0, locals := 0 } : Room) [.int x0] z ct N (some (.int r)) ct N := by
  refine Ct.of (lv := [(0, .int x0)]) (by decide +kernel) (Nat.le_of_ble_eq_true rfl) rfl (fun p e s m args below meth c C => ?_)
  rw [gX10_isConstant] at hg
  refine j_iload_n C dX10_isConstant_0 0 rfl rfl ?_
  refine j_if_lt C 14 hg dX10_isConstant_1 (by decide) (fun hg => ?_) (fun hg => ?_)
  · refine j_iconst (v := 0) C dX10_isConstant_14 (by decide) ?_
    exact j_zret C dX10_isConstant_15 (by decide) (by rw [← Option.some.inj hg]) rfl rfl
  · refine j_iload_n C dX10_isConstant_4 0 rfl rfl ?_
    refine j_bipush (v := 8) C dX10_isConstant_5 (by decide) ?_
    refine j_icmp_ge C 14 hg dX10_isConstant_7 (by decide) (fun hg => ?_) (fun hg => ?_)
    · refine j_iconst (v := 0) C dX10_isConstant_14 (by decide) ?_
      exact j_zret C dX10_isConstant_15 (by decide) (by rw [← Option.some.inj hg]) rfl rfl
    · refine j_iconst (v := 1) C dX10_isConstant_10 (by decide) ?_
      refine j_goto C 15 dX10_isConstant_11 (by decide) ?_
      exact j_zret C dX10_isConstant_15 (by decide) (by rw [← Option.some.inj hg]) rfl rfl

def gX10_isConstantSource (x0 : Int32) : Option Int32 := if x0 < (16 : Int32) then (some (0 : Int32)) else (if (24 : Int32) ≤ x0 then (some (0 : Int32)) else (some (1 : Int32)))
theorem hd_X10_isConstantSource : yX10_isConstantSource.cls ≠ "java/lang/invoke/MethodHandle" ∧ yX10_isConstantSource.cls ≠ "java/lang/invoke/VarHandle" ∧ (parseMethodDescriptor yX10_isConstantSource.desc).map (fun d => d.parameters.length) = some 1 := by decide +kernel
set_option maxHeartbeats 4000000 in
set_option maxRecDepth 100000 in
theorem tX10_isConstantSource {G : GG} {l : Launch} {z N : Nat} {ct : Nat → va_E} (x0 : Int32) {r : Int32} (hg : gX10_isConstantSource x0 = some r) : Ct G l yX10_isConstantSource cX10_isConstantSource 1 (some .boolean) ({ frames := 0, cells := 0, slots := 0, locals := 0 } : Room) [.int x0] z ct N (some (.int r)) ct N := by
  refine Ct.of (lv := [(0, .int x0)]) (by decide +kernel) (Nat.le_of_ble_eq_true rfl) rfl (fun p e s m args below meth c C => ?_)
  rw [gX10_isConstantSource] at hg
  refine j_iload_n C dX10_isConstantSource_0 0 rfl rfl ?_
  refine j_bipush (v := 16) C dX10_isConstantSource_1 (by decide) ?_
  refine j_icmp_lt C 16 hg dX10_isConstantSource_3 (by decide) (fun hg => ?_) (fun hg => ?_)
  · refine j_iconst (v := 0) C dX10_isConstantSource_16 (by decide) ?_
    exact j_zret C dX10_isConstantSource_17 (by decide) (by rw [← Option.some.inj hg]) rfl rfl
  · refine j_iload_n C dX10_isConstantSource_6 0 rfl rfl ?_
    refine j_bipush (v := 24) C dX10_isConstantSource_7 (by decide) ?_
    refine j_icmp_ge C 16 hg dX10_isConstantSource_9 (by decide) (fun hg => ?_) (fun hg => ?_)
    · refine j_iconst (v := 0) C dX10_isConstantSource_16 (by decide) ?_
      exact j_zret C dX10_isConstantSource_17 (by decide) (by rw [← Option.some.inj hg]) rfl rfl
    · refine j_iconst (v := 1) C dX10_isConstantSource_12 (by decide) ?_
      refine j_goto C 17 dX10_isConstantSource_13 (by decide) ?_
      exact j_zret C dX10_isConstantSource_17 (by decide) (by rw [← Option.some.inj hg]) rfl rfl

def gX10_isComparison (x0 : Int32) : Option Int32 := if x0 < 0 then (some (0 : Int32)) else (if (12 : Int32) ≤ x0 then (some (0 : Int32)) else (some (1 : Int32)))
theorem hd_X10_isComparison : yX10_isComparison.cls ≠ "java/lang/invoke/MethodHandle" ∧ yX10_isComparison.cls ≠ "java/lang/invoke/VarHandle" ∧ (parseMethodDescriptor yX10_isComparison.desc).map (fun d => d.parameters.length) = some 1 := by decide +kernel
set_option maxHeartbeats 4000000 in
set_option maxRecDepth 100000 in
theorem tX10_isComparison {G : GG} {l : Launch} {z N : Nat} {ct : Nat → va_E} (x0 : Int32) {r : Int32} (hg : gX10_isComparison x0 = some r) : Ct G l yX10_isComparison cX10_isComparison 1 (some .boolean) ({ frames := 0, cells := 0, slots := 0, locals := 0 } : Room) [.int x0] z ct N (some (.int r)) ct N := by
  refine Ct.of (lv := [(0, .int x0)]) (by decide +kernel) (Nat.le_of_ble_eq_true rfl) rfl (fun p e s m args below meth c C => ?_)
  rw [gX10_isComparison] at hg
  refine j_iload_n C dX10_isComparison_0 0 rfl rfl ?_
  refine j_if_lt C 14 hg dX10_isComparison_1 (by decide) (fun hg => ?_) (fun hg => ?_)
  · refine j_iconst (v := 0) C dX10_isComparison_14 (by decide) ?_
    exact j_zret C dX10_isComparison_15 (by decide) (by rw [← Option.some.inj hg]) rfl rfl
  · refine j_iload_n C dX10_isComparison_4 0 rfl rfl ?_
    refine j_bipush (v := 12) C dX10_isComparison_5 (by decide) ?_
    refine j_icmp_ge C 14 hg dX10_isComparison_7 (by decide) (fun hg => ?_) (fun hg => ?_)
    · refine j_iconst (v := 0) C dX10_isComparison_14 (by decide) ?_
      exact j_zret C dX10_isComparison_15 (by decide) (by rw [← Option.some.inj hg]) rfl rfl
    · refine j_iconst (v := 1) C dX10_isComparison_10 (by decide) ?_
      refine j_goto C 15 dX10_isComparison_11 (by decide) ?_
      exact j_zret C dX10_isComparison_15 (by decide) (by rw [← Option.some.inj hg]) rfl rfl

def gX10_isSpecial (x0 : Int32) : Option Int32 := if x0 < 0 then (some (0 : Int32)) else (if (6 : Int32) ≤ x0 then (some (0 : Int32)) else (some (1 : Int32)))
theorem hd_X10_isSpecial : yX10_isSpecial.cls ≠ "java/lang/invoke/MethodHandle" ∧ yX10_isSpecial.cls ≠ "java/lang/invoke/VarHandle" ∧ (parseMethodDescriptor yX10_isSpecial.desc).map (fun d => d.parameters.length) = some 1 := by decide +kernel
set_option maxHeartbeats 4000000 in
set_option maxRecDepth 100000 in
theorem tX10_isSpecial {G : GG} {l : Launch} {z N : Nat} {ct : Nat → va_E} (x0 : Int32) {r : Int32} (hg : gX10_isSpecial x0 = some r) : Ct G l yX10_isSpecial cX10_isSpecial 1 (some .boolean) ({ frames := 0, cells := 0, slots := 0, locals := 0 } : Room) [.int x0] z ct N (some (.int r)) ct N := by
  refine Ct.of (lv := [(0, .int x0)]) (by decide +kernel) (Nat.le_of_ble_eq_true rfl) rfl (fun p e s m args below meth c C => ?_)
  rw [gX10_isSpecial] at hg
  refine j_iload_n C dX10_isSpecial_0 0 rfl rfl ?_
  refine j_if_lt C 14 hg dX10_isSpecial_1 (by decide) (fun hg => ?_) (fun hg => ?_)
  · refine j_iconst (v := 0) C dX10_isSpecial_14 (by decide) ?_
    exact j_zret C dX10_isSpecial_15 (by decide) (by rw [← Option.some.inj hg]) rfl rfl
  · refine j_iload_n C dX10_isSpecial_4 0 rfl rfl ?_
    refine j_bipush (v := 6) C dX10_isSpecial_5 (by decide) ?_
    refine j_icmp_ge C 14 hg dX10_isSpecial_7 (by decide) (fun hg => ?_) (fun hg => ?_)
    · refine j_iconst (v := 0) C dX10_isSpecial_14 (by decide) ?_
      exact j_zret C dX10_isSpecial_15 (by decide) (by rw [← Option.some.inj hg]) rfl rfl
    · refine j_iconst (v := 1) C dX10_isSpecial_10 (by decide) ?_
      refine j_goto C 15 dX10_isSpecial_11 (by decide) ?_
      exact j_zret C dX10_isSpecial_15 (by decide) (by rw [← Option.some.inj hg]) rfl rfl

def gX10_isPower (x0 : Int32) : Option Int32 := if x0 < (-1000 : Int32) then (some (0 : Int32)) else (if (900 : Int32) < x0 then (some (0 : Int32)) else (some (1 : Int32)))
theorem hd_X10_isPower : yX10_isPower.cls ≠ "java/lang/invoke/MethodHandle" ∧ yX10_isPower.cls ≠ "java/lang/invoke/VarHandle" ∧ (parseMethodDescriptor yX10_isPower.desc).map (fun d => d.parameters.length) = some 1 := by decide +kernel
set_option maxHeartbeats 4000000 in
set_option maxRecDepth 100000 in
theorem tX10_isPower {G : GG} {l : Launch} {z N : Nat} {ct : Nat → va_E} (x0 : Int32) {r : Int32} (hg : gX10_isPower x0 = some r) : Ct G l yX10_isPower cX10_isPower 1 (some .boolean) ({ frames := 0, cells := 0, slots := 0, locals := 0 } : Room) [.int x0] z ct N (some (.int r)) ct N := by
  refine Ct.of (lv := [(0, .int x0)]) (by decide +kernel) (Nat.le_of_ble_eq_true rfl) rfl (fun p e s m args below meth c C => ?_)
  rw [gX10_isPower] at hg
  refine j_iload_n C dX10_isPower_0 0 rfl rfl ?_
  refine j_sipush (v := (-1000)) C dX10_isPower_1 (by decide) ?_
  refine j_icmp_lt C 18 hg dX10_isPower_4 (by decide) (fun hg => ?_) (fun hg => ?_)
  · refine j_iconst (v := 0) C dX10_isPower_18 (by decide) ?_
    exact j_zret C dX10_isPower_19 (by decide) (by rw [← Option.some.inj hg]) rfl rfl
  · refine j_iload_n C dX10_isPower_7 0 rfl rfl ?_
    refine j_sipush (v := 900) C dX10_isPower_8 (by decide) ?_
    refine j_icmp_gt C 18 hg dX10_isPower_11 (by decide) (fun hg => ?_) (fun hg => ?_)
    · refine j_iconst (v := 0) C dX10_isPower_18 (by decide) ?_
      exact j_zret C dX10_isPower_19 (by decide) (by rw [← Option.some.inj hg]) rfl rfl
    · refine j_iconst (v := 1) C dX10_isPower_14 (by decide) ?_
      refine j_goto C 19 dX10_isPower_15 (by decide) ?_
      exact j_zret C dX10_isPower_19 (by decide) (by rw [← Option.some.inj hg]) rfl rfl

def gX10_placeIn (x0 : Int32) (x1 : Int32) : Option Int32 := (gX10_isConstantSource x0).bind (fun r1 => if r1 = 0 then (some x1) else (some (x0 - (16 : Int32))))
theorem hd_X10_placeIn : yX10_placeIn.cls ≠ "java/lang/invoke/MethodHandle" ∧ yX10_placeIn.cls ≠ "java/lang/invoke/VarHandle" ∧ (parseMethodDescriptor yX10_placeIn.desc).map (fun d => d.parameters.length) = some 2 := by decide +kernel
set_option maxHeartbeats 4000000 in
set_option maxRecDepth 100000 in
theorem tX10_placeIn {G : GG} {l : Launch} {z N : Nat} {ct : Nat → va_E} (x0 : Int32) (x1 : Int32) {r : Int32} (hg : gX10_placeIn x0 x1 = some r) : Ct G l yX10_placeIn cX10_placeIn 2 (some .int) ({ frames := 1, cells := 0, slots := 0, locals := 20 } : Room) [.int x0, .int x1] z ct N (some (.int r)) ct N := by
  refine Ct.of (lv := [(0, .int x0), (1, .int x1)]) (by decide +kernel) (Nat.le_of_ble_eq_true rfl) rfl (fun p e s m args below meth c C => ?_)
  rw [gX10_placeIn] at hg
  refine j_iload_n C dX10_placeIn_0 0 rfl rfl ?_
  obtain ⟨r1, hr1, hg⟩ := ob hg
  refine j_callS C [.int x0] (tX10_isConstantSource x0 hr1) q2_40 q1_1 q2_39 q2_38 hd_X10_isConstantSource rfl dX10_placeIn_1 rfl (Nat.le_of_ble_eq_true rfl) ⟨(Nat.le_of_ble_eq_true rfl), (Nat.le_of_ble_eq_true rfl)⟩ ⟨(Nat.le_of_ble_eq_true rfl), (Nat.le_of_ble_eq_true rfl)⟩ ?_
  refine j_if_eq C 14 hg dX10_placeIn_4 (by decide) (fun hg => ?_) (fun hg => ?_)
  · refine j_iload_n C dX10_placeIn_14 1 rfl rfl ?_
    exact j_iret C dX10_placeIn_15 (by rw [← Option.some.inj hg]) rfl rfl
  · refine j_iload_n C dX10_placeIn_7 0 rfl rfl ?_
    refine j_bipush (v := 16) C dX10_placeIn_8 (by decide) ?_
    refine j_isub C dX10_placeIn_10 ?_
    refine j_goto C 15 dX10_placeIn_11 (by decide) ?_
    exact j_iret C dX10_placeIn_15 (by rw [← Option.some.inj hg]) rfl rfl

def gX11_isIn (x0 : Int32) (x1 : Int32) (x2 : Int32) : Option Int32 := if x0 < x1 then (some (0 : Int32)) else (if x2 < x0 then (some (0 : Int32)) else (some (1 : Int32)))
theorem hd_X11_isIn : yX11_isIn.cls ≠ "java/lang/invoke/MethodHandle" ∧ yX11_isIn.cls ≠ "java/lang/invoke/VarHandle" ∧ (parseMethodDescriptor yX11_isIn.desc).map (fun d => d.parameters.length) = some 3 := by decide +kernel
set_option maxHeartbeats 4000000 in
set_option maxRecDepth 100000 in
theorem tX11_isIn {G : GG} {l : Launch} {z N : Nat} {ct : Nat → va_E} (x0 : Int32) (x1 : Int32) (x2 : Int32) {r : Int32} (hg : gX11_isIn x0 x1 x2 = some r) : Ct G l yX11_isIn cX11_isIn 3 (some .boolean) ({ frames := 0, cells := 0, slots := 0, locals := 0 } : Room) [.int x0, .int x1, .int x2] z ct N (some (.int r)) ct N := by
  refine Ct.of (lv := [(0, .int x0), (1, .int x1), (2, .int x2)]) (by decide +kernel) (Nat.le_of_ble_eq_true rfl) rfl (fun p e s m args below meth c C => ?_)
  rw [gX11_isIn] at hg
  refine j_iload_n C dX11_isIn_0 0 rfl rfl ?_
  refine j_iload_n C dX11_isIn_1 1 rfl rfl ?_
  refine j_icmp_lt C 14 hg dX11_isIn_2 (by decide) (fun hg => ?_) (fun hg => ?_)
  · refine j_iconst (v := 0) C dX11_isIn_14 (by decide) ?_
    exact j_zret C dX11_isIn_15 (by decide) (by rw [← Option.some.inj hg]) rfl rfl
  · refine j_iload_n C dX11_isIn_5 0 rfl rfl ?_
    refine j_iload_n C dX11_isIn_6 2 rfl rfl ?_
    refine j_icmp_gt C 14 hg dX11_isIn_7 (by decide) (fun hg => ?_) (fun hg => ?_)
    · refine j_iconst (v := 0) C dX11_isIn_14 (by decide) ?_
      exact j_zret C dX11_isIn_15 (by decide) (by rw [← Option.some.inj hg]) rfl rfl
    · refine j_iconst (v := 1) C dX11_isIn_10 (by decide) ?_
      refine j_goto C 15 dX11_isIn_11 (by decide) ?_
      exact j_zret C dX11_isIn_15 (by decide) (by rw [← Option.some.inj hg]) rfl rfl

def gX11_isZero (x0 : UInt64) : Option Int32 := if (Op.cmpValue (FP.dcmp x0 FP.dconst0) CmpOp.l) = 0 then (some (1 : Int32)) else (some (0 : Int32))
theorem hd_X11_isZero : yX11_isZero.cls ≠ "java/lang/invoke/MethodHandle" ∧ yX11_isZero.cls ≠ "java/lang/invoke/VarHandle" ∧ (parseMethodDescriptor yX11_isZero.desc).map (fun d => d.parameters.length) = some 1 := by decide +kernel
set_option maxHeartbeats 4000000 in
set_option maxRecDepth 100000 in
theorem tX11_isZero {G : GG} {l : Launch} {z N : Nat} {ct : Nat → va_E} (x0 : UInt64) {r : Int32} (hg : gX11_isZero x0 = some r) : Ct G l yX11_isZero cX11_isZero 2 (some .boolean) ({ frames := 0, cells := 0, slots := 0, locals := 0 } : Room) [.double x0] z ct N (some (.int r)) ct N := by
  refine Ct.of (lv := [(0, .double x0)]) (by decide +kernel) (Nat.le_of_ble_eq_true rfl) rfl (fun p e s m args below meth c C => ?_)
  rw [gX11_isZero] at hg
  refine j_dload_n C dX11_isZero_0 0 rfl rfl ?_
  refine j_dconst0 C dX11_isZero_1 ?_
  refine j_dcmp C dX11_isZero_2 ?_
  refine j_if_ne C 10 hg dX11_isZero_3 (by decide) (fun hg => ?_) (fun hg => ?_)
  · refine j_iconst (v := 0) C dX11_isZero_10 (by decide) ?_
    exact j_zret C dX11_isZero_11 (by decide) (by rw [← Option.some.inj hg]) rfl rfl
  · refine j_iconst (v := 1) C dX11_isZero_6 (by decide) ?_
    refine j_goto C 11 dX11_isZero_7 (by decide) ?_
    exact j_zret C dX11_isZero_11 (by decide) (by rw [← Option.some.inj hg]) rfl rfl

def gX11_isInfinite (x0 : UInt64) : Option Int32 := if (Op.cmpValue (FP.dcmp x0 (9218868437227405312 : UInt64)) CmpOp.l) = 0 then (some (1 : Int32)) else (if (Op.cmpValue (FP.dcmp x0 (18442240474082181120 : UInt64)) CmpOp.l) = 0 then (some (1 : Int32)) else (some (0 : Int32)))
theorem hd_X11_isInfinite : yX11_isInfinite.cls ≠ "java/lang/invoke/MethodHandle" ∧ yX11_isInfinite.cls ≠ "java/lang/invoke/VarHandle" ∧ (parseMethodDescriptor yX11_isInfinite.desc).map (fun d => d.parameters.length) = some 1 := by decide +kernel
set_option maxHeartbeats 4000000 in
set_option maxRecDepth 100000 in
theorem tX11_isInfinite {G : GG} {l : Launch} {z N : Nat} {ct : Nat → va_E} (x0 : UInt64) {r : Int32} (hg : gX11_isInfinite x0 = some r) : Ct G l yX11_isInfinite cX11_isInfinite 2 (some .boolean) ({ frames := 0, cells := 0, slots := 0, locals := 0 } : Room) [.double x0] z ct N (some (.int r)) ct N := by
  refine Ct.of (lv := [(0, .double x0)]) (by decide +kernel) (Nat.le_of_ble_eq_true rfl) rfl (fun p e s m args below meth c C => ?_)
  rw [gX11_isInfinite] at hg
  refine j_dload_n C dX11_isInfinite_0 0 rfl rfl ?_
  refine j_ldc2d C q3_204 dX11_isInfinite_1 ?_
  refine j_dcmp C dX11_isInfinite_4 ?_
  refine j_if_eq C 16 hg dX11_isInfinite_5 (by decide) (fun hg => ?_) (fun hg => ?_)
  · refine j_iconst (v := 1) C dX11_isInfinite_16 (by decide) ?_
    refine j_goto C 21 dX11_isInfinite_17 (by decide) ?_
    exact j_zret C dX11_isInfinite_21 (by decide) (by rw [← Option.some.inj hg]) rfl rfl
  · refine j_dload_n C dX11_isInfinite_8 0 rfl rfl ?_
    refine j_ldc2d C q3_205 dX11_isInfinite_9 ?_
    refine j_dcmp C dX11_isInfinite_12 ?_
    refine j_if_ne C 20 hg dX11_isInfinite_13 (by decide) (fun hg => ?_) (fun hg => ?_)
    · refine j_iconst (v := 0) C dX11_isInfinite_20 (by decide) ?_
      exact j_zret C dX11_isInfinite_21 (by decide) (by rw [← Option.some.inj hg]) rfl rfl
    · refine j_iconst (v := 1) C dX11_isInfinite_16 (by decide) ?_
      refine j_goto C 21 dX11_isInfinite_17 (by decide) ?_
      exact j_zret C dX11_isInfinite_21 (by decide) (by rw [← Option.some.inj hg]) rfl rfl

def gX11_hasMinus (x0 : UInt64) : Option Int32 := (gX11_isZero x0).bind (fun r1 => if r1 = 0 then (if 0 ≤ (Op.cmpValue (FP.dcmp x0 FP.dconst0) CmpOp.g) then (some (0 : Int32)) else (some (1 : Int32))) else (if FP.dIsNaN (FP.ddiv FP.dconst1 x0) = false then (if 0 ≤ (Op.cmpValue (FP.dcmp (FP.ddiv FP.dconst1 x0) FP.dconst0) CmpOp.g) then (some (0 : Int32)) else (some (1 : Int32))) else none))
theorem hd_X11_hasMinus : yX11_hasMinus.cls ≠ "java/lang/invoke/MethodHandle" ∧ yX11_hasMinus.cls ≠ "java/lang/invoke/VarHandle" ∧ (parseMethodDescriptor yX11_hasMinus.desc).map (fun d => d.parameters.length) = some 1 := by decide +kernel
set_option maxHeartbeats 4000000 in
set_option maxRecDepth 100000 in
theorem tX11_hasMinus {G : GG} {l : Launch} {z N : Nat} {ct : Nat → va_E} (x0 : UInt64) {r : Int32} (hg : gX11_hasMinus x0 = some r) : Ct G l yX11_hasMinus cX11_hasMinus 2 (some .boolean) ({ frames := 1, cells := 0, slots := 0, locals := 21 } : Room) [.double x0] z ct N (some (.int r)) ct N := by
  refine Ct.of (lv := [(0, .double x0)]) (by decide +kernel) (Nat.le_of_ble_eq_true rfl) rfl (fun p e s m args below meth c C => ?_)
  rw [gX11_hasMinus] at hg
  refine j_dload_n C dX11_hasMinus_0 0 rfl rfl ?_
  obtain ⟨r1, hr1, hg⟩ := ob hg
  refine j_callS C [.double x0] (tX11_isZero x0 hr1) q4_27 q1_6 q4_26 q4_25 hd_X11_isZero rfl dX11_hasMinus_1 rfl (Nat.le_of_ble_eq_true rfl) ⟨(Nat.le_of_ble_eq_true rfl), (Nat.le_of_ble_eq_true rfl)⟩ ⟨(Nat.le_of_ble_eq_true rfl), (Nat.le_of_ble_eq_true rfl)⟩ ?_
  refine j_if_eq C 23 hg dX11_hasMinus_4 (by decide) (fun hg => ?_) (fun hg => ?_)
  · refine j_dload_n C dX11_hasMinus_23 0 rfl rfl ?_
    refine j_dconst0 C dX11_hasMinus_24 ?_
    refine j_dcmp C dX11_hasMinus_25 ?_
    refine j_if_ge C 33 hg dX11_hasMinus_26 (by decide) (fun hg => ?_) (fun hg => ?_)
    · refine j_iconst (v := 0) C dX11_hasMinus_33 (by decide) ?_
      exact j_zret C dX11_hasMinus_34 (by decide) (by rw [← Option.some.inj hg]) rfl rfl
    · refine j_iconst (v := 1) C dX11_hasMinus_29 (by decide) ?_
      refine j_goto C 34 dX11_hasMinus_30 (by decide) ?_
      exact j_zret C dX11_hasMinus_34 (by decide) (by rw [← Option.some.inj hg]) rfl rfl
  · refine j_dconst1 C dX11_hasMinus_7 ?_
    refine j_dload_n C dX11_hasMinus_8 0 rfl rfl ?_
    refine j_ddiv C hg dX11_hasMinus_9 (fun hg => ?_)
    refine j_dconst0 C dX11_hasMinus_10 ?_
    refine j_dcmp C dX11_hasMinus_11 ?_
    refine j_if_ge C 19 hg dX11_hasMinus_12 (by decide) (fun hg => ?_) (fun hg => ?_)
    · refine j_iconst (v := 0) C dX11_hasMinus_19 (by decide) ?_
      refine j_goto C 34 dX11_hasMinus_20 (by decide) ?_
      exact j_zret C dX11_hasMinus_34 (by decide) (by rw [← Option.some.inj hg]) rfl rfl
    · refine j_iconst (v := 1) C dX11_hasMinus_15 (by decide) ?_
      refine j_goto C 34 dX11_hasMinus_16 (by decide) ?_
      exact j_zret C dX11_hasMinus_34 (by decide) (by rw [← Option.some.inj hg]) rfl rfl

def gX11_zero (x0 : Int32) : Option UInt64 := if x0 = 0 then (some FP.dconst0) else (some (9223372036854775808 : UInt64))
theorem hd_X11_zero : yX11_zero.cls ≠ "java/lang/invoke/MethodHandle" ∧ yX11_zero.cls ≠ "java/lang/invoke/VarHandle" ∧ (parseMethodDescriptor yX11_zero.desc).map (fun d => d.parameters.length) = some 1 := by decide +kernel
set_option maxHeartbeats 4000000 in
set_option maxRecDepth 100000 in
theorem tX11_zero {G : GG} {l : Launch} {z N : Nat} {ct : Nat → va_E} (x0 : Int32) {r : UInt64} (hg : gX11_zero x0 = some r) : Ct G l yX11_zero cX11_zero 1 (some .double) ({ frames := 0, cells := 0, slots := 0, locals := 0 } : Room) [.int x0] z ct N (some (.double r)) ct N := by
  refine Ct.of (lv := [(0, .int x0)]) (by decide +kernel) (Nat.le_of_ble_eq_true rfl) rfl (fun p e s m args below meth c C => ?_)
  rw [gX11_zero] at hg
  refine j_iload_n C dX11_zero_0 0 rfl rfl ?_
  refine j_if_eq C 10 hg dX11_zero_1 (by decide) (fun hg => ?_) (fun hg => ?_)
  · refine j_dconst0 C dX11_zero_10 ?_
    exact j_dret C dX11_zero_11 (by rw [← Option.some.inj hg]) rfl rfl
  · refine j_ldc2d C q3_206 dX11_zero_4 ?_
    refine j_goto C 11 dX11_zero_7 (by decide) ?_
    exact j_dret C dX11_zero_11 (by rw [← Option.some.inj hg]) rfl rfl

def gX11_brought (x0 : UInt64) (x1 : Int32) : Option UInt64 := if x1 = 0 then (some x0) else (if FP.fIsNaN (FP.d2f x0) = false then (if FP.dIsNaN (FP.f2d (FP.d2f x0)) = false then (some (FP.f2d (FP.d2f x0))) else none) else none)
theorem hd_X11_brought : yX11_brought.cls ≠ "java/lang/invoke/MethodHandle" ∧ yX11_brought.cls ≠ "java/lang/invoke/VarHandle" ∧ (parseMethodDescriptor yX11_brought.desc).map (fun d => d.parameters.length) = some 2 := by decide +kernel
set_option maxHeartbeats 4000000 in
set_option maxRecDepth 100000 in
theorem tX11_brought {G : GG} {l : Launch} {z N : Nat} {ct : Nat → va_E} (x0 : UInt64) (x1 : Int32) {r : UInt64} (hg : gX11_brought x0 x1 = some r) : Ct G l yX11_brought cX11_brought 3 (some .double) ({ frames := 0, cells := 0, slots := 0, locals := 0 } : Room) [.double x0, .int x1] z ct N (some (.double r)) ct N := by
  refine Ct.of (lv := [(0, .double x0), (2, .int x1)]) (by decide +kernel) (Nat.le_of_ble_eq_true rfl) rfl (fun p e s m args below meth c C => ?_)
  rw [gX11_brought] at hg
  refine j_iload_n C dX11_brought_0 1 rfl rfl ?_
  refine j_if_eq C 10 hg dX11_brought_1 (by decide) (fun hg => ?_) (fun hg => ?_)
  · refine j_dload_n C dX11_brought_10 0 rfl rfl ?_
    exact j_dret C dX11_brought_11 (by rw [← Option.some.inj hg]) rfl rfl
  · refine j_dload_n C dX11_brought_4 0 rfl rfl ?_
    refine j_d2f C hg dX11_brought_5 (fun hg => ?_)
    refine j_f2d C hg dX11_brought_6 (fun hg => ?_)
    refine j_goto C 11 dX11_brought_7 (by decide) ?_
    exact j_dret C dX11_brought_11 (by rw [← Option.some.inj hg]) rfl rfl

def gX11_isLower (x0 : UInt64) (x1 : UInt64) : Option Int32 := if (Op.cmpValue (FP.dcmp x0 x1) CmpOp.g) < 0 then (some (1 : Int32)) else ((gX11_isZero x0).bind (fun r1 => if r1 = 0 then (some (0 : Int32)) else ((gX11_isZero x1).bind (fun r2 => if r2 = 0 then (some (0 : Int32)) else ((gX11_hasMinus x0).bind (fun r3 => if r3 = 0 then (some (0 : Int32)) else ((gX11_hasMinus x1).bind (fun r4 => if r4 = 0 then (some (1 : Int32)) else (some (0 : Int32))))))))))
theorem hd_X11_isLower : yX11_isLower.cls ≠ "java/lang/invoke/MethodHandle" ∧ yX11_isLower.cls ≠ "java/lang/invoke/VarHandle" ∧ (parseMethodDescriptor yX11_isLower.desc).map (fun d => d.parameters.length) = some 2 := by decide +kernel
set_option maxHeartbeats 4000000 in
set_option maxRecDepth 100000 in
theorem tX11_isLower {G : GG} {l : Launch} {z N : Nat} {ct : Nat → va_E} (x0 : UInt64) (x1 : UInt64) {r : Int32} (hg : gX11_isLower x0 x1 = some r) : Ct G l yX11_isLower cX11_isLower 4 (some .boolean) ({ frames := 2, cells := 0, slots := 0, locals := 42 } : Room) [.double x0, .double x1] z ct N (some (.int r)) ct N := by
  refine Ct.of (lv := [(0, .double x0), (2, .double x1)]) (by decide +kernel) (Nat.le_of_ble_eq_true rfl) rfl (fun p e s m args below meth c C => ?_)
  rw [gX11_isLower] at hg
  refine j_dload_n C dX11_isLower_0 0 rfl rfl ?_
  refine j_dload_n C dX11_isLower_1 1 rfl rfl ?_
  refine j_dcmp C dX11_isLower_2 ?_
  refine j_if_lt C 34 hg dX11_isLower_3 (by decide) (fun hg => ?_) (fun hg => ?_)
  · refine j_iconst (v := 1) C dX11_isLower_34 (by decide) ?_
    refine j_goto C 39 dX11_isLower_35 (by decide) ?_
    exact j_zret C dX11_isLower_39 (by decide) (by rw [← Option.some.inj hg]) rfl rfl
  · refine j_dload_n C dX11_isLower_6 0 rfl rfl ?_
    obtain ⟨r1, hr1, hg⟩ := ob hg
    refine j_callS C [.double x0] (tX11_isZero x0 hr1) q4_27 q1_6 q4_26 q4_25 hd_X11_isZero rfl dX11_isLower_7 rfl (Nat.le_of_ble_eq_true rfl) ⟨(Nat.le_of_ble_eq_true rfl), (Nat.le_of_ble_eq_true rfl)⟩ ⟨(Nat.le_of_ble_eq_true rfl), (Nat.le_of_ble_eq_true rfl)⟩ ?_
    refine j_if_eq C 38 hg dX11_isLower_10 (by decide) (fun hg => ?_) (fun hg => ?_)
    · refine j_iconst (v := 0) C dX11_isLower_38 (by decide) ?_
      exact j_zret C dX11_isLower_39 (by decide) (by rw [← Option.some.inj hg]) rfl rfl
    · refine j_dload_n C dX11_isLower_13 1 rfl rfl ?_
      obtain ⟨r2, hr2, hg⟩ := ob hg
      refine j_callS C [.double x1] (tX11_isZero x1 hr2) q4_27 q1_6 q4_26 q4_25 hd_X11_isZero rfl dX11_isLower_14 rfl (Nat.le_of_ble_eq_true rfl) ⟨(Nat.le_of_ble_eq_true rfl), (Nat.le_of_ble_eq_true rfl)⟩ ⟨(Nat.le_of_ble_eq_true rfl), (Nat.le_of_ble_eq_true rfl)⟩ ?_
      refine j_if_eq C 38 hg dX11_isLower_17 (by decide) (fun hg => ?_) (fun hg => ?_)
      · refine j_iconst (v := 0) C dX11_isLower_38 (by decide) ?_
        exact j_zret C dX11_isLower_39 (by decide) (by rw [← Option.some.inj hg]) rfl rfl
      · refine j_dload_n C dX11_isLower_20 0 rfl rfl ?_
        obtain ⟨r3, hr3, hg⟩ := ob hg
        refine j_callS C [.double x0] (tX11_hasMinus x0 hr3) q4_24 q1_6 q4_23 q4_22 hd_X11_hasMinus rfl dX11_isLower_21 rfl (Nat.le_of_ble_eq_true rfl) ⟨(Nat.le_of_ble_eq_true rfl), (Nat.le_of_ble_eq_true rfl)⟩ ⟨(Nat.le_of_ble_eq_true rfl), (Nat.le_of_ble_eq_true rfl)⟩ ?_
        refine j_if_eq C 38 hg dX11_isLower_24 (by decide) (fun hg => ?_) (fun hg => ?_)
        · refine j_iconst (v := 0) C dX11_isLower_38 (by decide) ?_
          exact j_zret C dX11_isLower_39 (by decide) (by rw [← Option.some.inj hg]) rfl rfl
        · refine j_dload_n C dX11_isLower_27 1 rfl rfl ?_
          obtain ⟨r4, hr4, hg⟩ := ob hg
          refine j_callS C [.double x1] (tX11_hasMinus x1 hr4) q4_24 q1_6 q4_23 q4_22 hd_X11_hasMinus rfl dX11_isLower_28 rfl (Nat.le_of_ble_eq_true rfl) ⟨(Nat.le_of_ble_eq_true rfl), (Nat.le_of_ble_eq_true rfl)⟩ ⟨(Nat.le_of_ble_eq_true rfl), (Nat.le_of_ble_eq_true rfl)⟩ ?_
          refine j_if_ne C 38 hg dX11_isLower_31 (by decide) (fun hg => ?_) (fun hg => ?_)
          · refine j_iconst (v := 0) C dX11_isLower_38 (by decide) ?_
            exact j_zret C dX11_isLower_39 (by decide) (by rw [← Option.some.inj hg]) rfl rfl
          · refine j_iconst (v := 1) C dX11_isLower_34 (by decide) ?_
            refine j_goto C 39 dX11_isLower_35 (by decide) ?_
            exact j_zret C dX11_isLower_39 (by decide) (by rw [← Option.some.inj hg]) rfl rfl

def gX11_isSo_149 (x0 : Int32) (x1 : UInt64) (x2 : Int32) (x3 : UInt64) (x4 : Int32) (v8 : Int32) : Option Int32 := if (6 : Int32) ≤ x0 then (if v8 = 0 then (some (1 : Int32)) else (some (0 : Int32))) else (if vp_nar .boolean v8 = v8 then some v8 else none)
def gX11_isSo_147 (x0 : Int32) (x1 : UInt64) (x2 : Int32) (x3 : UInt64) (x4 : Int32) (s0 : Int32) : Option Int32 := gX11_isSo_149 x0 x1 x2 x3 x4 s0
def gX11_isSo_26 (x0 : Int32) (x1 : UInt64) (x2 : Int32) (x3 : UInt64) (x4 : Int32) (s0 : Int32) : Option Int32 := gX11_isSo_149 x0 x1 x2 x3 x4 s0
def gX11_isSo_15 (x0 : Int32) (x1 : UInt64) (x2 : Int32) (x3 : UInt64) (x4 : Int32) (v7 : Int32) : Option Int32 := if v7 = (5 : Int32) then (gX11_isSo_26 x0 x1 x2 x3 x4 (1 : Int32)) else (gX11_isSo_26 x0 x1 x2 x3 x4 (0 : Int32))
def gX11_isSo (x0 : Int32) (x1 : UInt64) (x2 : Int32) (x3 : UInt64) (x4 : Int32) : Option Int32 := if ¬ (6 : Int32) = 0 then (if x2 = 0 then (if x4 = 0 then (if (x0 - x0 / (6 : Int32) * (6 : Int32)) = 0 then (if 0 ≤ (Op.cmpValue (FP.dcmp x1 x3) CmpOp.g) then (gX11_isSo_147 x0 x1 x2 x3 x4 (0 : Int32)) else (gX11_isSo_147 x0 x1 x2 x3 x4 (1 : Int32))) else (if (x0 - x0 / (6 : Int32) * (6 : Int32)) = (1 : Int32) then (if 0 < (Op.cmpValue (FP.dcmp x1 x3) CmpOp.g) then (gX11_isSo_147 x0 x1 x2 x3 x4 (0 : Int32)) else (gX11_isSo_147 x0 x1 x2 x3 x4 (1 : Int32))) else (if (x0 - x0 / (6 : Int32) * (6 : Int32)) = (2 : Int32) then (if (Op.cmpValue (FP.dcmp x1 x3) CmpOp.l) ≤ 0 then (gX11_isSo_147 x0 x1 x2 x3 x4 (0 : Int32)) else (gX11_isSo_147 x0 x1 x2 x3 x4 (1 : Int32))) else (if (x0 - x0 / (6 : Int32) * (6 : Int32)) = (3 : Int32) then (if (Op.cmpValue (FP.dcmp x1 x3) CmpOp.l) < 0 then (gX11_isSo_147 x0 x1 x2 x3 x4 (0 : Int32)) else (gX11_isSo_147 x0 x1 x2 x3 x4 (1 : Int32))) else (if (x0 - x0 / (6 : Int32) * (6 : Int32)) = (4 : Int32) then (if (Op.cmpValue (FP.dcmp x1 x3) CmpOp.l) = 0 then (gX11_isSo_147 x0 x1 x2 x3 x4 (1 : Int32)) else (gX11_isSo_147 x0 x1 x2 x3 x4 (0 : Int32))) else (if (Op.cmpValue (FP.dcmp x1 x3) CmpOp.l) = 0 then (gX11_isSo_147 x0 x1 x2 x3 x4 (0 : Int32)) else (gX11_isSo_147 x0 x1 x2 x3 x4 (1 : Int32)))))))) else (gX11_isSo_15 x0 x1 x2 x3 x4 (x0 - x0 / (6 : Int32) * (6 : Int32)))) else (gX11_isSo_15 x0 x1 x2 x3 x4 (x0 - x0 / (6 : Int32) * (6 : Int32)))) else none
theorem hd_X11_isSo : yX11_isSo.cls ≠ "java/lang/invoke/MethodHandle" ∧ yX11_isSo.cls ≠ "java/lang/invoke/VarHandle" ∧ (parseMethodDescriptor yX11_isSo.desc).map (fun d => d.parameters.length) = some 5 := by decide +kernel
set_option maxHeartbeats 4000000 in
set_option maxRecDepth 100000 in
theorem tX11_isSo {G : GG} {l : Launch} {z N : Nat} {ct : Nat → va_E} (x0 : Int32) (x1 : UInt64) (x2 : Int32) (x3 : UInt64) (x4 : Int32) {r : Int32} (hg : gX11_isSo x0 x1 x2 x3 x4 = some r) : Ct G l yX11_isSo cX11_isSo 9 (some .boolean) ({ frames := 0, cells := 0, slots := 0, locals := 0 } : Room) [.int x0, .double x1, .int x2, .double x3, .int x4] z ct N (some (.int r)) ct N := by
  refine Ct.of (lv := [(0, .int x0), (1, .double x1), (3, .int x2), (4, .double x3), (6, .int x4)]) (by decide +kernel) (Nat.le_of_ble_eq_true rfl) rfl (fun p e s m args below meth c C => ?_)
  have L_149 : ∀ (v8 : Int32), gX11_isSo_149 x0 x1 x2 x3 x4 v8 = some r → J G p l e ({ frames := 0, cells := 0, slots := 0, locals := 0 } : Room) s m args below meth c z 9 (MQ below (Qd G z (some (.int r)) ct N) args s 0 0 (zA z)) ct N 0 0 149 [(0, .int x0), (8, .int v8)] [] := by
    intro v8 hg
    rw [gX11_isSo_149] at hg
    refine j_iload_n C dX11_isSo_149 0 rfl rfl ?_
    refine j_bipush (v := 6) C dX11_isSo_150 (by decide) ?_
    refine j_icmp_ge C 160 hg dX11_isSo_152 (by decide) (fun hg => ?_) (fun hg => ?_)
    · refine j_iload C dX11_isSo_160 1 rfl ?_
      refine j_if_ne C 169 hg dX11_isSo_162 (by decide) (fun hg => ?_) (fun hg => ?_)
      · refine j_iconst (v := 0) C dX11_isSo_169 (by decide) ?_
        exact j_zret C dX11_isSo_170 (by decide) (by rw [← Option.some.inj hg]) rfl rfl
      · refine j_iconst (v := 1) C dX11_isSo_165 (by decide) ?_
        refine j_goto C 170 dX11_isSo_166 (by decide) ?_
        exact j_zret C dX11_isSo_170 (by decide) (by rw [← Option.some.inj hg]) rfl rfl
    · refine j_iload C dX11_isSo_155 1 rfl ?_
      refine j_goto C 170 dX11_isSo_157 (by decide) ?_
      obtain ⟨hz, hg⟩ := gd hg
      exact j_zret C dX11_isSo_170 hz (by rw [← Option.some.inj hg]) rfl rfl
  have L_147 : ∀ (s0 : Int32), gX11_isSo_147 x0 x1 x2 x3 x4 s0 = some r → J G p l e ({ frames := 0, cells := 0, slots := 0, locals := 0 } : Room) s m args below meth c z 9 (MQ below (Qd G z (some (.int r)) ct N) args s 0 0 (zA z)) ct N 0 0 147 [(0, .int x0)] [.int s0] := by
    intro s0 hg
    rw [gX11_isSo_147] at hg
    refine j_istore C [(8, .int s0), (0, .int x0)] dX11_isSo_147 (by decide) rfl ?_
    exact j_re [1, 0] rfl (L_149 s0 hg)
  have L_26 : ∀ (s0 : Int32), gX11_isSo_26 x0 x1 x2 x3 x4 s0 = some r → J G p l e ({ frames := 0, cells := 0, slots := 0, locals := 0 } : Room) s m args below meth c z 9 (MQ below (Qd G z (some (.int r)) ct N) args s 0 0 (zA z)) ct N 0 0 26 [(0, .int x0)] [.int s0] := by
    intro s0 hg
    rw [gX11_isSo_26] at hg
    refine j_istore C [(8, .int s0), (0, .int x0)] dX11_isSo_26 (by decide) rfl ?_
    refine j_goto C 149 dX11_isSo_28 (by decide) ?_
    exact j_re [1, 0] rfl (L_149 s0 hg)
  have L_15 : ∀ (v7 : Int32), gX11_isSo_15 x0 x1 x2 x3 x4 v7 = some r → J G p l e ({ frames := 0, cells := 0, slots := 0, locals := 0 } : Room) s m args below meth c z 9 (MQ below (Qd G z (some (.int r)) ct N) args s 0 0 (zA z)) ct N 0 0 15 [(0, .int x0), (7, .int v7)] [] := by
    intro v7 hg
    rw [gX11_isSo_15] at hg
    refine j_iload C dX11_isSo_15 1 rfl ?_
    refine j_iconst (v := 5) C dX11_isSo_17 (by decide) ?_
    refine j_icmp_ne C 25 hg dX11_isSo_18 (by decide) (fun hg => ?_) (fun hg => ?_)
    · refine j_iconst (v := 0) C dX11_isSo_25 (by decide) ?_
      exact j_re [0] rfl (L_26 (0 : Int32) hg)
    · refine j_iconst (v := 1) C dX11_isSo_21 (by decide) ?_
      refine j_goto C 26 dX11_isSo_22 (by decide) ?_
      exact j_re [0] rfl (L_26 (1 : Int32) hg)
  rw [gX11_isSo] at hg
  refine j_iload_n C dX11_isSo_0 0 rfl rfl ?_
  refine j_bipush (v := 6) C dX11_isSo_1 (by decide) ?_
  refine j_irem C hg dX11_isSo_3 (fun hg => ?_)
  refine j_istore C [(7, .int (x0 - x0 / (6 : Int32) * (6 : Int32))), (0, .int x0), (1, .double x1), (3, .int x2), (4, .double x3), (6, .int x4)] dX11_isSo_4 (by decide) rfl ?_
  refine j_iload_n C dX11_isSo_6 3 rfl rfl ?_
  refine j_if_ne C 15 hg dX11_isSo_7 (by decide) (fun hg => ?_) (fun hg => ?_)
  · exact j_re [1, 0] rfl (L_15 (x0 - x0 / (6 : Int32) * (6 : Int32)) hg)
  · refine j_iload C dX11_isSo_10 5 rfl ?_
    refine j_if_eq C 31 hg dX11_isSo_12 (by decide) (fun hg => ?_) (fun hg => ?_)
    · refine j_iload C dX11_isSo_31 0 rfl ?_
      refine j_if_ne C 51 hg dX11_isSo_33 (by decide) (fun hg => ?_) (fun hg => ?_)
      · refine j_iload C dX11_isSo_51 0 rfl ?_
        refine j_iconst (v := 1) C dX11_isSo_53 (by decide) ?_
        refine j_icmp_ne C 72 hg dX11_isSo_54 (by decide) (fun hg => ?_) (fun hg => ?_)
        · refine j_iload C dX11_isSo_72 0 rfl ?_
          refine j_iconst (v := 2) C dX11_isSo_74 (by decide) ?_
          refine j_icmp_ne C 93 hg dX11_isSo_75 (by decide) (fun hg => ?_) (fun hg => ?_)
          · refine j_iload C dX11_isSo_93 0 rfl ?_
            refine j_iconst (v := 3) C dX11_isSo_95 (by decide) ?_
            refine j_icmp_ne C 114 hg dX11_isSo_96 (by decide) (fun hg => ?_) (fun hg => ?_)
            · refine j_iload C dX11_isSo_114 0 rfl ?_
              refine j_iconst (v := 4) C dX11_isSo_116 (by decide) ?_
              refine j_icmp_ne C 135 hg dX11_isSo_117 (by decide) (fun hg => ?_) (fun hg => ?_)
              · refine j_dload_n C dX11_isSo_135 2 rfl rfl ?_
                refine j_dload C dX11_isSo_136 4 rfl ?_
                refine j_dcmp C dX11_isSo_138 ?_
                refine j_if_eq C 146 hg dX11_isSo_139 (by decide) (fun hg => ?_) (fun hg => ?_)
                · refine j_iconst (v := 0) C dX11_isSo_146 (by decide) ?_
                  exact j_re [1] rfl (L_147 (0 : Int32) hg)
                · refine j_iconst (v := 1) C dX11_isSo_142 (by decide) ?_
                  refine j_goto C 147 dX11_isSo_143 (by decide) ?_
                  exact j_re [1] rfl (L_147 (1 : Int32) hg)
              · refine j_dload_n C dX11_isSo_120 2 rfl rfl ?_
                refine j_dload C dX11_isSo_121 4 rfl ?_
                refine j_dcmp C dX11_isSo_123 ?_
                refine j_if_ne C 131 hg dX11_isSo_124 (by decide) (fun hg => ?_) (fun hg => ?_)
                · refine j_iconst (v := 0) C dX11_isSo_131 (by decide) ?_
                  refine j_goto C 147 dX11_isSo_132 (by decide) ?_
                  exact j_re [1] rfl (L_147 (0 : Int32) hg)
                · refine j_iconst (v := 1) C dX11_isSo_127 (by decide) ?_
                  refine j_goto C 147 dX11_isSo_128 (by decide) ?_
                  exact j_re [1] rfl (L_147 (1 : Int32) hg)
            · refine j_dload_n C dX11_isSo_99 2 rfl rfl ?_
              refine j_dload C dX11_isSo_100 4 rfl ?_
              refine j_dcmp C dX11_isSo_102 ?_
              refine j_if_lt C 110 hg dX11_isSo_103 (by decide) (fun hg => ?_) (fun hg => ?_)
              · refine j_iconst (v := 0) C dX11_isSo_110 (by decide) ?_
                refine j_goto C 147 dX11_isSo_111 (by decide) ?_
                exact j_re [1] rfl (L_147 (0 : Int32) hg)
              · refine j_iconst (v := 1) C dX11_isSo_106 (by decide) ?_
                refine j_goto C 147 dX11_isSo_107 (by decide) ?_
                exact j_re [1] rfl (L_147 (1 : Int32) hg)
          · refine j_dload_n C dX11_isSo_78 2 rfl rfl ?_
            refine j_dload C dX11_isSo_79 4 rfl ?_
            refine j_dcmp C dX11_isSo_81 ?_
            refine j_if_le C 89 hg dX11_isSo_82 (by decide) (fun hg => ?_) (fun hg => ?_)
            · refine j_iconst (v := 0) C dX11_isSo_89 (by decide) ?_
              refine j_goto C 147 dX11_isSo_90 (by decide) ?_
              exact j_re [1] rfl (L_147 (0 : Int32) hg)
            · refine j_iconst (v := 1) C dX11_isSo_85 (by decide) ?_
              refine j_goto C 147 dX11_isSo_86 (by decide) ?_
              exact j_re [1] rfl (L_147 (1 : Int32) hg)
        · refine j_dload_n C dX11_isSo_57 2 rfl rfl ?_
          refine j_dload C dX11_isSo_58 4 rfl ?_
          refine j_dcmp C dX11_isSo_60 ?_
          refine j_if_gt C 68 hg dX11_isSo_61 (by decide) (fun hg => ?_) (fun hg => ?_)
          · refine j_iconst (v := 0) C dX11_isSo_68 (by decide) ?_
            refine j_goto C 147 dX11_isSo_69 (by decide) ?_
            exact j_re [1] rfl (L_147 (0 : Int32) hg)
          · refine j_iconst (v := 1) C dX11_isSo_64 (by decide) ?_
            refine j_goto C 147 dX11_isSo_65 (by decide) ?_
            exact j_re [1] rfl (L_147 (1 : Int32) hg)
      · refine j_dload_n C dX11_isSo_36 2 rfl rfl ?_
        refine j_dload C dX11_isSo_37 4 rfl ?_
        refine j_dcmp C dX11_isSo_39 ?_
        refine j_if_ge C 47 hg dX11_isSo_40 (by decide) (fun hg => ?_) (fun hg => ?_)
        · refine j_iconst (v := 0) C dX11_isSo_47 (by decide) ?_
          refine j_goto C 147 dX11_isSo_48 (by decide) ?_
          exact j_re [1] rfl (L_147 (0 : Int32) hg)
        · refine j_iconst (v := 1) C dX11_isSo_43 (by decide) ?_
          refine j_goto C 147 dX11_isSo_44 (by decide) ?_
          exact j_re [1] rfl (L_147 (1 : Int32) hg)
    · exact j_re [1, 0] rfl (L_15 (x0 - x0 / (6 : Int32) * (6 : Int32)) hg)

def gX11_whole_147 (x0 : UInt64) (x1 : Int32) (v3 : Int64) : Option UInt64 := if (lg_cmp v3 (0 : Int64)) = 0 then ((gX11_hasMinus x0).bind (fun r1 => (gX11_zero r1).bind (fun r2 => some r2))) else (some (FP.l2d v3))
def gX11_whole_145 (x0 : UInt64) (x1 : Int32) (s0 : Int64) (s1 : Int64) : Option UInt64 := gX11_whole_147 x0 x1 (s1 + s0)
def gX11_whole_144 (x0 : UInt64) (x1 : Int32) (s0 : Int64) : Option UInt64 := gX11_whole_145 x0 x1 (0 : Int64) s0
def gX11_whole_138 (x0 : UInt64) (x1 : Int32) (s0 : Int64) : Option UInt64 := gX11_whole_145 x0 x1 (-1 : Int64) s0
def gX11_whole_115 (x0 : UInt64) (x1 : Int32) (v5 : UInt64) (v7 : Int32) (s0 : Int64) : Option UInt64 := if (Op.cmpValue (FP.dcmp v5 (13826050856027422720 : UInt64)) CmpOp.g) < 0 then (gX11_whole_138 x0 x1 s0) else (if (Op.cmpValue (FP.dcmp v5 (13826050856027422720 : UInt64)) CmpOp.l) = 0 then (if v7 = 0 then (gX11_whole_144 x0 x1 s0) else (gX11_whole_138 x0 x1 s0)) else (gX11_whole_144 x0 x1 s0))
def gX11_whole_111 (x0 : UInt64) (x1 : Int32) (s0 : Int64) : Option UInt64 := gX11_whole_145 x0 x1 (1 : Int64) s0
def gX11_whole_85 (x0 : UInt64) (x1 : Int32) (v3 : Int64) (v5 : UInt64) (s0 : Int32) : Option UInt64 := if 0 < (Op.cmpValue (FP.dcmp v5 (4602678819172646912 : UInt64)) CmpOp.l) then (gX11_whole_111 x0 x1 v3) else (if (Op.cmpValue (FP.dcmp v5 (4602678819172646912 : UInt64)) CmpOp.l) = 0 then (if s0 = 0 then (gX11_whole_115 x0 x1 v5 s0 v3) else (gX11_whole_111 x0 x1 v3)) else (gX11_whole_115 x0 x1 v5 s0 v3))
def gX11_whole_67 (x0 : UInt64) (x1 : Int32) (s0 : Int64) (s1 : Int64) : Option UInt64 := gX11_whole_147 x0 x1 (s1 + s0)
def gX11_whole_44 (x0 : UInt64) (x1 : Int32) (s0 : Int64) (s1 : Int64) : Option UInt64 := gX11_whole_147 x0 x1 (s1 - s0)
def gX11_whole (x0 : UInt64) (x1 : Int32) : Option UInt64 := if 0 ≤ (Op.cmpValue (FP.dcmp x0 (4841369599423283200 : UInt64)) CmpOp.l) then (some x0) else (if 0 < (Op.cmpValue (FP.dcmp x0 (14064741636278059008 : UInt64)) CmpOp.g) then (if FP.dIsNaN (FP.dsub x0 (FP.l2d (FP.d2l x0))) = false then (if x1 = 0 then (if 0 ≤ (Op.cmpValue (FP.dcmp (FP.dsub x0 (FP.l2d (FP.d2l x0))) FP.dconst0) CmpOp.g) then (gX11_whole_44 x0 x1 (0 : Int64) (FP.d2l x0)) else (gX11_whole_44 x0 x1 (1 : Int64) (FP.d2l x0))) else (if x1 = (1 : Int32) then (if (Op.cmpValue (FP.dcmp (FP.dsub x0 (FP.l2d (FP.d2l x0))) FP.dconst0) CmpOp.l) ≤ 0 then (gX11_whole_67 x0 x1 (0 : Int64) (FP.d2l x0)) else (gX11_whole_67 x0 x1 (1 : Int64) (FP.d2l x0))) else (if (lg_cmp ((FP.d2l x0) &&& (1 : Int64)) (1 : Int64)) = 0 then (gX11_whole_85 x0 x1 (FP.d2l x0) (FP.dsub x0 (FP.l2d (FP.d2l x0))) (1 : Int32)) else (gX11_whole_85 x0 x1 (FP.d2l x0) (FP.dsub x0 (FP.l2d (FP.d2l x0))) (0 : Int32))))) else none) else (some x0))
theorem hd_X11_whole : yX11_whole.cls ≠ "java/lang/invoke/MethodHandle" ∧ yX11_whole.cls ≠ "java/lang/invoke/VarHandle" ∧ (parseMethodDescriptor yX11_whole.desc).map (fun d => d.parameters.length) = some 2 := by decide +kernel
set_option maxHeartbeats 4000000 in
set_option maxRecDepth 100000 in
theorem tX11_whole {G : GG} {l : Launch} {z N : Nat} {ct : Nat → va_E} (x0 : UInt64) (x1 : Int32) {r : UInt64} (hg : gX11_whole x0 x1 = some r) : Ct G l yX11_whole cX11_whole 8 (some .double) ({ frames := 2, cells := 0, slots := 0, locals := 42 } : Room) [.double x0, .int x1] z ct N (some (.double r)) ct N := by
  refine Ct.of (lv := [(0, .double x0), (2, .int x1)]) (by decide +kernel) (Nat.le_of_ble_eq_true rfl) rfl (fun p e s m args below meth c C => ?_)
  have L_147 : ∀ (v3 : Int64), gX11_whole_147 x0 x1 v3 = some r → J G p l e ({ frames := 2, cells := 0, slots := 0, locals := 42 } : Room) s m args below meth c z 8 (MQ below (Qd G z (some (.double r)) ct N) args s 0 0 (zA z)) ct N 0 0 147 [(0, .double x0), (3, .long v3)] [] := by
    intro v3 hg
    rw [gX11_whole_147] at hg
    refine j_lload_n C dX11_whole_147 1 rfl rfl ?_
    refine j_lconst (v := 0) C dX11_whole_148 (by decide) ?_
    refine j_lcmp C dX11_whole_149 ?_
    refine j_if_ne C 163 hg dX11_whole_150 (by decide) (fun hg => ?_) (fun hg => ?_)
    · refine j_lload_n C dX11_whole_163 1 rfl rfl ?_
      refine j_l2d C dX11_whole_164 ?_
      exact j_dret C dX11_whole_165 (by rw [← Option.some.inj hg]) rfl rfl
    · refine j_dload_n C dX11_whole_153 0 rfl rfl ?_
      obtain ⟨r1, hr1, hg⟩ := ob hg
      refine j_callS C [.double x0] (tX11_hasMinus x0 hr1) q4_24 q1_6 q4_23 q4_22 hd_X11_hasMinus rfl dX11_whole_154 rfl (Nat.le_of_ble_eq_true rfl) ⟨(Nat.le_of_ble_eq_true rfl), (Nat.le_of_ble_eq_true rfl)⟩ ⟨(Nat.le_of_ble_eq_true rfl), (Nat.le_of_ble_eq_true rfl)⟩ ?_
      obtain ⟨r2, hr2, hg⟩ := ob hg
      refine j_callS C [.int r1] (tX11_zero r1 hr2) q4_38 q1_6 q4_37 q4_36 hd_X11_zero rfl dX11_whole_157 rfl (Nat.le_of_ble_eq_true rfl) ⟨(Nat.le_of_ble_eq_true rfl), (Nat.le_of_ble_eq_true rfl)⟩ ⟨(Nat.le_of_ble_eq_true rfl), (Nat.le_of_ble_eq_true rfl)⟩ ?_
      refine j_goto C 165 dX11_whole_160 (by decide) ?_
      exact j_dret C dX11_whole_165 (by rw [← Option.some.inj hg]) rfl rfl
  have L_145 : ∀ (s0 : Int64) (s1 : Int64), gX11_whole_145 x0 x1 s0 s1 = some r → J G p l e ({ frames := 2, cells := 0, slots := 0, locals := 42 } : Room) s m args below meth c z 8 (MQ below (Qd G z (some (.double r)) ct N) args s 0 0 (zA z)) ct N 0 0 145 [(0, .double x0)] [.long s0, .long s1] := by
    intro s0 s1 hg
    rw [gX11_whole_145] at hg
    refine j_ladd C dX11_whole_145 ?_
    refine j_lstore_n C [(3, .long (s1 + s0)), (0, .double x0)] dX11_whole_146 rfl (by decide) rfl ?_
    exact j_re [1, 0] rfl (L_147 (s1 + s0) hg)
  have L_144 : ∀ (s0 : Int64), gX11_whole_144 x0 x1 s0 = some r → J G p l e ({ frames := 2, cells := 0, slots := 0, locals := 42 } : Room) s m args below meth c z 8 (MQ below (Qd G z (some (.double r)) ct N) args s 0 0 (zA z)) ct N 0 0 144 [(0, .double x0)] [.long s0] := by
    intro s0 hg
    rw [gX11_whole_144] at hg
    refine j_lconst (v := 0) C dX11_whole_144 (by decide) ?_
    exact L_145 (0 : Int64) s0 hg
  have L_138 : ∀ (s0 : Int64), gX11_whole_138 x0 x1 s0 = some r → J G p l e ({ frames := 2, cells := 0, slots := 0, locals := 42 } : Room) s m args below meth c z 8 (MQ below (Qd G z (some (.double r)) ct N) args s 0 0 (zA z)) ct N 0 0 138 [(0, .double x0)] [.long s0] := by
    intro s0 hg
    rw [gX11_whole_138] at hg
    refine j_ldc2 C q4_35 dX11_whole_138 ?_
    refine j_goto C 145 dX11_whole_141 (by decide) ?_
    exact L_145 (-1 : Int64) s0 hg
  have L_115 : ∀ (v5 : UInt64) (v7 : Int32) (s0 : Int64), gX11_whole_115 x0 x1 v5 v7 s0 = some r → J G p l e ({ frames := 2, cells := 0, slots := 0, locals := 42 } : Room) s m args below meth c z 8 (MQ below (Qd G z (some (.double r)) ct N) args s 0 0 (zA z)) ct N 0 0 115 [(0, .double x0), (5, .double v5), (7, .int v7)] [.long s0] := by
    intro v5 v7 s0 hg
    rw [gX11_whole_115] at hg
    refine j_dload C dX11_whole_115 1 rfl ?_
    refine j_ldc2d C q4_34 dX11_whole_117 ?_
    refine j_dcmp C dX11_whole_120 ?_
    refine j_if_lt C 138 hg dX11_whole_121 (by decide) (fun hg => ?_) (fun hg => ?_)
    · exact j_re [0] rfl (L_138 s0 hg)
    · refine j_dload C dX11_whole_124 1 rfl ?_
      refine j_ldc2d C q4_34 dX11_whole_126 ?_
      refine j_dcmp C dX11_whole_129 ?_
      refine j_if_ne C 144 hg dX11_whole_130 (by decide) (fun hg => ?_) (fun hg => ?_)
      · exact j_re [0] rfl (L_144 s0 hg)
      · refine j_iload C dX11_whole_133 2 rfl ?_
        refine j_if_eq C 144 hg dX11_whole_135 (by decide) (fun hg => ?_) (fun hg => ?_)
        · exact j_re [0] rfl (L_144 s0 hg)
        · exact j_re [0] rfl (L_138 s0 hg)
  have L_111 : ∀ (s0 : Int64), gX11_whole_111 x0 x1 s0 = some r → J G p l e ({ frames := 2, cells := 0, slots := 0, locals := 42 } : Room) s m args below meth c z 8 (MQ below (Qd G z (some (.double r)) ct N) args s 0 0 (zA z)) ct N 0 0 111 [(0, .double x0)] [.long s0] := by
    intro s0 hg
    rw [gX11_whole_111] at hg
    refine j_lconst (v := 1) C dX11_whole_111 (by decide) ?_
    refine j_goto C 145 dX11_whole_112 (by decide) ?_
    exact L_145 (1 : Int64) s0 hg
  have L_85 : ∀ (v3 : Int64) (v5 : UInt64) (s0 : Int32), gX11_whole_85 x0 x1 v3 v5 s0 = some r → J G p l e ({ frames := 2, cells := 0, slots := 0, locals := 42 } : Room) s m args below meth c z 8 (MQ below (Qd G z (some (.double r)) ct N) args s 0 0 (zA z)) ct N 0 0 85 [(0, .double x0), (3, .long v3), (5, .double v5)] [.int s0] := by
    intro v3 v5 s0 hg
    rw [gX11_whole_85] at hg
    refine j_istore C [(7, .int s0), (0, .double x0), (3, .long v3), (5, .double v5)] dX11_whole_85 (by decide) rfl ?_
    refine j_lload_n C dX11_whole_87 2 rfl rfl ?_
    refine j_dload C dX11_whole_88 3 rfl ?_
    refine j_ldc2d C q4_33 dX11_whole_90 ?_
    refine j_dcmp C dX11_whole_93 ?_
    refine j_if_gt C 111 hg dX11_whole_94 (by decide) (fun hg => ?_) (fun hg => ?_)
    · exact j_re [1] rfl (L_111 v3 hg)
    · refine j_dload C dX11_whole_97 3 rfl ?_
      refine j_ldc2d C q4_33 dX11_whole_99 ?_
      refine j_dcmp C dX11_whole_102 ?_
      refine j_if_ne C 115 hg dX11_whole_103 (by decide) (fun hg => ?_) (fun hg => ?_)
      · exact j_re [1, 3, 0] rfl (L_115 v5 s0 v3 hg)
      · refine j_iload C dX11_whole_106 0 rfl ?_
        refine j_if_eq C 115 hg dX11_whole_108 (by decide) (fun hg => ?_) (fun hg => ?_)
        · exact j_re [1, 3, 0] rfl (L_115 v5 s0 v3 hg)
        · exact j_re [1] rfl (L_111 v3 hg)
  have L_67 : ∀ (s0 : Int64) (s1 : Int64), gX11_whole_67 x0 x1 s0 s1 = some r → J G p l e ({ frames := 2, cells := 0, slots := 0, locals := 42 } : Room) s m args below meth c z 8 (MQ below (Qd G z (some (.double r)) ct N) args s 0 0 (zA z)) ct N 0 0 67 [(0, .double x0)] [.long s0, .long s1] := by
    intro s0 s1 hg
    rw [gX11_whole_67] at hg
    refine j_ladd C dX11_whole_67 ?_
    refine j_lstore_n C [(3, .long (s1 + s0)), (0, .double x0)] dX11_whole_68 rfl (by decide) rfl ?_
    refine j_goto C 147 dX11_whole_69 (by decide) ?_
    exact j_re [1, 0] rfl (L_147 (s1 + s0) hg)
  have L_44 : ∀ (s0 : Int64) (s1 : Int64), gX11_whole_44 x0 x1 s0 s1 = some r → J G p l e ({ frames := 2, cells := 0, slots := 0, locals := 42 } : Room) s m args below meth c z 8 (MQ below (Qd G z (some (.double r)) ct N) args s 0 0 (zA z)) ct N 0 0 44 [(0, .double x0)] [.long s0, .long s1] := by
    intro s0 s1 hg
    rw [gX11_whole_44] at hg
    refine j_lsub C dX11_whole_44 ?_
    refine j_lstore_n C [(3, .long (s1 - s0)), (0, .double x0)] dX11_whole_45 rfl (by decide) rfl ?_
    refine j_goto C 147 dX11_whole_46 (by decide) ?_
    exact j_re [1, 0] rfl (L_147 (s1 - s0) hg)
  rw [gX11_whole] at hg
  refine j_dload_n C dX11_whole_0 0 rfl rfl ?_
  refine j_ldc2d C q4_31 dX11_whole_1 ?_
  refine j_dcmp C dX11_whole_4 ?_
  refine j_if_ge C 16 hg dX11_whole_5 (by decide) (fun hg => ?_) (fun hg => ?_)
  · refine j_dload_n C dX11_whole_16 0 rfl rfl ?_
    exact j_dret C dX11_whole_17 (by rw [← Option.some.inj hg]) rfl rfl
  · refine j_dload_n C dX11_whole_8 0 rfl rfl ?_
    refine j_ldc2d C q4_32 dX11_whole_9 ?_
    refine j_dcmp C dX11_whole_12 ?_
    refine j_if_gt C 18 hg dX11_whole_13 (by decide) (fun hg => ?_) (fun hg => ?_)
    · refine j_dload_n C dX11_whole_18 0 rfl rfl ?_
      refine j_d2l C dX11_whole_19 ?_
      refine j_lstore_n C [(3, .long (FP.d2l x0)), (0, .double x0), (2, .int x1)] dX11_whole_20 rfl (by decide) rfl ?_
      refine j_dload_n C dX11_whole_21 1 rfl rfl ?_
      refine j_lload_n C dX11_whole_22 0 rfl rfl ?_
      refine j_l2d C dX11_whole_23 ?_
      refine j_dsub C hg dX11_whole_24 (fun hg => ?_)
      refine j_dstore C [(5, .double (FP.dsub x0 (FP.l2d (FP.d2l x0)))), (3, .long (FP.d2l x0)), (0, .double x0), (2, .int x1)] dX11_whole_25 (by decide) rfl ?_
      refine j_iload_n C dX11_whole_27 3 rfl rfl ?_
      refine j_if_ne C 49 hg dX11_whole_28 (by decide) (fun hg => ?_) (fun hg => ?_)
      · refine j_iload_n C dX11_whole_49 3 rfl rfl ?_
        refine j_iconst (v := 1) C dX11_whole_50 (by decide) ?_
        refine j_icmp_ne C 72 hg dX11_whole_51 (by decide) (fun hg => ?_) (fun hg => ?_)
        · refine j_lload_n C dX11_whole_72 1 rfl rfl ?_
          refine j_lconst (v := 1) C dX11_whole_73 (by decide) ?_
          refine j_land C dX11_whole_74 ?_
          refine j_lconst (v := 1) C dX11_whole_75 (by decide) ?_
          refine j_lcmp C dX11_whole_76 ?_
          refine j_if_ne C 84 hg dX11_whole_77 (by decide) (fun hg => ?_) (fun hg => ?_)
          · refine j_iconst (v := 0) C dX11_whole_84 (by decide) ?_
            exact j_re [2, 1, 0] rfl (L_85 (FP.d2l x0) (FP.dsub x0 (FP.l2d (FP.d2l x0))) (0 : Int32) hg)
          · refine j_iconst (v := 1) C dX11_whole_80 (by decide) ?_
            refine j_goto C 85 dX11_whole_81 (by decide) ?_
            exact j_re [2, 1, 0] rfl (L_85 (FP.d2l x0) (FP.dsub x0 (FP.l2d (FP.d2l x0))) (1 : Int32) hg)
        · refine j_lload_n C dX11_whole_54 1 rfl rfl ?_
          refine j_dload C dX11_whole_55 0 rfl ?_
          refine j_dconst0 C dX11_whole_57 ?_
          refine j_dcmp C dX11_whole_58 ?_
          refine j_if_le C 66 hg dX11_whole_59 (by decide) (fun hg => ?_) (fun hg => ?_)
          · refine j_lconst (v := 0) C dX11_whole_66 (by decide) ?_
            exact j_re [2] rfl (L_67 (0 : Int64) (FP.d2l x0) hg)
          · refine j_lconst (v := 1) C dX11_whole_62 (by decide) ?_
            refine j_goto C 67 dX11_whole_63 (by decide) ?_
            exact j_re [2] rfl (L_67 (1 : Int64) (FP.d2l x0) hg)
      · refine j_lload_n C dX11_whole_31 1 rfl rfl ?_
        refine j_dload C dX11_whole_32 0 rfl ?_
        refine j_dconst0 C dX11_whole_34 ?_
        refine j_dcmp C dX11_whole_35 ?_
        refine j_if_ge C 43 hg dX11_whole_36 (by decide) (fun hg => ?_) (fun hg => ?_)
        · refine j_lconst (v := 0) C dX11_whole_43 (by decide) ?_
          exact j_re [2] rfl (L_44 (0 : Int64) (FP.d2l x0) hg)
        · refine j_lconst (v := 1) C dX11_whole_39 (by decide) ?_
          refine j_goto C 44 dX11_whole_40 (by decide) ?_
          exact j_re [2] rfl (L_44 (1 : Int64) (FP.d2l x0) hg)
    · refine j_dload_n C dX11_whole_16 0 rfl rfl ?_
      exact j_dret C dX11_whole_17 (by rw [← Option.some.inj hg]) rfl rfl

def gX11_sum (x0 : UInt64) (x1 : UInt64) (x2 : Int32) : Option UInt64 := if x2 = 0 then (if FP.dIsNaN (FP.dadd x0 x1) = false then (some (FP.dadd x0 x1)) else none) else (if FP.fIsNaN (FP.d2f x0) = false then (if FP.fIsNaN (FP.d2f x1) = false then (if FP.fIsNaN (FP.fadd (FP.d2f x0) (FP.d2f x1)) = false then (if FP.dIsNaN (FP.f2d (FP.fadd (FP.d2f x0) (FP.d2f x1))) = false then (some (FP.f2d (FP.fadd (FP.d2f x0) (FP.d2f x1)))) else none) else none) else none) else none)
theorem hd_X11_sum : yX11_sum.cls ≠ "java/lang/invoke/MethodHandle" ∧ yX11_sum.cls ≠ "java/lang/invoke/VarHandle" ∧ (parseMethodDescriptor yX11_sum.desc).map (fun d => d.parameters.length) = some 3 := by decide +kernel
set_option maxHeartbeats 4000000 in
set_option maxRecDepth 100000 in
theorem tX11_sum {G : GG} {l : Launch} {z N : Nat} {ct : Nat → va_E} (x0 : UInt64) (x1 : UInt64) (x2 : Int32) {r : UInt64} (hg : gX11_sum x0 x1 x2 = some r) : Ct G l yX11_sum cX11_sum 5 (some .double) ({ frames := 0, cells := 0, slots := 0, locals := 0 } : Room) [.double x0, .double x1, .int x2] z ct N (some (.double r)) ct N := by
  refine Ct.of (lv := [(0, .double x0), (2, .double x1), (4, .int x2)]) (by decide +kernel) (Nat.le_of_ble_eq_true rfl) rfl (fun p e s m args below meth c C => ?_)
  rw [gX11_sum] at hg
  refine j_iload C dX11_sum_0 2 rfl ?_
  refine j_if_eq C 14 hg dX11_sum_2 (by decide) (fun hg => ?_) (fun hg => ?_)
  · refine j_dload_n C dX11_sum_14 0 rfl rfl ?_
    refine j_dload_n C dX11_sum_15 1 rfl rfl ?_
    refine j_dadd C hg dX11_sum_16 (fun hg => ?_)
    exact j_dret C dX11_sum_17 (by rw [← Option.some.inj hg]) rfl rfl
  · refine j_dload_n C dX11_sum_5 0 rfl rfl ?_
    refine j_d2f C hg dX11_sum_6 (fun hg => ?_)
    refine j_dload_n C dX11_sum_7 1 rfl rfl ?_
    refine j_d2f C hg dX11_sum_8 (fun hg => ?_)
    refine j_fadd C hg dX11_sum_9 (fun hg => ?_)
    refine j_f2d C hg dX11_sum_10 (fun hg => ?_)
    refine j_goto C 17 dX11_sum_11 (by decide) ?_
    exact j_dret C dX11_sum_17 (by rw [← Option.some.inj hg]) rfl rfl

def gX11_product (x0 : UInt64) (x1 : UInt64) (x2 : Int32) : Option UInt64 := if x2 = 0 then (if FP.dIsNaN (FP.dmul x0 x1) = false then (some (FP.dmul x0 x1)) else none) else (if FP.fIsNaN (FP.d2f x0) = false then (if FP.fIsNaN (FP.d2f x1) = false then (if FP.fIsNaN (FP.fmul (FP.d2f x0) (FP.d2f x1)) = false then (if FP.dIsNaN (FP.f2d (FP.fmul (FP.d2f x0) (FP.d2f x1))) = false then (some (FP.f2d (FP.fmul (FP.d2f x0) (FP.d2f x1)))) else none) else none) else none) else none)
theorem hd_X11_product : yX11_product.cls ≠ "java/lang/invoke/MethodHandle" ∧ yX11_product.cls ≠ "java/lang/invoke/VarHandle" ∧ (parseMethodDescriptor yX11_product.desc).map (fun d => d.parameters.length) = some 3 := by decide +kernel
set_option maxHeartbeats 4000000 in
set_option maxRecDepth 100000 in
theorem tX11_product {G : GG} {l : Launch} {z N : Nat} {ct : Nat → va_E} (x0 : UInt64) (x1 : UInt64) (x2 : Int32) {r : UInt64} (hg : gX11_product x0 x1 x2 = some r) : Ct G l yX11_product cX11_product 5 (some .double) ({ frames := 0, cells := 0, slots := 0, locals := 0 } : Room) [.double x0, .double x1, .int x2] z ct N (some (.double r)) ct N := by
  refine Ct.of (lv := [(0, .double x0), (2, .double x1), (4, .int x2)]) (by decide +kernel) (Nat.le_of_ble_eq_true rfl) rfl (fun p e s m args below meth c C => ?_)
  rw [gX11_product] at hg
  refine j_iload C dX11_product_0 2 rfl ?_
  refine j_if_eq C 14 hg dX11_product_2 (by decide) (fun hg => ?_) (fun hg => ?_)
  · refine j_dload_n C dX11_product_14 0 rfl rfl ?_
    refine j_dload_n C dX11_product_15 1 rfl rfl ?_
    refine j_dmul C hg dX11_product_16 (fun hg => ?_)
    exact j_dret C dX11_product_17 (by rw [← Option.some.inj hg]) rfl rfl
  · refine j_dload_n C dX11_product_5 0 rfl rfl ?_
    refine j_d2f C hg dX11_product_6 (fun hg => ?_)
    refine j_dload_n C dX11_product_7 1 rfl rfl ?_
    refine j_d2f C hg dX11_product_8 (fun hg => ?_)
    refine j_fmul C hg dX11_product_9 (fun hg => ?_)
    refine j_f2d C hg dX11_product_10 (fun hg => ?_)
    refine j_goto C 17 dX11_product_11 (by decide) ?_
    exact j_dret C dX11_product_17 (by rw [← Option.some.inj hg]) rfl rfl

def gX11_quotient (x0 : UInt64) (x1 : UInt64) (x2 : Int32) : Option UInt64 := if x2 = 0 then (if FP.dIsNaN (FP.ddiv x0 x1) = false then (some (FP.ddiv x0 x1)) else none) else (if FP.fIsNaN (FP.d2f x0) = false then (if FP.fIsNaN (FP.d2f x1) = false then (if FP.fIsNaN (FP.fdiv (FP.d2f x0) (FP.d2f x1)) = false then (if FP.dIsNaN (FP.f2d (FP.fdiv (FP.d2f x0) (FP.d2f x1))) = false then (some (FP.f2d (FP.fdiv (FP.d2f x0) (FP.d2f x1)))) else none) else none) else none) else none)
theorem hd_X11_quotient : yX11_quotient.cls ≠ "java/lang/invoke/MethodHandle" ∧ yX11_quotient.cls ≠ "java/lang/invoke/VarHandle" ∧ (parseMethodDescriptor yX11_quotient.desc).map (fun d => d.parameters.length) = some 3 := by decide +kernel
set_option maxHeartbeats 4000000 in
set_option maxRecDepth 100000 in
theorem tX11_quotient {G : GG} {l : Launch} {z N : Nat} {ct : Nat → va_E} (x0 : UInt64) (x1 : UInt64) (x2 : Int32) {r : UInt64} (hg : gX11_quotient x0 x1 x2 = some r) : Ct G l yX11_quotient cX11_quotient 5 (some .double) ({ frames := 0, cells := 0, slots := 0, locals := 0 } : Room) [.double x0, .double x1, .int x2] z ct N (some (.double r)) ct N := by
  refine Ct.of (lv := [(0, .double x0), (2, .double x1), (4, .int x2)]) (by decide +kernel) (Nat.le_of_ble_eq_true rfl) rfl (fun p e s m args below meth c C => ?_)
  rw [gX11_quotient] at hg
  refine j_iload C dX11_quotient_0 2 rfl ?_
  refine j_if_eq C 14 hg dX11_quotient_2 (by decide) (fun hg => ?_) (fun hg => ?_)
  · refine j_dload_n C dX11_quotient_14 0 rfl rfl ?_
    refine j_dload_n C dX11_quotient_15 1 rfl rfl ?_
    refine j_ddiv C hg dX11_quotient_16 (fun hg => ?_)
    exact j_dret C dX11_quotient_17 (by rw [← Option.some.inj hg]) rfl rfl
  · refine j_dload_n C dX11_quotient_5 0 rfl rfl ?_
    refine j_d2f C hg dX11_quotient_6 (fun hg => ?_)
    refine j_dload_n C dX11_quotient_7 1 rfl rfl ?_
    refine j_d2f C hg dX11_quotient_8 (fun hg => ?_)
    refine j_fdiv C hg dX11_quotient_9 (fun hg => ?_)
    refine j_f2d C hg dX11_quotient_10 (fun hg => ?_)
    refine j_goto C 17 dX11_quotient_11 (by decide) ?_
    exact j_dret C dX11_quotient_17 (by rw [← Option.some.inj hg]) rfl rfl

def gX11_power_27 (x0 : Int32) (x1 : Int32) (k27 : UInt64 → Int32 → Option UInt64) (v2 : UInt64) (v4 : Int32) : Option UInt64 := if v4 ≤ x1 then (some v2) else (if FP.dIsNaN (FP.ddiv v2 (4611686018427387904 : UInt64)) = false then (k27 (FP.ddiv v2 (4611686018427387904 : UInt64)) (v4 + (-1 : Int32))) else none)
def gX11_power_6 (x0 : Int32) (x1 : Int32) (k6 : UInt64 → Int32 → Option UInt64) (v2 : UInt64) (v4 : Int32) : Option UInt64 := if x1 ≤ v4 then (lq2 (gX11_power_27 x0 x1) 1100 v2 (0 : Int32)) else (if FP.dIsNaN (FP.dmul v2 (4611686018427387904 : UInt64)) = false then (k6 (FP.dmul v2 (4611686018427387904 : UInt64)) (v4 + (1 : Int32))) else none)
def gX11_power (x0 : Int32) (x1 : Int32) : Option UInt64 := lq2 (gX11_power_6 x0 x1) 1100 (FP.i2d x0) (0 : Int32)
theorem hd_X11_power : yX11_power.cls ≠ "java/lang/invoke/MethodHandle" ∧ yX11_power.cls ≠ "java/lang/invoke/VarHandle" ∧ (parseMethodDescriptor yX11_power.desc).map (fun d => d.parameters.length) = some 2 := by decide +kernel
set_option maxHeartbeats 4000000 in
set_option maxRecDepth 100000 in
theorem tX11_power {G : GG} {l : Launch} {z N : Nat} {ct : Nat → va_E} (x0 : Int32) (x1 : Int32) {r : UInt64} (hg : gX11_power x0 x1 = some r) : Ct G l yX11_power cX11_power 5 (some .double) ({ frames := 0, cells := 0, slots := 0, locals := 0 } : Room) [.int x0, .int x1] z ct N (some (.double r)) ct N := by
  refine Ct.of (lv := [(0, .int x0), (1, .int x1)]) (by decide +kernel) (Nat.le_of_ble_eq_true rfl) rfl (fun p e s m args below meth c C => ?_)
  have L_27 : ∀ (n27 : Nat) (v2 : UInt64) (v4 : Int32), lq2 (gX11_power_27 x0 x1) n27 v2 v4 = some r → J G p l e ({ frames := 0, cells := 0, slots := 0, locals := 0 } : Room) s m args below meth c z 5 (MQ below (Qd G z (some (.double r)) ct N) args s 0 0 (zA z)) ct N 0 0 27 [(1, .int x1), (2, .double v2), (4, .int v4)] [] := by
    intro n27
    induction n27 with
    | zero => intro v2 v4 hg; cases hg
    | succ n27 ih27 =>
      intro v2 v4 hg
      replace hg : gX11_power_27 x0 x1 (lq2 (gX11_power_27 x0 x1) n27) v2 v4 = some r := hg
      rw [gX11_power_27] at hg
      refine j_iload C dX11_power_27 2 rfl ?_
      refine j_iload_n C dX11_power_29 0 rfl rfl ?_
      refine j_icmp_le C 45 hg dX11_power_30 (by decide) (fun hg => ?_) (fun hg => ?_)
      · refine j_dload_n C dX11_power_45 1 rfl rfl ?_
        exact j_dret C dX11_power_46 (by rw [← Option.some.inj hg]) rfl rfl
      · refine j_dload_n C dX11_power_33 1 rfl rfl ?_
        refine j_ldc2d C q3_184 dX11_power_34 ?_
        refine j_ddiv C hg dX11_power_37 (fun hg => ?_)
        refine j_dstore_n C [(2, .double (FP.ddiv v2 (4611686018427387904 : UInt64))), (1, .int x1), (4, .int v4)] dX11_power_38 rfl (by decide) rfl ?_
        refine j_iinc C [(4, .int (v4 + (-1 : Int32))), (2, .double (FP.ddiv v2 (4611686018427387904 : UInt64))), (1, .int x1)] dX11_power_39 2 rfl rfl (by decide) rfl ?_
        refine j_goto C 27 dX11_power_42 (by decide) ?_
        exact j_re [2, 1, 0] rfl (ih27 (FP.ddiv v2 (4611686018427387904 : UInt64)) (v4 + (-1 : Int32)) hg)
  have L_6 : ∀ (n6 : Nat) (v2 : UInt64) (v4 : Int32), lq2 (gX11_power_6 x0 x1) n6 v2 v4 = some r → J G p l e ({ frames := 0, cells := 0, slots := 0, locals := 0 } : Room) s m args below meth c z 5 (MQ below (Qd G z (some (.double r)) ct N) args s 0 0 (zA z)) ct N 0 0 6 [(1, .int x1), (2, .double v2), (4, .int v4)] [] := by
    intro n6
    induction n6 with
    | zero => intro v2 v4 hg; cases hg
    | succ n6 ih6 =>
      intro v2 v4 hg
      replace hg : gX11_power_6 x0 x1 (lq2 (gX11_power_6 x0 x1) n6) v2 v4 = some r := hg
      rw [gX11_power_6] at hg
      refine j_iload C dX11_power_6 2 rfl ?_
      refine j_iload_n C dX11_power_8 0 rfl rfl ?_
      refine j_icmp_ge C 24 hg dX11_power_9 (by decide) (fun hg => ?_) (fun hg => ?_)
      · refine j_iconst (v := 0) C dX11_power_24 (by decide) ?_
        refine j_istore C [(4, .int (0 : Int32)), (1, .int x1), (2, .double v2)] dX11_power_25 (by decide) rfl ?_
        exact j_re [1, 2, 0] rfl (L_27 1100 v2 (0 : Int32) hg)
      · refine j_dload_n C dX11_power_12 1 rfl rfl ?_
        refine j_ldc2d C q3_184 dX11_power_13 ?_
        refine j_dmul C hg dX11_power_16 (fun hg => ?_)
        refine j_dstore_n C [(2, .double (FP.dmul v2 (4611686018427387904 : UInt64))), (1, .int x1), (4, .int v4)] dX11_power_17 rfl (by decide) rfl ?_
        refine j_iinc C [(4, .int (v4 + (1 : Int32))), (2, .double (FP.dmul v2 (4611686018427387904 : UInt64))), (1, .int x1)] dX11_power_18 2 rfl rfl (by decide) rfl ?_
        refine j_goto C 6 dX11_power_21 (by decide) ?_
        exact j_re [2, 1, 0] rfl (ih6 (FP.dmul v2 (4611686018427387904 : UInt64)) (v4 + (1 : Int32)) hg)
  rw [gX11_power] at hg
  refine j_iload_n C dX11_power_0 0 rfl rfl ?_
  refine j_i2d C dX11_power_1 ?_
  refine j_dstore_n C [(2, .double (FP.i2d x0)), (0, .int x0), (1, .int x1)] dX11_power_2 rfl (by decide) rfl ?_
  refine j_iconst (v := 0) C dX11_power_3 (by decide) ?_
  refine j_istore C [(4, .int (0 : Int32)), (2, .double (FP.i2d x0)), (0, .int x0), (1, .int x1)] dX11_power_4 (by decide) rfl ?_
  exact j_re [3, 1, 0] rfl (L_6 1100 (FP.i2d x0) (0 : Int32) hg)

def gX11_at (x0 : Int32) (x1 : Int32) : Option Int32 := if x0 < (16 : Int32) then (some (((16 : Int32) * x0) + x1)) else (some (((192 : Int32) + x0) - (16 : Int32)))
theorem hd_X11_at : yX11_at.cls ≠ "java/lang/invoke/MethodHandle" ∧ yX11_at.cls ≠ "java/lang/invoke/VarHandle" ∧ (parseMethodDescriptor yX11_at.desc).map (fun d => d.parameters.length) = some 2 := by decide +kernel
set_option maxHeartbeats 4000000 in
set_option maxRecDepth 100000 in
theorem tX11_at {G : GG} {l : Launch} {z N : Nat} {ct : Nat → va_E} (x0 : Int32) (x1 : Int32) {r : Int32} (hg : gX11_at x0 x1 = some r) : Ct G l yX11_at cX11_at 2 (some .int) ({ frames := 0, cells := 0, slots := 0, locals := 0 } : Room) [.int x0, .int x1] z ct N (some (.int r)) ct N := by
  refine Ct.of (lv := [(0, .int x0), (1, .int x1)]) (by decide +kernel) (Nat.le_of_ble_eq_true rfl) rfl (fun p e s m args below meth c C => ?_)
  rw [gX11_at] at hg
  refine j_iload_n C dX11_at_0 0 rfl rfl ?_
  refine j_bipush (v := 16) C dX11_at_1 (by decide) ?_
  refine j_icmp_lt C 17 hg dX11_at_3 (by decide) (fun hg => ?_) (fun hg => ?_)
  · refine j_bipush (v := 16) C dX11_at_17 (by decide) ?_
    refine j_iload_n C dX11_at_19 0 rfl rfl ?_
    refine j_imul C dX11_at_20 ?_
    refine j_iload_n C dX11_at_21 1 rfl rfl ?_
    refine j_iadd C dX11_at_22 ?_
    exact j_iret C dX11_at_23 (by rw [← Option.some.inj hg]) rfl rfl
  · refine j_sipush (v := 192) C dX11_at_6 (by decide) ?_
    refine j_iload_n C dX11_at_9 0 rfl rfl ?_
    refine j_iadd C dX11_at_10 ?_
    refine j_bipush (v := 16) C dX11_at_11 (by decide) ?_
    refine j_isub C dX11_at_13 ?_
    refine j_goto C 23 dX11_at_14 (by decide) ?_
    exact j_iret C dX11_at_23 (by rw [← Option.some.inj hg]) rfl rfl

def gX11_manyBits_4 (x0 : Int32) (k4 : Int32 → Int32 → Option Int32) (v1 : Int32) (v2 : Int32) : Option Int32 := if (16 : Int32) ≤ v2 then (some v1) else (k4 (v1 + ((x0 >>> (v2 &&& 31)) &&& (1 : Int32))) (v2 + (1 : Int32)))
def gX11_manyBits (x0 : Int32) : Option Int32 := lq2 (gX11_manyBits_4 x0) 20 (0 : Int32) (0 : Int32)
theorem hd_X11_manyBits : yX11_manyBits.cls ≠ "java/lang/invoke/MethodHandle" ∧ yX11_manyBits.cls ≠ "java/lang/invoke/VarHandle" ∧ (parseMethodDescriptor yX11_manyBits.desc).map (fun d => d.parameters.length) = some 1 := by decide +kernel
set_option maxHeartbeats 4000000 in
set_option maxRecDepth 100000 in
theorem tX11_manyBits {G : GG} {l : Launch} {z N : Nat} {ct : Nat → va_E} (x0 : Int32) {r : Int32} (hg : gX11_manyBits x0 = some r) : Ct G l yX11_manyBits cX11_manyBits 3 (some .int) ({ frames := 0, cells := 0, slots := 0, locals := 0 } : Room) [.int x0] z ct N (some (.int r)) ct N := by
  refine Ct.of (lv := [(0, .int x0)]) (by decide +kernel) (Nat.le_of_ble_eq_true rfl) rfl (fun p e s m args below meth c C => ?_)
  have L_4 : ∀ (n4 : Nat) (v1 : Int32) (v2 : Int32), lq2 (gX11_manyBits_4 x0) n4 v1 v2 = some r → J G p l e ({ frames := 0, cells := 0, slots := 0, locals := 0 } : Room) s m args below meth c z 3 (MQ below (Qd G z (some (.int r)) ct N) args s 0 0 (zA z)) ct N 0 0 4 [(0, .int x0), (1, .int v1), (2, .int v2)] [] := by
    intro n4
    induction n4 with
    | zero => intro v1 v2 hg; cases hg
    | succ n4 ih4 =>
      intro v1 v2 hg
      replace hg : gX11_manyBits_4 x0 (lq2 (gX11_manyBits_4 x0) n4) v1 v2 = some r := hg
      rw [gX11_manyBits_4] at hg
      refine j_iload_n C dX11_manyBits_4 2 rfl rfl ?_
      refine j_bipush (v := 16) C dX11_manyBits_5 (by decide) ?_
      refine j_icmp_ge C 24 hg dX11_manyBits_7 (by decide) (fun hg => ?_) (fun hg => ?_)
      · refine j_iload_n C dX11_manyBits_24 1 rfl rfl ?_
        exact j_iret C dX11_manyBits_25 (by rw [← Option.some.inj hg]) rfl rfl
      · refine j_iload_n C dX11_manyBits_10 1 rfl rfl ?_
        refine j_iload_n C dX11_manyBits_11 0 rfl rfl ?_
        refine j_iload_n C dX11_manyBits_12 2 rfl rfl ?_
        refine j_ishr C dX11_manyBits_13 ?_
        refine j_iconst (v := 1) C dX11_manyBits_14 (by decide) ?_
        refine j_iand C dX11_manyBits_15 ?_
        refine j_iadd C dX11_manyBits_16 ?_
        refine j_istore_n C [(1, .int (v1 + ((x0 >>> (v2 &&& 31)) &&& (1 : Int32)))), (0, .int x0), (2, .int v2)] dX11_manyBits_17 rfl (by decide) rfl ?_
        refine j_iinc C [(2, .int (v2 + (1 : Int32))), (1, .int (v1 + ((x0 >>> (v2 &&& 31)) &&& (1 : Int32)))), (0, .int x0)] dX11_manyBits_18 2 rfl rfl (by decide) rfl ?_
        refine j_goto C 4 dX11_manyBits_21 (by decide) ?_
        exact j_re [2, 1, 0] rfl (ih4 (v1 + ((x0 >>> (v2 &&& 31)) &&& (1 : Int32))) (v2 + (1 : Int32)) hg)
  rw [gX11_manyBits] at hg
  refine j_iconst (v := 0) C dX11_manyBits_0 (by decide) ?_
  refine j_istore_n C [(1, .int (0 : Int32)), (0, .int x0)] dX11_manyBits_1 rfl (by decide) rfl ?_
  refine j_iconst (v := 0) C dX11_manyBits_2 (by decide) ?_
  refine j_istore_n C [(2, .int (0 : Int32)), (1, .int (0 : Int32)), (0, .int x0)] dX11_manyBits_3 rfl (by decide) rfl ?_
  exact j_re [2, 1, 0] rfl (L_4 20 (0 : Int32) (0 : Int32) hg)

def gX11_digits_84 (x0 : UInt64) (x1 : Int32) (x2 : Int32) (x3 : Int32) (v5 : UInt64) (v7 : Int32) : Option Int64 := if 0 ≤ (Op.cmpValue (FP.dcmp v5 FP.dconst1) CmpOp.g) then (if FP.dIsNaN (FP.dsub v5 FP.dconst1) = false then (if FP.dIsNaN (FP.dmul (FP.dsub v5 FP.dconst1) (FP.l2d ((1 : Int64) <<< (x1.toInt64 &&& 63)))) = false then (some ((((v7 + x3).toInt64) <<< (x1.toInt64 &&& 63)) ||| (FP.d2l (FP.dmul (FP.dsub v5 FP.dconst1) (FP.l2d ((1 : Int64) <<< (x1.toInt64 &&& 63))))))) else none) else none) else (if FP.dIsNaN (FP.dmul v5 (FP.l2d ((1 : Int64) <<< (x1.toInt64 &&& 63)))) = false then (some (FP.d2l (FP.dmul v5 (FP.l2d ((1 : Int64) <<< (x1.toInt64 &&& 63)))))) else none)
def gX11_digits_57 (x0 : UInt64) (x1 : Int32) (x2 : Int32) (x3 : Int32) (k57 : UInt64 → Int32 → Option Int64) (v5 : UInt64) (v7 : Int32) : Option Int64 := if 0 ≤ (Op.cmpValue (FP.dcmp v5 FP.dconst1) CmpOp.g) then (gX11_digits_84 x0 x1 x2 x3 v5 v7) else (if v7 ≤ x2 then (gX11_digits_84 x0 x1 x2 x3 v5 v7) else (if FP.dIsNaN (FP.dmul v5 (4611686018427387904 : UInt64)) = false then (k57 (FP.dmul v5 (4611686018427387904 : UInt64)) (v7 + (-1 : Int32))) else none))
def gX11_digits_34 (x0 : UInt64) (x1 : Int32) (x2 : Int32) (x3 : Int32) (k34 : UInt64 → Int32 → Option Int64) (v5 : UInt64) (v7 : Int32) : Option Int64 := if (Op.cmpValue (FP.dcmp v5 (4611686018427387904 : UInt64)) CmpOp.l) < 0 then (lq2 (gX11_digits_57 x0 x1 x2 x3) 2200 v5 v7) else (if FP.dIsNaN (FP.ddiv v5 (4611686018427387904 : UInt64)) = false then (k34 (FP.ddiv v5 (4611686018427387904 : UInt64)) (v7 + (1 : Int32))) else none)
def gX11_digits (x0 : UInt64) (x1 : Int32) (x2 : Int32) (x3 : Int32) : Option Int64 := (gX11_isZero x0).bind (fun r1 => if r1 = 0 then ((gX11_isInfinite x0).bind (fun r2 => if r2 = 0 then (lq2 (gX11_digits_34 x0 x1 x2 x3) 2200 x0 (0 : Int32)) else (some ((((2 : Int64) * x3.toInt64) + (1 : Int64)) <<< (x1.toInt64 &&& 63))))) else (some (0 : Int64)))
theorem hd_X11_digits : yX11_digits.cls ≠ "java/lang/invoke/MethodHandle" ∧ yX11_digits.cls ≠ "java/lang/invoke/VarHandle" ∧ (parseMethodDescriptor yX11_digits.desc).map (fun d => d.parameters.length) = some 4 := by decide +kernel
set_option maxHeartbeats 4000000 in
set_option maxRecDepth 100000 in
theorem tX11_digits {G : GG} {l : Launch} {z N : Nat} {ct : Nat → va_E} (x0 : UInt64) (x1 : Int32) (x2 : Int32) (x3 : Int32) {r : Int64} (hg : gX11_digits x0 x1 x2 x3 = some r) : Ct G l yX11_digits cX11_digits 10 (some .long) ({ frames := 1, cells := 0, slots := 0, locals := 21 } : Room) [.double x0, .int x1, .int x2, .int x3] z ct N (some (.long r)) ct N := by
  refine Ct.of (lv := [(0, .double x0), (2, .int x1), (3, .int x2), (4, .int x3)]) (by decide +kernel) (Nat.le_of_ble_eq_true rfl) rfl (fun p e s m args below meth c C => ?_)
  have L_84 : ∀ (v5 : UInt64) (v7 : Int32), gX11_digits_84 x0 x1 x2 x3 v5 v7 = some r → J G p l e ({ frames := 1, cells := 0, slots := 0, locals := 21 } : Room) s m args below meth c z 10 (MQ below (Qd G z (some (.long r)) ct N) args s 0 0 (zA z)) ct N 0 0 84 [(2, .int x1), (4, .int x3), (5, .double v5), (7, .int v7)] [] := by
    intro v5 v7 hg
    rw [gX11_digits_84] at hg
    refine j_lconst (v := 1) C dX11_digits_84 (by decide) ?_
    refine j_iload_n C dX11_digits_85 0 rfl rfl ?_
    refine j_lshl C dX11_digits_86 ?_
    refine j_l2d C dX11_digits_87 ?_
    refine j_dstore C [(8, .double (FP.l2d ((1 : Int64) <<< (x1.toInt64 &&& 63)))), (2, .int x1), (4, .int x3), (5, .double v5), (7, .int v7)] dX11_digits_88 (by decide) rfl ?_
    refine j_dload C dX11_digits_90 3 rfl ?_
    refine j_dconst1 C dX11_digits_92 ?_
    refine j_dcmp C dX11_digits_93 ?_
    refine j_if_ge C 104 hg dX11_digits_94 (by decide) (fun hg => ?_) (fun hg => ?_)
    · refine j_iload C dX11_digits_104 4 rfl ?_
      refine j_iload C dX11_digits_106 2 rfl ?_
      refine j_iadd C dX11_digits_108 ?_
      refine j_i2l C dX11_digits_109 ?_
      refine j_iload_n C dX11_digits_110 1 rfl rfl ?_
      refine j_lshl C dX11_digits_111 ?_
      refine j_dload C dX11_digits_112 3 rfl ?_
      refine j_dconst1 C dX11_digits_114 ?_
      refine j_dsub C hg dX11_digits_115 (fun hg => ?_)
      refine j_dload C dX11_digits_116 0 rfl ?_
      refine j_dmul C hg dX11_digits_118 (fun hg => ?_)
      refine j_d2l C dX11_digits_119 ?_
      refine j_lor C dX11_digits_120 ?_
      exact j_lret C dX11_digits_121 (by rw [← Option.some.inj hg]) rfl rfl
    · refine j_dload C dX11_digits_97 3 rfl ?_
      refine j_dload C dX11_digits_99 0 rfl ?_
      refine j_dmul C hg dX11_digits_101 (fun hg => ?_)
      refine j_d2l C dX11_digits_102 ?_
      exact j_lret C dX11_digits_103 (by rw [← Option.some.inj hg]) rfl rfl
  have L_57 : ∀ (n57 : Nat) (v5 : UInt64) (v7 : Int32), lq2 (gX11_digits_57 x0 x1 x2 x3) n57 v5 v7 = some r → J G p l e ({ frames := 1, cells := 0, slots := 0, locals := 21 } : Room) s m args below meth c z 10 (MQ below (Qd G z (some (.long r)) ct N) args s 0 0 (zA z)) ct N 0 0 57 [(2, .int x1), (3, .int x2), (4, .int x3), (5, .double v5), (7, .int v7)] [] := by
    intro n57
    induction n57 with
    | zero => intro v5 v7 hg; cases hg
    | succ n57 ih57 =>
      intro v5 v7 hg
      replace hg : gX11_digits_57 x0 x1 x2 x3 (lq2 (gX11_digits_57 x0 x1 x2 x3) n57) v5 v7 = some r := hg
      rw [gX11_digits_57] at hg
      refine j_dload C dX11_digits_57 3 rfl ?_
      refine j_dconst1 C dX11_digits_59 ?_
      refine j_dcmp C dX11_digits_60 ?_
      refine j_if_ge C 84 hg dX11_digits_61 (by decide) (fun hg => ?_) (fun hg => ?_)
      · exact j_re [0, 2, 3, 4] rfl (L_84 v5 v7 hg)
      · refine j_iload C dX11_digits_64 4 rfl ?_
        refine j_iload_n C dX11_digits_66 1 rfl rfl ?_
        refine j_icmp_le C 84 hg dX11_digits_67 (by decide) (fun hg => ?_) (fun hg => ?_)
        · exact j_re [0, 2, 3, 4] rfl (L_84 v5 v7 hg)
        · refine j_dload C dX11_digits_70 3 rfl ?_
          refine j_ldc2d C q3_184 dX11_digits_72 ?_
          refine j_dmul C hg dX11_digits_75 (fun hg => ?_)
          refine j_dstore C [(5, .double (FP.dmul v5 (4611686018427387904 : UInt64))), (2, .int x1), (3, .int x2), (4, .int x3), (7, .int v7)] dX11_digits_76 (by decide) rfl ?_
          refine j_iinc C [(7, .int (v7 + (-1 : Int32))), (5, .double (FP.dmul v5 (4611686018427387904 : UInt64))), (2, .int x1), (3, .int x2), (4, .int x3)] dX11_digits_78 4 rfl rfl (by decide) rfl ?_
          refine j_goto C 57 dX11_digits_81 (by decide) ?_
          exact j_re [2, 3, 4, 1, 0] rfl (ih57 (FP.dmul v5 (4611686018427387904 : UInt64)) (v7 + (-1 : Int32)) hg)
  have L_34 : ∀ (n34 : Nat) (v5 : UInt64) (v7 : Int32), lq2 (gX11_digits_34 x0 x1 x2 x3) n34 v5 v7 = some r → J G p l e ({ frames := 1, cells := 0, slots := 0, locals := 21 } : Room) s m args below meth c z 10 (MQ below (Qd G z (some (.long r)) ct N) args s 0 0 (zA z)) ct N 0 0 34 [(2, .int x1), (3, .int x2), (4, .int x3), (5, .double v5), (7, .int v7)] [] := by
    intro n34
    induction n34 with
    | zero => intro v5 v7 hg; cases hg
    | succ n34 ih34 =>
      intro v5 v7 hg
      replace hg : gX11_digits_34 x0 x1 x2 x3 (lq2 (gX11_digits_34 x0 x1 x2 x3) n34) v5 v7 = some r := hg
      rw [gX11_digits_34] at hg
      refine j_dload C dX11_digits_34 3 rfl ?_
      refine j_ldc2d C q3_184 dX11_digits_36 ?_
      refine j_dcmp C dX11_digits_39 ?_
      refine j_if_lt C 57 hg dX11_digits_40 (by decide) (fun hg => ?_) (fun hg => ?_)
      · exact L_57 2200 v5 v7 hg
      · refine j_dload C dX11_digits_43 3 rfl ?_
        refine j_ldc2d C q3_184 dX11_digits_45 ?_
        refine j_ddiv C hg dX11_digits_48 (fun hg => ?_)
        refine j_dstore C [(5, .double (FP.ddiv v5 (4611686018427387904 : UInt64))), (2, .int x1), (3, .int x2), (4, .int x3), (7, .int v7)] dX11_digits_49 (by decide) rfl ?_
        refine j_iinc C [(7, .int (v7 + (1 : Int32))), (5, .double (FP.ddiv v5 (4611686018427387904 : UInt64))), (2, .int x1), (3, .int x2), (4, .int x3)] dX11_digits_51 4 rfl rfl (by decide) rfl ?_
        refine j_goto C 34 dX11_digits_54 (by decide) ?_
        exact j_re [2, 3, 4, 1, 0] rfl (ih34 (FP.ddiv v5 (4611686018427387904 : UInt64)) (v7 + (1 : Int32)) hg)
  rw [gX11_digits] at hg
  refine j_dload_n C dX11_digits_0 0 rfl rfl ?_
  obtain ⟨r1, hr1, hg⟩ := ob hg
  refine j_callS C [.double x0] (tX11_isZero x0 hr1) q4_27 q1_6 q4_26 q4_25 hd_X11_isZero rfl dX11_digits_1 rfl (Nat.le_of_ble_eq_true rfl) ⟨(Nat.le_of_ble_eq_true rfl), (Nat.le_of_ble_eq_true rfl)⟩ ⟨(Nat.le_of_ble_eq_true rfl), (Nat.le_of_ble_eq_true rfl)⟩ ?_
  refine j_if_eq C 9 hg dX11_digits_4 (by decide) (fun hg => ?_) (fun hg => ?_)
  · refine j_dload_n C dX11_digits_9 0 rfl rfl ?_
    obtain ⟨r2, hr2, hg⟩ := ob hg
    refine j_callS C [.double x0] (tX11_isInfinite x0 hr2) q4_56 q1_6 q4_55 q4_54 hd_X11_isInfinite rfl dX11_digits_10 rfl (Nat.le_of_ble_eq_true rfl) ⟨(Nat.le_of_ble_eq_true rfl), (Nat.le_of_ble_eq_true rfl)⟩ ⟨(Nat.le_of_ble_eq_true rfl), (Nat.le_of_ble_eq_true rfl)⟩ ?_
    refine j_if_eq C 28 hg dX11_digits_13 (by decide) (fun hg => ?_) (fun hg => ?_)
    · refine j_dload_n C dX11_digits_28 0 rfl rfl ?_
      refine j_dstore C [(5, .double x0), (0, .double x0), (2, .int x1), (3, .int x2), (4, .int x3)] dX11_digits_29 (by decide) rfl ?_
      refine j_iconst (v := 0) C dX11_digits_31 (by decide) ?_
      refine j_istore C [(7, .int (0 : Int32)), (5, .double x0), (0, .double x0), (2, .int x1), (3, .int x2), (4, .int x3)] dX11_digits_32 (by decide) rfl ?_
      exact j_re [3, 4, 5, 1, 0] rfl (L_34 2200 x0 (0 : Int32) hg)
    · refine j_ldc2 C q4_140 dX11_digits_16 ?_
      refine j_iload C dX11_digits_19 3 rfl ?_
      refine j_i2l C dX11_digits_21 ?_
      refine j_lmul C dX11_digits_22 ?_
      refine j_lconst (v := 1) C dX11_digits_23 (by decide) ?_
      refine j_ladd C dX11_digits_24 ?_
      refine j_iload_n C dX11_digits_25 1 rfl rfl ?_
      refine j_lshl C dX11_digits_26 ?_
      exact j_lret C dX11_digits_27 (by rw [← Option.some.inj hg]) rfl rfl
  · refine j_lconst (v := 0) C dX11_digits_7 (by decide) ?_
    exact j_lret C dX11_digits_8 (by rw [← Option.some.inj hg]) rfl rfl
