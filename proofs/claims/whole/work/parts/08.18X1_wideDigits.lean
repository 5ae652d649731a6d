def gX1_wideDigits (x0 : Int64) : Option Int64 := if (lg_cmp x0 (x0 &&& (4503599627370495 : Int64))) = 0 then (some (x0 &&& (4503599627370495 : Int64))) else (some ((x0 &&& (4503599627370495 : Int64)) + (4503599627370496 : Int64)))
theorem hd_X1_wideDigits : yX1_wideDigits.cls ≠ "java/lang/invoke/MethodHandle" ∧ yX1_wideDigits.cls ≠ "java/lang/invoke/VarHandle" ∧ (parseMethodDescriptor yX1_wideDigits.desc).map (fun d => d.parameters.length) = some 1 := by decide +kernel
set_option maxHeartbeats 4000000 in
set_option maxRecDepth 100000 in
theorem tX1_wideDigits {G : GG} {l : Launch} {z N : Nat} {ct : Nat → va_E} (x0 : Int64) {r : Int64} (hg : gX1_wideDigits x0 = some r) : Ct G l yX1_wideDigits cX1_wideDigits 4 (some .long) ({ frames := 0, cells := 0, slots := 0, locals := 0 } : Room) [.long x0] z ct N (some (.long r)) ct N := by
  refine Ct.of (lv := [(0, .long x0)]) (by decide +kernel) (Nat.le_of_ble_eq_true rfl) rfl (fun p e s m args below meth c C => ?_)
  rw [gX1_wideDigits] at hg
  refine j_lload_n C dX1_wideDigits_0 0 rfl rfl ?_
  refine j_ldc2 C q2_166 dX1_wideDigits_1 ?_
  refine j_land C dX1_wideDigits_4 ?_
  refine j_lstore_n C [(2, .long (x0 &&& (4503599627370495 : Int64))), (0, .long x0)] dX1_wideDigits_5 rfl (by decide) rfl ?_
  refine j_lload_n C dX1_wideDigits_6 1 rfl rfl ?_
  refine j_lload_n C dX1_wideDigits_7 0 rfl rfl ?_
  refine j_lcmp C dX1_wideDigits_8 ?_
  refine j_if_ne C 16 hg dX1_wideDigits_9 (by decide) (fun hg => ?_) (fun hg => ?_)
  · refine j_lload_n C dX1_wideDigits_16 0 rfl rfl ?_
    refine j_ldc2 C q2_167 dX1_wideDigits_17 ?_
    refine j_ladd C dX1_wideDigits_20 ?_
    exact j_lret C dX1_wideDigits_21 (by rw [← Option.some.inj hg]) rfl rfl
  · refine j_lload_n C dX1_wideDigits_12 0 rfl rfl ?_
    refine j_goto C 21 dX1_wideDigits_13 (by decide) ?_
    exact j_lret C dX1_wideDigits_21 (by rw [← Option.some.inj hg]) rfl rfl
