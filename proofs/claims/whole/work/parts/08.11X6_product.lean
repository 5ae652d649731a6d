def gX6_product (x0 : UInt64) (x1 : UInt64) (x2 : Int32) : Option UInt64 := if x2 = 0 then (if FP.dIsNaN (FP.dmul x0 x1) = false then (some (FP.dmul x0 x1)) else none) else (if FP.fIsNaN (FP.d2f x0) = false then (if FP.fIsNaN (FP.d2f x1) = false then (if FP.fIsNaN (FP.fmul (FP.d2f x0) (FP.d2f x1)) = false then (if FP.dIsNaN (FP.f2d (FP.fmul (FP.d2f x0) (FP.d2f x1))) = false then (some (FP.f2d (FP.fmul (FP.d2f x0) (FP.d2f x1)))) else none) else none) else none) else none)
theorem hd_X6_product : yX6_product.cls ≠ "java/lang/invoke/MethodHandle" ∧ yX6_product.cls ≠ "java/lang/invoke/VarHandle" ∧ (parseMethodDescriptor yX6_product.desc).map (fun d => d.parameters.length) = some 3 := by decide +kernel
set_option maxHeartbeats 4000000 in
set_option maxRecDepth 100000 in
theorem tX6_product {G : GG} {l : Launch} {z N : Nat} {ct : Nat → va_E} (x0 : UInt64) (x1 : UInt64) (x2 : Int32) {r : UInt64} (hg : gX6_product x0 x1 x2 = some r) : Ct G l yX6_product cX6_product 5 (some .double) ({ frames := 0, cells := 0, slots := 0, locals := 0 } : Room) [.double x0, .double x1, .int x2] z ct N (some (.double r)) ct N := by
  refine Ct.of (lv := [(0, .double x0), (2, .double x1), (4, .int x2)]) (by decide +kernel) (Nat.le_of_ble_eq_true rfl) rfl (fun p e s m args below meth c C => ?_)
  rw [gX6_product] at hg
  refine j_iload C dX6_product_0 2 rfl ?_
  refine j_if_eq C 14 hg dX6_product_2 (by decide) (fun hg => ?_) (fun hg => ?_)
  · refine j_dload_n C dX6_product_14 0 rfl rfl ?_
    refine j_dload_n C dX6_product_15 1 rfl rfl ?_
    refine j_dmul C hg dX6_product_16 (fun hg => ?_)
    exact j_dret C dX6_product_17 (by rw [← Option.some.inj hg]) rfl rfl
  · refine j_dload_n C dX6_product_5 0 rfl rfl ?_
    refine j_d2f C hg dX6_product_6 (fun hg => ?_)
    refine j_dload_n C dX6_product_7 1 rfl rfl ?_
    refine j_d2f C hg dX6_product_8 (fun hg => ?_)
    refine j_fmul C hg dX6_product_9 (fun hg => ?_)
    refine j_f2d C hg dX6_product_10 (fun hg => ?_)
    refine j_goto C 17 dX6_product_11 (by decide) ?_
    exact j_dret C dX6_product_17 (by rw [← Option.some.inj hg]) rfl rfl
