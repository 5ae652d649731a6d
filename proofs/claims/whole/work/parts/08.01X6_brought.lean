def gX6_brought (x0 : UInt64) (x1 : Int32) : Option UInt64 := if x1 = 0 then (some x0) else (if FP.fIsNaN (FP.d2f x0) = false then (if FP.dIsNaN (FP.f2d (FP.d2f x0)) = false then (some (FP.f2d (FP.d2f x0))) else none) else none)
theorem hd_X6_brought : yX6_brought.cls ≠ "java/lang/invoke/MethodHandle" ∧ yX6_brought.cls ≠ "java/lang/invoke/VarHandle" ∧ (parseMethodDescriptor yX6_brought.desc).map (fun d => d.parameters.length) = some 2 := by decide +kernel
set_option maxHeartbeats 4000000 in
set_option maxRecDepth 100000 in
theorem tX6_brought {G : GG} {l : Launch} {z N : Nat} {ct : Nat → va_E} (x0 : UInt64) (x1 : Int32) {r : UInt64} (hg : gX6_brought x0 x1 = some r) : Ct G l yX6_brought cX6_brought 3 (some .double) ({ frames := 0, cells := 0, slots := 0, locals := 0 } : Room) [.double x0, .int x1] z ct N (some (.double r)) ct N := by
  refine Ct.of (lv := [(0, .double x0), (2, .int x1)]) (by decide +kernel) (Nat.le_of_ble_eq_true rfl) rfl (fun p e s m args below meth c C => ?_)
  rw [gX6_brought] at hg
  refine j_iload_n C dX6_brought_0 1 rfl rfl ?_
  refine j_if_eq C 10 hg dX6_brought_1 (by decide) (fun hg => ?_) (fun hg => ?_)
  · refine j_dload_n C dX6_brought_10 0 rfl rfl ?_
    exact j_dret C dX6_brought_11 (by rw [← Option.some.inj hg]) rfl rfl
  · refine j_dload_n C dX6_brought_4 0 rfl rfl ?_
    refine j_d2f C hg dX6_brought_5 (fun hg => ?_)
    refine j_f2d C hg dX6_brought_6 (fun hg => ?_)
    refine j_goto C 11 dX6_brought_7 (by decide) ?_
    exact j_dret C dX6_brought_11 (by rw [← Option.some.inj hg]) rfl rfl
