def gX6_zeroLike (x0 : UInt64) : Option UInt64 := if FP.dIsNaN (FP.dmul x0 FP.dconst0) = false then (some (FP.dmul x0 FP.dconst0)) else none
theorem hd_X6_zeroLike : yX6_zeroLike.cls ≠ "java/lang/invoke/MethodHandle" ∧ yX6_zeroLike.cls ≠ "java/lang/invoke/VarHandle" ∧ (parseMethodDescriptor yX6_zeroLike.desc).map (fun d => d.parameters.length) = some 1 := by decide +kernel
set_option maxHeartbeats 4000000 in
set_option maxRecDepth 100000 in
theorem tX6_zeroLike {G : GG} {l : Launch} {z N : Nat} {ct : Nat → va_E} (x0 : UInt64) {r : UInt64} (hg : gX6_zeroLike x0 = some r) : Ct G l yX6_zeroLike cX6_zeroLike 2 (some .double) ({ frames := 0, cells := 0, slots := 0, locals := 0 } : Room) [.double x0] z ct N (some (.double r)) ct N := by
  refine Ct.of (lv := [(0, .double x0)]) (by decide +kernel) (Nat.le_of_ble_eq_true rfl) rfl (fun p e s m args below meth c C => ?_)
  rw [gX6_zeroLike] at hg
  refine j_dload_n C dX6_zeroLike_0 0 rfl rfl ?_
  refine j_dconst0 C dX6_zeroLike_1 ?_
  refine j_dmul C hg dX6_zeroLike_2 (fun hg => ?_)
  exact j_dret C dX6_zeroLike_3 (by rw [← Option.some.inj hg]) rfl rfl
