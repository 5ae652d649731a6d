def gX1_ofInfinite (x0 : Int32) : Option Int64 := if x0 = 0 then (some (9218868437227405312 : Int64)) else (some (2139095040 : Int64))
theorem hd_X1_ofInfinite : yX1_ofInfinite.cls ≠ "java/lang/invoke/MethodHandle" ∧ yX1_ofInfinite.cls ≠ "java/lang/invoke/VarHandle" ∧ (parseMethodDescriptor yX1_ofInfinite.desc).map (fun d => d.parameters.length) = some 1 := by decide +kernel
set_option maxHeartbeats 4000000 in
set_option maxRecDepth 100000 in
theorem tX1_ofInfinite {G : GG} {l : Launch} {z N : Nat} {ct : Nat → va_E} (x0 : Int32) {r : Int64} (hg : gX1_ofInfinite x0 = some r) : Ct G l yX1_ofInfinite cX1_ofInfinite 1 (some .long) ({ frames := 0, cells := 0, slots := 0, locals := 0 } : Room) [.int x0] z ct N (some (.long r)) ct N := by
  refine Ct.of (lv := [(0, .int x0)]) (by decide +kernel) (Nat.le_of_ble_eq_true rfl) rfl (fun p e s m args below meth c C => ?_)
  rw [gX1_ofInfinite] at hg
  refine j_iload_n C dX1_ofInfinite_0 0 rfl rfl ?_
  refine j_if_eq C 10 hg dX1_ofInfinite_1 (by decide) (fun hg => ?_) (fun hg => ?_)
  · refine j_ldc2 C q3_58 dX1_ofInfinite_10 ?_
    exact j_lret C dX1_ofInfinite_13 (by rw [← Option.some.inj hg]) rfl rfl
  · refine j_ldc2 C q3_57 dX1_ofInfinite_4 ?_
    refine j_goto C 13 dX1_ofInfinite_7 (by decide) ?_
    exact j_lret C dX1_ofInfinite_13 (by rw [← Option.some.inj hg]) rfl rfl
