def gX6_greater (x0 : UInt64) (x1 : UInt64) : Option UInt64 := (gX6_isBelow x0 x1).bind (fun r1 => if r1 = 0 then (some x0) else (some x1))
theorem hd_X6_greater : yX6_greater.cls ≠ "java/lang/invoke/MethodHandle" ∧ yX6_greater.cls ≠ "java/lang/invoke/VarHandle" ∧ (parseMethodDescriptor yX6_greater.desc).map (fun d => d.parameters.length) = some 2 := by decide +kernel
set_option maxHeartbeats 4000000 in
set_option maxRecDepth 100000 in
theorem tX6_greater {G : GG} {l : Launch} {z N : Nat} {ct : Nat → va_E} (x0 : UInt64) (x1 : UInt64) {r : UInt64} (hg : gX6_greater x0 x1 = some r) : Ct G l yX6_greater cX6_greater 4 (some .double) ({ frames := 1, cells := 0, slots := 0, locals := 23 } : Room) [.double x0, .double x1] z ct N (some (.double r)) ct N := by
  refine Ct.of (lv := [(0, .double x0), (2, .double x1)]) (by decide +kernel) (Nat.le_of_ble_eq_true rfl) rfl (fun p e s m args below meth c C => ?_)
  rw [gX6_greater] at hg
  refine j_dload_n C dX6_greater_0 0 rfl rfl ?_
  refine j_dload_n C dX6_greater_1 1 rfl rfl ?_
  obtain ⟨r1, hr1, hg⟩ := ob hg
  refine j_callS C [.double x0, .double x1] (tX6_isBelow x0 x1 hr1) q2_178 q1_10 q2_177 q2_176 hd_X6_isBelow rfl dX6_greater_2 rfl (Nat.le_of_ble_eq_true rfl) ⟨(Nat.le_of_ble_eq_true rfl), (Nat.le_of_ble_eq_true rfl)⟩ ⟨(Nat.le_of_ble_eq_true rfl), (Nat.le_of_ble_eq_true rfl)⟩ ?_
  refine j_if_eq C 12 hg dX6_greater_5 (by decide) (fun hg => ?_) (fun hg => ?_)
  · refine j_dload_n C dX6_greater_12 0 rfl rfl ?_
    exact j_dret C dX6_greater_13 (by rw [← Option.some.inj hg]) rfl rfl
  · refine j_dload_n C dX6_greater_8 1 rfl rfl ?_
    refine j_goto C 13 dX6_greater_9 (by decide) ?_
    exact j_dret C dX6_greater_13 (by rw [← Option.some.inj hg]) rfl rfl
