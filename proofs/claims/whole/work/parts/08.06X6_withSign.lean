def gX6_withSign (x0 : UInt64) (x1 : Int32) : Option UInt64 := (gX6_hasMinus x0).bind (fun r1 => if r1 = x1 then (some x0) else (some (FP.dneg x0)))
theorem hd_X6_withSign : yX6_withSign.cls ≠ "java/lang/invoke/MethodHandle" ∧ yX6_withSign.cls ≠ "java/lang/invoke/VarHandle" ∧ (parseMethodDescriptor yX6_withSign.desc).map (fun d => d.parameters.length) = some 2 := by decide +kernel
set_option maxHeartbeats 4000000 in
set_option maxRecDepth 100000 in
theorem tX6_withSign {G : GG} {l : Launch} {z N : Nat} {ct : Nat → va_E} (x0 : UInt64) (x1 : Int32) {r : UInt64} (hg : gX6_withSign x0 x1 = some r) : Ct G l yX6_withSign cX6_withSign 3 (some .double) ({ frames := 1, cells := 0, slots := 0, locals := 21 } : Room) [.double x0, .int x1] z ct N (some (.double r)) ct N := by
  refine Ct.of (lv := [(0, .double x0), (2, .int x1)]) (by decide +kernel) (Nat.le_of_ble_eq_true rfl) rfl (fun p e s m args below meth c C => ?_)
  rw [gX6_withSign] at hg
  refine j_dload_n C dX6_withSign_0 0 rfl rfl ?_
  obtain ⟨r1, hr1, hg⟩ := ob hg
  refine j_callS C [.double x0] (tX6_hasMinus x0 hr1) q2_109 q1_10 q2_108 q2_107 hd_X6_hasMinus rfl dX6_withSign_1 rfl (Nat.le_of_ble_eq_true rfl) ⟨(Nat.le_of_ble_eq_true rfl), (Nat.le_of_ble_eq_true rfl)⟩ ⟨(Nat.le_of_ble_eq_true rfl), (Nat.le_of_ble_eq_true rfl)⟩ ?_
  refine j_iload_n C dX6_withSign_4 1 rfl rfl ?_
  refine j_icmp_ne C 12 hg dX6_withSign_5 (by decide) (fun hg => ?_) (fun hg => ?_)
  · refine j_dload_n C dX6_withSign_12 0 rfl rfl ?_
    refine j_dneg C dX6_withSign_13 ?_
    exact j_dret C dX6_withSign_14 (by rw [← Option.some.inj hg]) rfl rfl
  · refine j_dload_n C dX6_withSign_8 0 rfl rfl ?_
    refine j_goto C 14 dX6_withSign_9 (by decide) ?_
    exact j_dret C dX6_withSign_14 (by rw [← Option.some.inj hg]) rfl rfl
