def gX1_of_37 (x0 : UInt64) (x1 : Int32) (v3 : Int64) (s0 : Int64) : Option Int64 := (gX6_hasMinus x0).bind (fun r5 => if r5 = 0 then (some s0) else (some (s0 ||| v3)))
def gX1_of_13 (x0 : UInt64) (x1 : Int32) (s0 : Int64) : Option Int64 := (gX6_isInfinite x0).bind (fun r1 => if r1 = 0 then ((gX6_withSign x0 (0 : Int32)).bind (fun r2 => (gX1_behindSign r2 x1).bind (fun r3 => gX1_of_37 x0 x1 s0 r3))) else ((gX1_ofInfinite x1).bind (fun r4 => gX1_of_37 x0 x1 s0 r4)))
def gX1_of (x0 : UInt64) (x1 : Int32) : Option Int64 := if x1 = 0 then (gX1_of_13 x0 x1 (-9223372036854775808 : Int64)) else (gX1_of_13 x0 x1 (-2147483648 : Int64))
theorem hd_X1_of : yX1_of.cls ≠ "java/lang/invoke/MethodHandle" ∧ yX1_of.cls ≠ "java/lang/invoke/VarHandle" ∧ (parseMethodDescriptor yX1_of.desc).map (fun d => d.parameters.length) = some 2 := by decide +kernel
set_option maxHeartbeats 4000000 in
set_option maxRecDepth 100000 in
theorem tX1_of {G : GG} {l : Launch} {z N : Nat} {ct : Nat → va_E} (x0 : UInt64) (x1 : Int32) {r : Int64} (hg : gX1_of x0 x1 = some r) : Ct G l yX1_of cX1_of 7 (some .long) ({ frames := 2, cells := 0, slots := 0, locals := 43 } : Room) [.double x0, .int x1] z ct N (some (.long r)) ct N := by
  refine Ct.of (lv := [(0, .double x0), (2, .int x1)]) (by decide +kernel) (Nat.le_of_ble_eq_true rfl) rfl (fun p e s m args below meth c C => ?_)
  have L_37 : ∀ (v3 : Int64) (s0 : Int64), gX1_of_37 x0 x1 v3 s0 = some r → J G p l e ({ frames := 2, cells := 0, slots := 0, locals := 43 } : Room) s m args below meth c z 7 (MQ below (Qd G z (some (.long r)) ct N) args s 0 0 (zA z)) ct N 0 0 37 [(0, .double x0), (3, .long v3)] [.long s0] := by
    intro v3 s0 hg
    rw [gX1_of_37] at hg
    refine j_lstore C [(5, .long s0), (0, .double x0), (3, .long v3)] dX1_of_37 (by decide) rfl ?_
    refine j_dload_n C dX1_of_39 1 rfl rfl ?_
    obtain ⟨r5, hr5, hg⟩ := ob hg
    refine j_callS C [.double x0] (tX6_hasMinus x0 hr5) q2_109 q1_10 q2_108 q3_61 hd_X6_hasMinus rfl dX1_of_40 rfl (Nat.le_of_ble_eq_true rfl) ⟨(Nat.le_of_ble_eq_true rfl), (Nat.le_of_ble_eq_true rfl)⟩ ⟨(Nat.le_of_ble_eq_true rfl), (Nat.le_of_ble_eq_true rfl)⟩ ?_
    refine j_if_eq C 53 hg dX1_of_43 (by decide) (fun hg => ?_) (fun hg => ?_)
    · refine j_lload C dX1_of_53 0 rfl ?_
      exact j_lret C dX1_of_55 (by rw [← Option.some.inj hg]) rfl rfl
    · refine j_lload C dX1_of_46 0 rfl ?_
      refine j_lload_n C dX1_of_48 2 rfl rfl ?_
      refine j_lor C dX1_of_49 ?_
      refine j_goto C 55 dX1_of_50 (by decide) ?_
      exact j_lret C dX1_of_55 (by rw [← Option.some.inj hg]) rfl rfl
  have L_13 : ∀ (s0 : Int64), gX1_of_13 x0 x1 s0 = some r → J G p l e ({ frames := 2, cells := 0, slots := 0, locals := 43 } : Room) s m args below meth c z 7 (MQ below (Qd G z (some (.long r)) ct N) args s 0 0 (zA z)) ct N 0 0 13 [(0, .double x0), (2, .int x1)] [.long s0] := by
    intro s0 hg
    rw [gX1_of_13] at hg
    refine j_lstore_n C [(3, .long s0), (0, .double x0), (2, .int x1)] dX1_of_13 rfl (by decide) rfl ?_
    refine j_dload_n C dX1_of_14 1 rfl rfl ?_
    obtain ⟨r1, hr1, hg⟩ := ob hg
    refine j_callS C [.double x0] (tX6_isInfinite x0 hr1) q2_141 q1_10 q2_140 q3_53 hd_X6_isInfinite rfl dX1_of_15 rfl (Nat.le_of_ble_eq_true rfl) ⟨(Nat.le_of_ble_eq_true rfl), (Nat.le_of_ble_eq_true rfl)⟩ ⟨(Nat.le_of_ble_eq_true rfl), (Nat.le_of_ble_eq_true rfl)⟩ ?_
    refine j_if_eq C 28 hg dX1_of_18 (by decide) (fun hg => ?_) (fun hg => ?_)
    · refine j_dload_n C dX1_of_28 1 rfl rfl ?_
      refine j_iconst (v := 0) C dX1_of_29 (by decide) ?_
      obtain ⟨r2, hr2, hg⟩ := ob hg
      refine j_callS C [.double x0, .int (0 : Int32)] (tX6_withSign x0 (0 : Int32) hr2) q2_106 q1_10 q2_105 q3_59 hd_X6_withSign rfl dX1_of_30 rfl (Nat.le_of_ble_eq_true rfl) ⟨(Nat.le_of_ble_eq_true rfl), (Nat.le_of_ble_eq_true rfl)⟩ ⟨(Nat.le_of_ble_eq_true rfl), (Nat.le_of_ble_eq_true rfl)⟩ ?_
      refine j_iload_n C dX1_of_33 2 rfl rfl ?_
      obtain ⟨r3, hr3, hg⟩ := ob hg
      refine j_callS C [.double r2, .int x1] (tX1_behindSign r2 x1 hr3) q2_154 q1_12 q2_153 q3_60 hd_X1_behindSign rfl dX1_of_34 rfl (Nat.le_of_ble_eq_true rfl) ⟨(Nat.le_of_ble_eq_true rfl), (Nat.le_of_ble_eq_true rfl)⟩ ⟨(Nat.le_of_ble_eq_true rfl), (Nat.le_of_ble_eq_true rfl)⟩ ?_
      exact j_re [1, 0] rfl (L_37 s0 r3 hg)
    · refine j_iload_n C dX1_of_21 2 rfl rfl ?_
      obtain ⟨r4, hr4, hg⟩ := ob hg
      refine j_callS C [.int x1] (tX1_ofInfinite x1 hr4) q3_56 q1_12 q3_55 q3_54 hd_X1_ofInfinite rfl dX1_of_22 rfl (Nat.le_of_ble_eq_true rfl) ⟨(Nat.le_of_ble_eq_true rfl), (Nat.le_of_ble_eq_true rfl)⟩ ⟨(Nat.le_of_ble_eq_true rfl), (Nat.le_of_ble_eq_true rfl)⟩ ?_
      refine j_goto C 37 dX1_of_25 (by decide) ?_
      exact j_re [1, 0] rfl (L_37 s0 r4 hg)
  rw [gX1_of] at hg
  refine j_iload_n C dX1_of_0 1 rfl rfl ?_
  refine j_if_eq C 10 hg dX1_of_1 (by decide) (fun hg => ?_) (fun hg => ?_)
  · refine j_ldc2 C q3_52 dX1_of_10 ?_
    exact L_13 (-9223372036854775808 : Int64) hg
  · refine j_ldc2 C q3_51 dX1_of_4 ?_
    refine j_goto C 13 dX1_of_7 (by decide) ?_
    exact L_13 (-2147483648 : Int64) hg
