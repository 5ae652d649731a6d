def gX6_named (x0 : Int32) (x1 : Int32) : Option UInt64 := if x0 = (1 : Int32) then (some (9218868437227405312 : UInt64)) else (if x0 = (2 : Int32) then (some (18442240474082181120 : UInt64)) else (if x0 = (3 : Int32) then (some (9223372036854775808 : UInt64)) else (if x0 = (4 : Int32) then (if x1 = 0 then (some (9218868437227405311 : UInt64)) else (some (5183643170566569984 : UInt64))) else (if x1 = 0 then (some (1 : UInt64)) else (some (3936146074321813504 : UInt64))))))
theorem hd_X6_named : yX6_named.cls ≠ "java/lang/invoke/MethodHandle" ∧ yX6_named.cls ≠ "java/lang/invoke/VarHandle" ∧ (parseMethodDescriptor yX6_named.desc).map (fun d => d.parameters.length) = some 2 := by decide +kernel
set_option maxHeartbeats 4000000 in
set_option maxRecDepth 100000 in
theorem tX6_named {G : GG} {l : Launch} {z N : Nat} {ct : Nat → va_E} (x0 : Int32) (x1 : Int32) {r : UInt64} (hg : gX6_named x0 x1 = some r) : Ct G l yX6_named cX6_named 2 (some .double) ({ frames := 0, cells := 0, slots := 0, locals := 0 } : Room) [.int x0, .int x1] z ct N (some (.double r)) ct N := by
  refine Ct.of (lv := [(0, .int x0), (1, .int x1)]) (by decide +kernel) (Nat.le_of_ble_eq_true rfl) rfl (fun p e s m args below meth c C => ?_)
  rw [gX6_named] at hg
  refine j_iload_n C dX6_named_0 0 rfl rfl ?_
  by_cases c1_0 : x0 = (1 : Int32)
  · replace hg := (if_pos c1_0).symm.trans hg
    refine j_tableIn (off := 31) C 32 dX6_named_1 (by rw [c1_0]; decide) (by rw [c1_0]; decide) (by rw [c1_0]; rfl) (by decide) ?_
    refine j_ldc2d C q2_12 dX6_named_32 ?_
    exact j_dret C dX6_named_35 (by rw [← Option.some.inj hg]) rfl rfl
  · replace hg := (if_neg c1_0).symm.trans hg
    by_cases c1_1 : x0 = (2 : Int32)
    · replace hg := (if_pos c1_1).symm.trans hg
      refine j_tableIn (off := 35) C 36 dX6_named_1 (by rw [c1_1]; decide) (by rw [c1_1]; decide) (by rw [c1_1]; rfl) (by decide) ?_
      refine j_ldc2d C q2_13 dX6_named_36 ?_
      exact j_dret C dX6_named_39 (by rw [← Option.some.inj hg]) rfl rfl
    · replace hg := (if_neg c1_1).symm.trans hg
      by_cases c1_2 : x0 = (3 : Int32)
      · replace hg := (if_pos c1_2).symm.trans hg
        refine j_tableIn (off := 39) C 40 dX6_named_1 (by rw [c1_2]; decide) (by rw [c1_2]; decide) (by rw [c1_2]; rfl) (by decide) ?_
        refine j_ldc2d C q2_14 dX6_named_40 ?_
        exact j_dret C dX6_named_43 (by rw [← Option.some.inj hg]) rfl rfl
      · replace hg := (if_neg c1_2).symm.trans hg
        by_cases c1_3 : x0 = (4 : Int32)
        · replace hg := (if_pos c1_3).symm.trans hg
          refine j_tableIn (off := 43) C 44 dX6_named_1 (by rw [c1_3]; decide) (by rw [c1_3]; decide) (by rw [c1_3]; rfl) (by decide) ?_
          refine j_iload_n C dX6_named_44 1 rfl rfl ?_
          refine j_if_eq C 54 hg dX6_named_45 (by decide) (fun hg => ?_) (fun hg => ?_)
          · refine j_ldc2d C q2_16 dX6_named_54 ?_
            exact j_dret C dX6_named_57 (by rw [← Option.some.inj hg]) rfl rfl
          · refine j_ldc2d C q2_15 dX6_named_48 ?_
            refine j_goto C 57 dX6_named_51 (by decide) ?_
            exact j_dret C dX6_named_57 (by rw [← Option.some.inj hg]) rfl rfl
        · replace hg := (if_neg c1_3).symm.trans hg
          have nc1_0 : ¬ x0.toInt = 1 := fun h => c1_0 (Int32.toInt_inj.mp (h.trans (by decide)))
          have nc1_1 : ¬ x0.toInt = 2 := fun h => c1_1 (Int32.toInt_inj.mp (h.trans (by decide)))
          have nc1_2 : ¬ x0.toInt = 3 := fun h => c1_2 (Int32.toInt_inj.mp (h.trans (by decide)))
          have nc1_3 : ¬ x0.toInt = 4 := fun h => c1_3 (Int32.toInt_inj.mp (h.trans (by decide)))
          refine j_tableOut C 58 dX6_named_1 (by omega) (by decide) ?_
          refine j_iload_n C dX6_named_58 1 rfl rfl ?_
          refine j_if_eq C 68 hg dX6_named_59 (by decide) (fun hg => ?_) (fun hg => ?_)
          · refine j_ldc2d C q2_18 dX6_named_68 ?_
            exact j_dret C dX6_named_71 (by rw [← Option.some.inj hg]) rfl rfl
          · refine j_ldc2d C q2_17 dX6_named_62 ?_
            refine j_goto C 71 dX6_named_65 (by decide) ?_
            exact j_dret C dX6_named_71 (by rw [← Option.some.inj hg]) rfl rfl
