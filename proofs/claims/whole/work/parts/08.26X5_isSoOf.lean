def gX5_isSoOf (x0 : Int32) (x1 : UInt64) (x2 : UInt64) : Option Int32 := if x0 = (0 : Int32) then (if 0 ≤ (Op.cmpValue (FP.dcmp x1 x2) CmpOp.g) then (some (0 : Int32)) else (some (1 : Int32))) else (if x0 = (1 : Int32) then (if 0 < (Op.cmpValue (FP.dcmp x1 x2) CmpOp.g) then (some (0 : Int32)) else (some (1 : Int32))) else (if x0 = (2 : Int32) then (if (Op.cmpValue (FP.dcmp x1 x2) CmpOp.l) ≤ 0 then (some (0 : Int32)) else (some (1 : Int32))) else (if x0 = (3 : Int32) then (if (Op.cmpValue (FP.dcmp x1 x2) CmpOp.l) < 0 then (some (0 : Int32)) else (some (1 : Int32))) else (if x0 = (4 : Int32) then (if (Op.cmpValue (FP.dcmp x1 x2) CmpOp.l) = 0 then (some (1 : Int32)) else (some (0 : Int32))) else (if (Op.cmpValue (FP.dcmp x1 x2) CmpOp.l) = 0 then (some (0 : Int32)) else (some (1 : Int32)))))))
theorem hd_X5_isSoOf : yX5_isSoOf.cls ≠ "java/lang/invoke/MethodHandle" ∧ yX5_isSoOf.cls ≠ "java/lang/invoke/VarHandle" ∧ (parseMethodDescriptor yX5_isSoOf.desc).map (fun d => d.parameters.length) = some 3 := by decide +kernel
set_option maxHeartbeats 4000000 in
set_option maxRecDepth 100000 in
theorem tX5_isSoOf {G : GG} {l : Launch} {z N : Nat} {ct : Nat → va_E} (x0 : Int32) (x1 : UInt64) (x2 : UInt64) {r : Int32} (hg : gX5_isSoOf x0 x1 x2 = some r) : Ct G l yX5_isSoOf cX5_isSoOf 5 (some .boolean) ({ frames := 0, cells := 0, slots := 0, locals := 0 } : Room) [.int x0, .double x1, .double x2] z ct N (some (.int r)) ct N := by
  refine Ct.of (lv := [(0, .int x0), (1, .double x1), (3, .double x2)]) (by decide +kernel) (Nat.le_of_ble_eq_true rfl) rfl (fun p e s m args below meth c C => ?_)
  rw [gX5_isSoOf] at hg
  refine j_iload_n C dX5_isSoOf_0 0 rfl rfl ?_
  by_cases c1_0 : x0 = (0 : Int32)
  · replace hg := (if_pos c1_0).symm.trans hg
    refine j_tableIn (off := 35) C 36 dX5_isSoOf_1 (by rw [c1_0]; decide) (by rw [c1_0]; decide) (by rw [c1_0]; rfl) (by decide) ?_
    refine j_dload_n C dX5_isSoOf_36 1 rfl rfl ?_
    refine j_dload_n C dX5_isSoOf_37 2 rfl rfl ?_
    refine j_dcmp C dX5_isSoOf_38 ?_
    refine j_if_ge C 46 hg dX5_isSoOf_39 (by decide) (fun hg => ?_) (fun hg => ?_)
    · refine j_iconst (v := 0) C dX5_isSoOf_46 (by decide) ?_
      exact j_zret C dX5_isSoOf_47 (by decide) (by rw [← Option.some.inj hg]) rfl rfl
    · refine j_iconst (v := 1) C dX5_isSoOf_42 (by decide) ?_
      refine j_goto C 47 dX5_isSoOf_43 (by decide) ?_
      exact j_zret C dX5_isSoOf_47 (by decide) (by rw [← Option.some.inj hg]) rfl rfl
  · replace hg := (if_neg c1_0).symm.trans hg
    by_cases c1_1 : x0 = (1 : Int32)
    · replace hg := (if_pos c1_1).symm.trans hg
      refine j_tableIn (off := 47) C 48 dX5_isSoOf_1 (by rw [c1_1]; decide) (by rw [c1_1]; decide) (by rw [c1_1]; rfl) (by decide) ?_
      refine j_dload_n C dX5_isSoOf_48 1 rfl rfl ?_
      refine j_dload_n C dX5_isSoOf_49 2 rfl rfl ?_
      refine j_dcmp C dX5_isSoOf_50 ?_
      refine j_if_gt C 58 hg dX5_isSoOf_51 (by decide) (fun hg => ?_) (fun hg => ?_)
      · refine j_iconst (v := 0) C dX5_isSoOf_58 (by decide) ?_
        exact j_zret C dX5_isSoOf_59 (by decide) (by rw [← Option.some.inj hg]) rfl rfl
      · refine j_iconst (v := 1) C dX5_isSoOf_54 (by decide) ?_
        refine j_goto C 59 dX5_isSoOf_55 (by decide) ?_
        exact j_zret C dX5_isSoOf_59 (by decide) (by rw [← Option.some.inj hg]) rfl rfl
    · replace hg := (if_neg c1_1).symm.trans hg
      by_cases c1_2 : x0 = (2 : Int32)
      · replace hg := (if_pos c1_2).symm.trans hg
        refine j_tableIn (off := 59) C 60 dX5_isSoOf_1 (by rw [c1_2]; decide) (by rw [c1_2]; decide) (by rw [c1_2]; rfl) (by decide) ?_
        refine j_dload_n C dX5_isSoOf_60 1 rfl rfl ?_
        refine j_dload_n C dX5_isSoOf_61 2 rfl rfl ?_
        refine j_dcmp C dX5_isSoOf_62 ?_
        refine j_if_le C 70 hg dX5_isSoOf_63 (by decide) (fun hg => ?_) (fun hg => ?_)
        · refine j_iconst (v := 0) C dX5_isSoOf_70 (by decide) ?_
          exact j_zret C dX5_isSoOf_71 (by decide) (by rw [← Option.some.inj hg]) rfl rfl
        · refine j_iconst (v := 1) C dX5_isSoOf_66 (by decide) ?_
          refine j_goto C 71 dX5_isSoOf_67 (by decide) ?_
          exact j_zret C dX5_isSoOf_71 (by decide) (by rw [← Option.some.inj hg]) rfl rfl
      · replace hg := (if_neg c1_2).symm.trans hg
        by_cases c1_3 : x0 = (3 : Int32)
        · replace hg := (if_pos c1_3).symm.trans hg
          refine j_tableIn (off := 71) C 72 dX5_isSoOf_1 (by rw [c1_3]; decide) (by rw [c1_3]; decide) (by rw [c1_3]; rfl) (by decide) ?_
          refine j_dload_n C dX5_isSoOf_72 1 rfl rfl ?_
          refine j_dload_n C dX5_isSoOf_73 2 rfl rfl ?_
          refine j_dcmp C dX5_isSoOf_74 ?_
          refine j_if_lt C 82 hg dX5_isSoOf_75 (by decide) (fun hg => ?_) (fun hg => ?_)
          · refine j_iconst (v := 0) C dX5_isSoOf_82 (by decide) ?_
            exact j_zret C dX5_isSoOf_83 (by decide) (by rw [← Option.some.inj hg]) rfl rfl
          · refine j_iconst (v := 1) C dX5_isSoOf_78 (by decide) ?_
            refine j_goto C 83 dX5_isSoOf_79 (by decide) ?_
            exact j_zret C dX5_isSoOf_83 (by decide) (by rw [← Option.some.inj hg]) rfl rfl
        · replace hg := (if_neg c1_3).symm.trans hg
          by_cases c1_4 : x0 = (4 : Int32)
          · replace hg := (if_pos c1_4).symm.trans hg
            refine j_tableIn (off := 83) C 84 dX5_isSoOf_1 (by rw [c1_4]; decide) (by rw [c1_4]; decide) (by rw [c1_4]; rfl) (by decide) ?_
            refine j_dload_n C dX5_isSoOf_84 1 rfl rfl ?_
            refine j_dload_n C dX5_isSoOf_85 2 rfl rfl ?_
            refine j_dcmp C dX5_isSoOf_86 ?_
            refine j_if_ne C 94 hg dX5_isSoOf_87 (by decide) (fun hg => ?_) (fun hg => ?_)
            · refine j_iconst (v := 0) C dX5_isSoOf_94 (by decide) ?_
              exact j_zret C dX5_isSoOf_95 (by decide) (by rw [← Option.some.inj hg]) rfl rfl
            · refine j_iconst (v := 1) C dX5_isSoOf_90 (by decide) ?_
              refine j_goto C 95 dX5_isSoOf_91 (by decide) ?_
              exact j_zret C dX5_isSoOf_95 (by decide) (by rw [← Option.some.inj hg]) rfl rfl
          · replace hg := (if_neg c1_4).symm.trans hg
            have nc1_0 : ¬ x0.toInt = 0 := fun h => c1_0 (Int32.toInt_inj.mp (h.trans (by decide)))
            have nc1_1 : ¬ x0.toInt = 1 := fun h => c1_1 (Int32.toInt_inj.mp (h.trans (by decide)))
            have nc1_2 : ¬ x0.toInt = 2 := fun h => c1_2 (Int32.toInt_inj.mp (h.trans (by decide)))
            have nc1_3 : ¬ x0.toInt = 3 := fun h => c1_3 (Int32.toInt_inj.mp (h.trans (by decide)))
            have nc1_4 : ¬ x0.toInt = 4 := fun h => c1_4 (Int32.toInt_inj.mp (h.trans (by decide)))
            refine j_tableOut C 96 dX5_isSoOf_1 (by omega) (by decide) ?_
            refine j_dload_n C dX5_isSoOf_96 1 rfl rfl ?_
            refine j_dload_n C dX5_isSoOf_97 2 rfl rfl ?_
            refine j_dcmp C dX5_isSoOf_98 ?_
            refine j_if_eq C 106 hg dX5_isSoOf_99 (by decide) (fun hg => ?_) (fun hg => ?_)
            · refine j_iconst (v := 0) C dX5_isSoOf_106 (by decide) ?_
              exact j_zret C dX5_isSoOf_107 (by decide) (by rw [← Option.some.inj hg]) rfl rfl
            · refine j_iconst (v := 1) C dX5_isSoOf_102 (by decide) ?_
              refine j_goto C 107 dX5_isSoOf_103 (by decide) ?_
              exact j_zret C dX5_isSoOf_107 (by decide) (by rw [← Option.some.inj hg]) rfl rfl
