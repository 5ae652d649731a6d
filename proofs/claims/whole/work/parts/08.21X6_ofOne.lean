def gX6_ofOne (x0 : Int32) (x1 : UInt64) (x2 : Int32) : Option UInt64 := if x0 = (1 : Int32) then ((gX6_withSign x1 (0 : Int32)).bind (fun r7 => some r7)) else (if x0 = (2 : Int32) then ((gX6_floor x1).bind (fun r6 => some r6)) else (if x0 = (3 : Int32) then ((gX6_floor (FP.dneg x1)).bind (fun r5 => some (FP.dneg r5))) else (if x0 = (4 : Int32) then ((gX6_nearest x1).bind (fun r4 => some r4)) else (if x0 = (5 : Int32) then (if (Op.cmpValue (FP.dcmp x1 FP.dconst0) CmpOp.l) ≤ 0 then (if 0 ≤ (Op.cmpValue (FP.dcmp x1 FP.dconst0) CmpOp.g) then (some x1) else (some (13830554455654793216 : UInt64))) else (some FP.dconst1)) else (if x0 = (6 : Int32) then ((gX6_quotient x1 (4611686018427387904 : UInt64) x2).bind (fun r3 => some r3)) else (if x0 = (7 : Int32) then ((gX6_product x1 (4611686018427387904 : UInt64) x2).bind (fun r2 => some r2)) else (if x0 = (8 : Int32) then (some (FP.dneg x1)) else (some x1))))))))
theorem hd_X6_ofOne : yX6_ofOne.cls ≠ "java/lang/invoke/MethodHandle" ∧ yX6_ofOne.cls ≠ "java/lang/invoke/VarHandle" ∧ (parseMethodDescriptor yX6_ofOne.desc).map (fun d => d.parameters.length) = some 3 := by decide +kernel
set_option maxHeartbeats 4000000 in
set_option maxRecDepth 100000 in
theorem tX6_ofOne {G : GG} {l : Launch} {z N : Nat} {ct : Nat → va_E} (x0 : Int32) (x1 : UInt64) (x2 : Int32) {r : UInt64} (hg : gX6_ofOne x0 x1 x2 = some r) : Ct G l yX6_ofOne cX6_ofOne 4 (some .double) ({ frames := 2, cells := 0, slots := 0, locals := 48 } : Room) [.int x0, .double x1, .int x2] z ct N (some (.double r)) ct N := by
  refine Ct.of (lv := [(0, .int x0), (1, .double x1), (3, .int x2)]) (by decide +kernel) (Nat.le_of_ble_eq_true rfl) rfl (fun p e s m args below meth c C => ?_)
  rw [gX6_ofOne] at hg
  refine j_iload_n C dX6_ofOne_0 0 rfl rfl ?_
  by_cases c1_0 : x0 = (1 : Int32)
  · replace hg := (if_pos c1_0).symm.trans hg
    refine j_tableIn (off := 47) C 48 dX6_ofOne_1 (by rw [c1_0]; decide) (by rw [c1_0]; decide) (by rw [c1_0]; rfl) (by decide) ?_
    refine j_dload_n C dX6_ofOne_48 1 rfl rfl ?_
    refine j_iconst (v := 0) C dX6_ofOne_49 (by decide) ?_
    obtain ⟨r7, hr7, hg⟩ := ob hg
    refine j_callS C [.double x1, .int (0 : Int32)] (tX6_withSign x1 (0 : Int32) hr7) q2_106 q1_10 q2_105 q2_104 hd_X6_withSign rfl dX6_ofOne_50 rfl (Nat.le_of_ble_eq_true rfl) ⟨(Nat.le_of_ble_eq_true rfl), (Nat.le_of_ble_eq_true rfl)⟩ ⟨(Nat.le_of_ble_eq_true rfl), (Nat.le_of_ble_eq_true rfl)⟩ ?_
    exact j_dret C dX6_ofOne_53 (by rw [← Option.some.inj hg]) rfl rfl
  · replace hg := (if_neg c1_0).symm.trans hg
    by_cases c1_1 : x0 = (2 : Int32)
    · replace hg := (if_pos c1_1).symm.trans hg
      refine j_tableIn (off := 53) C 54 dX6_ofOne_1 (by rw [c1_1]; decide) (by rw [c1_1]; decide) (by rw [c1_1]; rfl) (by decide) ?_
      refine j_dload_n C dX6_ofOne_54 1 rfl rfl ?_
      obtain ⟨r6, hr6, hg⟩ := ob hg
      refine j_callS C [.double x1] (tX6_floor x1 hr6) q2_112 q1_10 q2_111 q2_110 hd_X6_floor rfl dX6_ofOne_55 rfl (Nat.le_of_ble_eq_true rfl) ⟨(Nat.le_of_ble_eq_true rfl), (Nat.le_of_ble_eq_true rfl)⟩ ⟨(Nat.le_of_ble_eq_true rfl), (Nat.le_of_ble_eq_true rfl)⟩ ?_
      exact j_dret C dX6_ofOne_58 (by rw [← Option.some.inj hg]) rfl rfl
    · replace hg := (if_neg c1_1).symm.trans hg
      by_cases c1_2 : x0 = (3 : Int32)
      · replace hg := (if_pos c1_2).symm.trans hg
        refine j_tableIn (off := 58) C 59 dX6_ofOne_1 (by rw [c1_2]; decide) (by rw [c1_2]; decide) (by rw [c1_2]; rfl) (by decide) ?_
        refine j_dload_n C dX6_ofOne_59 1 rfl rfl ?_
        refine j_dneg C dX6_ofOne_60 ?_
        obtain ⟨r5, hr5, hg⟩ := ob hg
        refine j_callS C [.double (FP.dneg x1)] (tX6_floor (FP.dneg x1) hr5) q2_112 q1_10 q2_111 q2_110 hd_X6_floor rfl dX6_ofOne_61 rfl (Nat.le_of_ble_eq_true rfl) ⟨(Nat.le_of_ble_eq_true rfl), (Nat.le_of_ble_eq_true rfl)⟩ ⟨(Nat.le_of_ble_eq_true rfl), (Nat.le_of_ble_eq_true rfl)⟩ ?_
        refine j_dneg C dX6_ofOne_64 ?_
        exact j_dret C dX6_ofOne_65 (by rw [← Option.some.inj hg]) rfl rfl
      · replace hg := (if_neg c1_2).symm.trans hg
        by_cases c1_3 : x0 = (4 : Int32)
        · replace hg := (if_pos c1_3).symm.trans hg
          refine j_tableIn (off := 65) C 66 dX6_ofOne_1 (by rw [c1_3]; decide) (by rw [c1_3]; decide) (by rw [c1_3]; rfl) (by decide) ?_
          refine j_dload_n C dX6_ofOne_66 1 rfl rfl ?_
          obtain ⟨r4, hr4, hg⟩ := ob hg
          refine j_callS C [.double x1] (tX6_nearest x1 hr4) q2_123 q1_10 q2_122 q2_121 hd_X6_nearest rfl dX6_ofOne_67 rfl (Nat.le_of_ble_eq_true rfl) ⟨(Nat.le_of_ble_eq_true rfl), (Nat.le_of_ble_eq_true rfl)⟩ ⟨(Nat.le_of_ble_eq_true rfl), (Nat.le_of_ble_eq_true rfl)⟩ ?_
          exact j_dret C dX6_ofOne_70 (by rw [← Option.some.inj hg]) rfl rfl
        · replace hg := (if_neg c1_3).symm.trans hg
          by_cases c1_4 : x0 = (5 : Int32)
          · replace hg := (if_pos c1_4).symm.trans hg
            refine j_tableIn (off := 70) C 71 dX6_ofOne_1 (by rw [c1_4]; decide) (by rw [c1_4]; decide) (by rw [c1_4]; rfl) (by decide) ?_
            refine j_dload_n C dX6_ofOne_71 1 rfl rfl ?_
            refine j_dconst0 C dX6_ofOne_72 ?_
            refine j_dcmp C dX6_ofOne_73 ?_
            refine j_if_le C 81 hg dX6_ofOne_74 (by decide) (fun hg => ?_) (fun hg => ?_)
            · refine j_dload_n C dX6_ofOne_81 1 rfl rfl ?_
              refine j_dconst0 C dX6_ofOne_82 ?_
              refine j_dcmp C dX6_ofOne_83 ?_
              refine j_if_ge C 93 hg dX6_ofOne_84 (by decide) (fun hg => ?_) (fun hg => ?_)
              · refine j_dload_n C dX6_ofOne_93 1 rfl rfl ?_
                exact j_dret C dX6_ofOne_94 (by rw [← Option.some.inj hg]) rfl rfl
              · refine j_ldc2d C q2_124 dX6_ofOne_87 ?_
                refine j_goto C 94 dX6_ofOne_90 (by decide) ?_
                exact j_dret C dX6_ofOne_94 (by rw [← Option.some.inj hg]) rfl rfl
            · refine j_dconst1 C dX6_ofOne_77 ?_
              refine j_goto C 94 dX6_ofOne_78 (by decide) ?_
              exact j_dret C dX6_ofOne_94 (by rw [← Option.some.inj hg]) rfl rfl
          · replace hg := (if_neg c1_4).symm.trans hg
            by_cases c1_5 : x0 = (6 : Int32)
            · replace hg := (if_pos c1_5).symm.trans hg
              refine j_tableIn (off := 94) C 95 dX6_ofOne_1 (by rw [c1_5]; decide) (by rw [c1_5]; decide) (by rw [c1_5]; rfl) (by decide) ?_
              refine j_dload_n C dX6_ofOne_95 1 rfl rfl ?_
              refine j_ldc2d C q1_226 dX6_ofOne_96 ?_
              refine j_iload_n C dX6_ofOne_99 2 rfl rfl ?_
              obtain ⟨r3, hr3, hg⟩ := ob hg
              refine j_callS C [.double x1, .double (4611686018427387904 : UInt64), .int x2] (tX6_quotient x1 (4611686018427387904 : UInt64) x2 hr3) q2_127 q1_10 q2_126 q2_125 hd_X6_quotient rfl dX6_ofOne_100 rfl (Nat.le_of_ble_eq_true rfl) ⟨(Nat.le_of_ble_eq_true rfl), (Nat.le_of_ble_eq_true rfl)⟩ ⟨(Nat.le_of_ble_eq_true rfl), (Nat.le_of_ble_eq_true rfl)⟩ ?_
              exact j_dret C dX6_ofOne_103 (by rw [← Option.some.inj hg]) rfl rfl
            · replace hg := (if_neg c1_5).symm.trans hg
              by_cases c1_6 : x0 = (7 : Int32)
              · replace hg := (if_pos c1_6).symm.trans hg
                refine j_tableIn (off := 103) C 104 dX6_ofOne_1 (by rw [c1_6]; decide) (by rw [c1_6]; decide) (by rw [c1_6]; rfl) (by decide) ?_
                refine j_dload_n C dX6_ofOne_104 1 rfl rfl ?_
                refine j_ldc2d C q1_226 dX6_ofOne_105 ?_
                refine j_iload_n C dX6_ofOne_108 2 rfl rfl ?_
                obtain ⟨r2, hr2, hg⟩ := ob hg
                refine j_callS C [.double x1, .double (4611686018427387904 : UInt64), .int x2] (tX6_product x1 (4611686018427387904 : UInt64) x2 hr2) q2_130 q1_10 q2_129 q2_128 hd_X6_product rfl dX6_ofOne_109 rfl (Nat.le_of_ble_eq_true rfl) ⟨(Nat.le_of_ble_eq_true rfl), (Nat.le_of_ble_eq_true rfl)⟩ ⟨(Nat.le_of_ble_eq_true rfl), (Nat.le_of_ble_eq_true rfl)⟩ ?_
                exact j_dret C dX6_ofOne_112 (by rw [← Option.some.inj hg]) rfl rfl
              · replace hg := (if_neg c1_6).symm.trans hg
                by_cases c1_7 : x0 = (8 : Int32)
                · replace hg := (if_pos c1_7).symm.trans hg
                  refine j_tableIn (off := 112) C 113 dX6_ofOne_1 (by rw [c1_7]; decide) (by rw [c1_7]; decide) (by rw [c1_7]; rfl) (by decide) ?_
                  refine j_dload_n C dX6_ofOne_113 1 rfl rfl ?_
                  refine j_dneg C dX6_ofOne_114 ?_
                  exact j_dret C dX6_ofOne_115 (by rw [← Option.some.inj hg]) rfl rfl
                · replace hg := (if_neg c1_7).symm.trans hg
                  have nc1_0 : ¬ x0.toInt = 1 := fun h => c1_0 (Int32.toInt_inj.mp (h.trans (by decide)))
                  have nc1_1 : ¬ x0.toInt = 2 := fun h => c1_1 (Int32.toInt_inj.mp (h.trans (by decide)))
                  have nc1_2 : ¬ x0.toInt = 3 := fun h => c1_2 (Int32.toInt_inj.mp (h.trans (by decide)))
                  have nc1_3 : ¬ x0.toInt = 4 := fun h => c1_3 (Int32.toInt_inj.mp (h.trans (by decide)))
                  have nc1_4 : ¬ x0.toInt = 5 := fun h => c1_4 (Int32.toInt_inj.mp (h.trans (by decide)))
                  have nc1_5 : ¬ x0.toInt = 6 := fun h => c1_5 (Int32.toInt_inj.mp (h.trans (by decide)))
                  have nc1_6 : ¬ x0.toInt = 7 := fun h => c1_6 (Int32.toInt_inj.mp (h.trans (by decide)))
                  have nc1_7 : ¬ x0.toInt = 8 := fun h => c1_7 (Int32.toInt_inj.mp (h.trans (by decide)))
                  refine j_tableOut C 116 dX6_ofOne_1 (by omega) (by decide) ?_
                  refine j_dload_n C dX6_ofOne_116 1 rfl rfl ?_
                  exact j_dret C dX6_ofOne_117 (by rw [← Option.some.inj hg]) rfl rfl
