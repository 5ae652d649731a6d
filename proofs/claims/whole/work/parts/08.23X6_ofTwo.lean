def gX6_ofTwo (x0 : Int32) (x1 : UInt64) (x2 : UInt64) (x3 : Int32) : Option UInt64 := if x0 = (9 : Int32) then ((gX6_sum x1 x2 x3).bind (fun r13 => some r13)) else (if x0 = (10 : Int32) then ((gX6_sum x1 (FP.dneg x2) x3).bind (fun r12 => some r12)) else (if x0 = (11 : Int32) then ((gX6_product x1 x2 x3).bind (fun r11 => some r11)) else (if x0 = (12 : Int32) then ((gX6_quotient x1 x2 x3).bind (fun r10 => some r10)) else (if x0 = (13 : Int32) then ((gX6_remainder x1 x2).bind (fun r9 => some r9)) else (if x0 = (14 : Int32) then ((gX6_lesser x1 x2).bind (fun r8 => some r8)) else (if x0 = (15 : Int32) then ((gX6_greater x1 x2).bind (fun r7 => some r7)) else (if x0 = (16 : Int32) then ((gX6_hasMinus x2).bind (fun r5 => (gX6_withSign x1 r5).bind (fun r6 => some r6))) else ((gX6_quotient x1 x2 x3).bind (fun r2 => (gX6_nearest r2).bind (fun r3 => (gX6_product r3 x2 x3).bind (fun r4 => some r4)))))))))))
theorem hd_X6_ofTwo : yX6_ofTwo.cls ≠ "java/lang/invoke/MethodHandle" ∧ yX6_ofTwo.cls ≠ "java/lang/invoke/VarHandle" ∧ (parseMethodDescriptor yX6_ofTwo.desc).map (fun d => d.parameters.length) = some 4 := by decide +kernel
set_option maxHeartbeats 4000000 in
set_option maxRecDepth 100000 in
theorem tX6_ofTwo {G : GG} {l : Launch} {z N : Nat} {ct : Nat → va_E} (x0 : Int32) (x1 : UInt64) (x2 : UInt64) (x3 : Int32) {r : UInt64} (hg : gX6_ofTwo x0 x1 x2 x3 = some r) : Ct G l yX6_ofTwo cX6_ofTwo 6 (some .double) ({ frames := 2, cells := 0, slots := 0, locals := 71 } : Room) [.int x0, .double x1, .double x2, .int x3] z ct N (some (.double r)) ct N := by
  refine Ct.of (lv := [(0, .int x0), (1, .double x1), (3, .double x2), (5, .int x3)]) (by decide +kernel) (Nat.le_of_ble_eq_true rfl) rfl (fun p e s m args below meth c C => ?_)
  rw [gX6_ofTwo] at hg
  refine j_iload_n C dX6_ofTwo_0 0 rfl rfl ?_
  by_cases c1_0 : x0 = (9 : Int32)
  · replace hg := (if_pos c1_0).symm.trans hg
    refine j_tableIn (off := 47) C 48 dX6_ofTwo_1 (by rw [c1_0]; decide) (by rw [c1_0]; decide) (by rw [c1_0]; rfl) (by decide) ?_
    refine j_dload_n C dX6_ofTwo_48 1 rfl rfl ?_
    refine j_dload_n C dX6_ofTwo_49 2 rfl rfl ?_
    refine j_iload C dX6_ofTwo_50 3 rfl ?_
    obtain ⟨r13, hr13, hg⟩ := ob hg
    refine j_callS C [.double x1, .double x2, .int x3] (tX6_sum x1 x2 x3 hr13) q2_148 q1_10 q2_147 q2_146 hd_X6_sum rfl dX6_ofTwo_52 rfl (Nat.le_of_ble_eq_true rfl) ⟨(Nat.le_of_ble_eq_true rfl), (Nat.le_of_ble_eq_true rfl)⟩ ⟨(Nat.le_of_ble_eq_true rfl), (Nat.le_of_ble_eq_true rfl)⟩ ?_
    exact j_dret C dX6_ofTwo_55 (by rw [← Option.some.inj hg]) rfl rfl
  · replace hg := (if_neg c1_0).symm.trans hg
    by_cases c1_1 : x0 = (10 : Int32)
    · replace hg := (if_pos c1_1).symm.trans hg
      refine j_tableIn (off := 55) C 56 dX6_ofTwo_1 (by rw [c1_1]; decide) (by rw [c1_1]; decide) (by rw [c1_1]; rfl) (by decide) ?_
      refine j_dload_n C dX6_ofTwo_56 1 rfl rfl ?_
      refine j_dload_n C dX6_ofTwo_57 2 rfl rfl ?_
      refine j_dneg C dX6_ofTwo_58 ?_
      refine j_iload C dX6_ofTwo_59 3 rfl ?_
      obtain ⟨r12, hr12, hg⟩ := ob hg
      refine j_callS C [.double x1, .double (FP.dneg x2), .int x3] (tX6_sum x1 (FP.dneg x2) x3 hr12) q2_148 q1_10 q2_147 q2_146 hd_X6_sum rfl dX6_ofTwo_61 rfl (Nat.le_of_ble_eq_true rfl) ⟨(Nat.le_of_ble_eq_true rfl), (Nat.le_of_ble_eq_true rfl)⟩ ⟨(Nat.le_of_ble_eq_true rfl), (Nat.le_of_ble_eq_true rfl)⟩ ?_
      exact j_dret C dX6_ofTwo_64 (by rw [← Option.some.inj hg]) rfl rfl
    · replace hg := (if_neg c1_1).symm.trans hg
      by_cases c1_2 : x0 = (11 : Int32)
      · replace hg := (if_pos c1_2).symm.trans hg
        refine j_tableIn (off := 64) C 65 dX6_ofTwo_1 (by rw [c1_2]; decide) (by rw [c1_2]; decide) (by rw [c1_2]; rfl) (by decide) ?_
        refine j_dload_n C dX6_ofTwo_65 1 rfl rfl ?_
        refine j_dload_n C dX6_ofTwo_66 2 rfl rfl ?_
        refine j_iload C dX6_ofTwo_67 3 rfl ?_
        obtain ⟨r11, hr11, hg⟩ := ob hg
        refine j_callS C [.double x1, .double x2, .int x3] (tX6_product x1 x2 x3 hr11) q2_130 q1_10 q2_129 q2_128 hd_X6_product rfl dX6_ofTwo_69 rfl (Nat.le_of_ble_eq_true rfl) ⟨(Nat.le_of_ble_eq_true rfl), (Nat.le_of_ble_eq_true rfl)⟩ ⟨(Nat.le_of_ble_eq_true rfl), (Nat.le_of_ble_eq_true rfl)⟩ ?_
        exact j_dret C dX6_ofTwo_72 (by rw [← Option.some.inj hg]) rfl rfl
      · replace hg := (if_neg c1_2).symm.trans hg
        by_cases c1_3 : x0 = (12 : Int32)
        · replace hg := (if_pos c1_3).symm.trans hg
          refine j_tableIn (off := 72) C 73 dX6_ofTwo_1 (by rw [c1_3]; decide) (by rw [c1_3]; decide) (by rw [c1_3]; rfl) (by decide) ?_
          refine j_dload_n C dX6_ofTwo_73 1 rfl rfl ?_
          refine j_dload_n C dX6_ofTwo_74 2 rfl rfl ?_
          refine j_iload C dX6_ofTwo_75 3 rfl ?_
          obtain ⟨r10, hr10, hg⟩ := ob hg
          refine j_callS C [.double x1, .double x2, .int x3] (tX6_quotient x1 x2 x3 hr10) q2_127 q1_10 q2_126 q2_125 hd_X6_quotient rfl dX6_ofTwo_77 rfl (Nat.le_of_ble_eq_true rfl) ⟨(Nat.le_of_ble_eq_true rfl), (Nat.le_of_ble_eq_true rfl)⟩ ⟨(Nat.le_of_ble_eq_true rfl), (Nat.le_of_ble_eq_true rfl)⟩ ?_
          exact j_dret C dX6_ofTwo_80 (by rw [← Option.some.inj hg]) rfl rfl
        · replace hg := (if_neg c1_3).symm.trans hg
          by_cases c1_4 : x0 = (13 : Int32)
          · replace hg := (if_pos c1_4).symm.trans hg
            refine j_tableIn (off := 80) C 81 dX6_ofTwo_1 (by rw [c1_4]; decide) (by rw [c1_4]; decide) (by rw [c1_4]; rfl) (by decide) ?_
            refine j_dload_n C dX6_ofTwo_81 1 rfl rfl ?_
            refine j_dload_n C dX6_ofTwo_82 2 rfl rfl ?_
            obtain ⟨r9, hr9, hg⟩ := ob hg
            refine j_callS C [.double x1, .double x2] (tX6_remainder x1 x2 hr9) q2_151 q1_10 q2_150 q2_149 hd_X6_remainder rfl dX6_ofTwo_83 rfl (Nat.le_of_ble_eq_true rfl) ⟨(Nat.le_of_ble_eq_true rfl), (Nat.le_of_ble_eq_true rfl)⟩ ⟨(Nat.le_of_ble_eq_true rfl), (Nat.le_of_ble_eq_true rfl)⟩ ?_
            exact j_dret C dX6_ofTwo_86 (by rw [← Option.some.inj hg]) rfl rfl
          · replace hg := (if_neg c1_4).symm.trans hg
            by_cases c1_5 : x0 = (14 : Int32)
            · replace hg := (if_pos c1_5).symm.trans hg
              refine j_tableIn (off := 86) C 87 dX6_ofTwo_1 (by rw [c1_5]; decide) (by rw [c1_5]; decide) (by rw [c1_5]; rfl) (by decide) ?_
              refine j_dload_n C dX6_ofTwo_87 1 rfl rfl ?_
              refine j_dload_n C dX6_ofTwo_88 2 rfl rfl ?_
              obtain ⟨r8, hr8, hg⟩ := ob hg
              refine j_callS C [.double x1, .double x2] (tX6_lesser x1 x2 hr8) q2_175 q1_10 q2_174 q2_173 hd_X6_lesser rfl dX6_ofTwo_89 rfl (Nat.le_of_ble_eq_true rfl) ⟨(Nat.le_of_ble_eq_true rfl), (Nat.le_of_ble_eq_true rfl)⟩ ⟨(Nat.le_of_ble_eq_true rfl), (Nat.le_of_ble_eq_true rfl)⟩ ?_
              exact j_dret C dX6_ofTwo_92 (by rw [← Option.some.inj hg]) rfl rfl
            · replace hg := (if_neg c1_5).symm.trans hg
              by_cases c1_6 : x0 = (15 : Int32)
              · replace hg := (if_pos c1_6).symm.trans hg
                refine j_tableIn (off := 92) C 93 dX6_ofTwo_1 (by rw [c1_6]; decide) (by rw [c1_6]; decide) (by rw [c1_6]; rfl) (by decide) ?_
                refine j_dload_n C dX6_ofTwo_93 1 rfl rfl ?_
                refine j_dload_n C dX6_ofTwo_94 2 rfl rfl ?_
                obtain ⟨r7, hr7, hg⟩ := ob hg
                refine j_callS C [.double x1, .double x2] (tX6_greater x1 x2 hr7) q2_181 q1_10 q2_180 q2_179 hd_X6_greater rfl dX6_ofTwo_95 rfl (Nat.le_of_ble_eq_true rfl) ⟨(Nat.le_of_ble_eq_true rfl), (Nat.le_of_ble_eq_true rfl)⟩ ⟨(Nat.le_of_ble_eq_true rfl), (Nat.le_of_ble_eq_true rfl)⟩ ?_
                exact j_dret C dX6_ofTwo_98 (by rw [← Option.some.inj hg]) rfl rfl
              · replace hg := (if_neg c1_6).symm.trans hg
                by_cases c1_7 : x0 = (16 : Int32)
                · replace hg := (if_pos c1_7).symm.trans hg
                  refine j_tableIn (off := 98) C 99 dX6_ofTwo_1 (by rw [c1_7]; decide) (by rw [c1_7]; decide) (by rw [c1_7]; rfl) (by decide) ?_
                  refine j_dload_n C dX6_ofTwo_99 1 rfl rfl ?_
                  refine j_dload_n C dX6_ofTwo_100 2 rfl rfl ?_
                  obtain ⟨r5, hr5, hg⟩ := ob hg
                  refine j_callS C [.double x2] (tX6_hasMinus x2 hr5) q2_109 q1_10 q2_108 q2_107 hd_X6_hasMinus rfl dX6_ofTwo_101 rfl (Nat.le_of_ble_eq_true rfl) ⟨(Nat.le_of_ble_eq_true rfl), (Nat.le_of_ble_eq_true rfl)⟩ ⟨(Nat.le_of_ble_eq_true rfl), (Nat.le_of_ble_eq_true rfl)⟩ ?_
                  obtain ⟨r6, hr6, hg⟩ := ob hg
                  refine j_callS C [.double x1, .int r5] (tX6_withSign x1 r5 hr6) q2_106 q1_10 q2_105 q2_104 hd_X6_withSign rfl dX6_ofTwo_104 rfl (Nat.le_of_ble_eq_true rfl) ⟨(Nat.le_of_ble_eq_true rfl), (Nat.le_of_ble_eq_true rfl)⟩ ⟨(Nat.le_of_ble_eq_true rfl), (Nat.le_of_ble_eq_true rfl)⟩ ?_
                  exact j_dret C dX6_ofTwo_107 (by rw [← Option.some.inj hg]) rfl rfl
                · replace hg := (if_neg c1_7).symm.trans hg
                  have nc1_0 : ¬ x0.toInt = 9 := fun h => c1_0 (Int32.toInt_inj.mp (h.trans (by decide)))
                  have nc1_1 : ¬ x0.toInt = 10 := fun h => c1_1 (Int32.toInt_inj.mp (h.trans (by decide)))
                  have nc1_2 : ¬ x0.toInt = 11 := fun h => c1_2 (Int32.toInt_inj.mp (h.trans (by decide)))
                  have nc1_3 : ¬ x0.toInt = 12 := fun h => c1_3 (Int32.toInt_inj.mp (h.trans (by decide)))
                  have nc1_4 : ¬ x0.toInt = 13 := fun h => c1_4 (Int32.toInt_inj.mp (h.trans (by decide)))
                  have nc1_5 : ¬ x0.toInt = 14 := fun h => c1_5 (Int32.toInt_inj.mp (h.trans (by decide)))
                  have nc1_6 : ¬ x0.toInt = 15 := fun h => c1_6 (Int32.toInt_inj.mp (h.trans (by decide)))
                  have nc1_7 : ¬ x0.toInt = 16 := fun h => c1_7 (Int32.toInt_inj.mp (h.trans (by decide)))
                  refine j_tableOut C 108 dX6_ofTwo_1 (by omega) (by decide) ?_
                  refine j_dload_n C dX6_ofTwo_108 1 rfl rfl ?_
                  refine j_dload_n C dX6_ofTwo_109 2 rfl rfl ?_
                  refine j_iload C dX6_ofTwo_110 3 rfl ?_
                  obtain ⟨r2, hr2, hg⟩ := ob hg
                  refine j_callS C [.double x1, .double x2, .int x3] (tX6_quotient x1 x2 x3 hr2) q2_127 q1_10 q2_126 q2_125 hd_X6_quotient rfl dX6_ofTwo_112 rfl (Nat.le_of_ble_eq_true rfl) ⟨(Nat.le_of_ble_eq_true rfl), (Nat.le_of_ble_eq_true rfl)⟩ ⟨(Nat.le_of_ble_eq_true rfl), (Nat.le_of_ble_eq_true rfl)⟩ ?_
                  obtain ⟨r3, hr3, hg⟩ := ob hg
                  refine j_callS C [.double r2] (tX6_nearest r2 hr3) q2_123 q1_10 q2_122 q2_121 hd_X6_nearest rfl dX6_ofTwo_115 rfl (Nat.le_of_ble_eq_true rfl) ⟨(Nat.le_of_ble_eq_true rfl), (Nat.le_of_ble_eq_true rfl)⟩ ⟨(Nat.le_of_ble_eq_true rfl), (Nat.le_of_ble_eq_true rfl)⟩ ?_
                  refine j_dload_n C dX6_ofTwo_118 2 rfl rfl ?_
                  refine j_iload C dX6_ofTwo_119 3 rfl ?_
                  obtain ⟨r4, hr4, hg⟩ := ob hg
                  refine j_callS C [.double r3, .double x2, .int x3] (tX6_product r3 x2 x3 hr4) q2_130 q1_10 q2_129 q2_128 hd_X6_product rfl dX6_ofTwo_121 rfl (Nat.le_of_ble_eq_true rfl) ⟨(Nat.le_of_ble_eq_true rfl), (Nat.le_of_ble_eq_true rfl)⟩ ⟨(Nat.le_of_ble_eq_true rfl), (Nat.le_of_ble_eq_true rfl)⟩ ?_
                  exact j_dret C dX6_ofTwo_124 (by rw [← Option.some.inj hg]) rfl rfl
