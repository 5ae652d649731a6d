def gX6_isVoid_184 (x0 : Int32) (x1 : UInt64) (x2 : UInt64) : Option Int32 := (gX6_isInfinite x1).bind (fun r9 => if r9 = 0 then (some (0 : Int32)) else ((gX6_isInfinite x2).bind (fun r10 => if r10 = 0 then (some (0 : Int32)) else (some (1 : Int32)))))
def gX6_isVoid_153 (x0 : Int32) (x1 : UInt64) (x2 : UInt64) : Option Int32 := (gX6_isInfinite x1).bind (fun r11 => if r11 = 0 then (some (0 : Int32)) else (if (Op.cmpValue (FP.dcmp x2 FP.dconst0) CmpOp.l) = 0 then (some (1 : Int32)) else (some (0 : Int32))))
def gX6_isVoid (x0 : Int32) (x1 : UInt64) (x2 : UInt64) : Option Int32 := if x0 = (9 : Int32) then ((gX6_isInfinite x1).bind (fun r7 => if r7 = 0 then (some (0 : Int32)) else ((gX6_isInfinite x2).bind (fun r8 => if r8 = 0 then (some (0 : Int32)) else (if (Op.cmpValue (FP.dcmp x1 x2) CmpOp.l) = 0 then (some (0 : Int32)) else (some (1 : Int32))))))) else (if x0 = (10 : Int32) then ((gX6_isInfinite x1).bind (fun r5 => if r5 = 0 then (some (0 : Int32)) else ((gX6_isInfinite x2).bind (fun r6 => if r6 = 0 then (some (0 : Int32)) else (if (Op.cmpValue (FP.dcmp x1 x2) CmpOp.l) = 0 then (some (1 : Int32)) else (some (0 : Int32))))))) else (if x0 = (11 : Int32) then (if (Op.cmpValue (FP.dcmp x1 FP.dconst0) CmpOp.l) = 0 then ((gX6_isInfinite x2).bind (fun r4 => if r4 = 0 then (gX6_isVoid_153 x0 x1 x2 ) else (some (1 : Int32)))) else (gX6_isVoid_153 x0 x1 x2 )) else (if x0 = (12 : Int32) then (if (Op.cmpValue (FP.dcmp x1 FP.dconst0) CmpOp.l) = 0 then (if (Op.cmpValue (FP.dcmp x2 FP.dconst0) CmpOp.l) = 0 then (some (1 : Int32)) else (gX6_isVoid_184 x0 x1 x2 )) else (gX6_isVoid_184 x0 x1 x2 )) else (if x0 = (13 : Int32) then (if (Op.cmpValue (FP.dcmp x2 FP.dconst0) CmpOp.l) = 0 then (some (1 : Int32)) else ((gX6_isInfinite x1).bind (fun r3 => if r3 = 0 then (some (0 : Int32)) else (some (1 : Int32))))) else (if x0 = (26 : Int32) then (if (Op.cmpValue (FP.dcmp x2 FP.dconst0) CmpOp.l) = 0 then (some (1 : Int32)) else ((gX6_isInfinite x2).bind (fun r2 => if r2 = 0 then (some (0 : Int32)) else (some (1 : Int32))))) else (some (0 : Int32)))))))
theorem hd_X6_isVoid : yX6_isVoid.cls ≠ "java/lang/invoke/MethodHandle" ∧ yX6_isVoid.cls ≠ "java/lang/invoke/VarHandle" ∧ (parseMethodDescriptor yX6_isVoid.desc).map (fun d => d.parameters.length) = some 3 := by decide +kernel
set_option maxHeartbeats 4000000 in
set_option maxRecDepth 100000 in
theorem tX6_isVoid {G : GG} {l : Launch} {z N : Nat} {ct : Nat → va_E} (x0 : Int32) (x1 : UInt64) (x2 : UInt64) {r : Int32} (hg : gX6_isVoid x0 x1 x2 = some r) : Ct G l yX6_isVoid cX6_isVoid 5 (some .boolean) ({ frames := 1, cells := 0, slots := 0, locals := 21 } : Room) [.int x0, .double x1, .double x2] z ct N (some (.int r)) ct N := by
  refine Ct.of (lv := [(0, .int x0), (1, .double x1), (3, .double x2)]) (by decide +kernel) (Nat.le_of_ble_eq_true rfl) rfl (fun p e s m args below meth c C => ?_)
  have L_184 : gX6_isVoid_184 x0 x1 x2 = some r → J G p l e ({ frames := 1, cells := 0, slots := 0, locals := 21 } : Room) s m args below meth c z 5 (MQ below (Qd G z (some (.int r)) ct N) args s 0 0 (zA z)) ct N 0 0 184 [(1, .double x1), (3, .double x2)] [] := by
    intro  hg
    rw [gX6_isVoid_184] at hg
    refine j_dload_n C dX6_isVoid_184 0 rfl rfl ?_
    obtain ⟨r9, hr9, hg⟩ := ob hg
    refine j_callS C [.double x1] (tX6_isInfinite x1 hr9) q2_141 q1_10 q2_140 q2_139 hd_X6_isInfinite rfl dX6_isVoid_185 rfl (Nat.le_of_ble_eq_true rfl) ⟨(Nat.le_of_ble_eq_true rfl), (Nat.le_of_ble_eq_true rfl)⟩ ⟨(Nat.le_of_ble_eq_true rfl), (Nat.le_of_ble_eq_true rfl)⟩ ?_
    refine j_if_eq C 202 hg dX6_isVoid_188 (by decide) (fun hg => ?_) (fun hg => ?_)
    · refine j_iconst (v := 0) C dX6_isVoid_202 (by decide) ?_
      exact j_zret C dX6_isVoid_203 (by decide) (by rw [← Option.some.inj hg]) rfl rfl
    · refine j_dload_n C dX6_isVoid_191 1 rfl rfl ?_
      obtain ⟨r10, hr10, hg⟩ := ob hg
      refine j_callS C [.double x2] (tX6_isInfinite x2 hr10) q2_141 q1_10 q2_140 q2_139 hd_X6_isInfinite rfl dX6_isVoid_192 rfl (Nat.le_of_ble_eq_true rfl) ⟨(Nat.le_of_ble_eq_true rfl), (Nat.le_of_ble_eq_true rfl)⟩ ⟨(Nat.le_of_ble_eq_true rfl), (Nat.le_of_ble_eq_true rfl)⟩ ?_
      refine j_if_eq C 202 hg dX6_isVoid_195 (by decide) (fun hg => ?_) (fun hg => ?_)
      · refine j_iconst (v := 0) C dX6_isVoid_202 (by decide) ?_
        exact j_zret C dX6_isVoid_203 (by decide) (by rw [← Option.some.inj hg]) rfl rfl
      · refine j_iconst (v := 1) C dX6_isVoid_198 (by decide) ?_
        refine j_goto C 203 dX6_isVoid_199 (by decide) ?_
        exact j_zret C dX6_isVoid_203 (by decide) (by rw [← Option.some.inj hg]) rfl rfl
  have L_153 : gX6_isVoid_153 x0 x1 x2 = some r → J G p l e ({ frames := 1, cells := 0, slots := 0, locals := 21 } : Room) s m args below meth c z 5 (MQ below (Qd G z (some (.int r)) ct N) args s 0 0 (zA z)) ct N 0 0 153 [(1, .double x1), (3, .double x2)] [] := by
    intro  hg
    rw [gX6_isVoid_153] at hg
    refine j_dload_n C dX6_isVoid_153 0 rfl rfl ?_
    obtain ⟨r11, hr11, hg⟩ := ob hg
    refine j_callS C [.double x1] (tX6_isInfinite x1 hr11) q2_141 q1_10 q2_140 q2_139 hd_X6_isInfinite rfl dX6_isVoid_154 rfl (Nat.le_of_ble_eq_true rfl) ⟨(Nat.le_of_ble_eq_true rfl), (Nat.le_of_ble_eq_true rfl)⟩ ⟨(Nat.le_of_ble_eq_true rfl), (Nat.le_of_ble_eq_true rfl)⟩ ?_
    refine j_if_eq C 170 hg dX6_isVoid_157 (by decide) (fun hg => ?_) (fun hg => ?_)
    · refine j_iconst (v := 0) C dX6_isVoid_170 (by decide) ?_
      exact j_zret C dX6_isVoid_171 (by decide) (by rw [← Option.some.inj hg]) rfl rfl
    · refine j_dload_n C dX6_isVoid_160 1 rfl rfl ?_
      refine j_dconst0 C dX6_isVoid_161 ?_
      refine j_dcmp C dX6_isVoid_162 ?_
      refine j_if_ne C 170 hg dX6_isVoid_163 (by decide) (fun hg => ?_) (fun hg => ?_)
      · refine j_iconst (v := 0) C dX6_isVoid_170 (by decide) ?_
        exact j_zret C dX6_isVoid_171 (by decide) (by rw [← Option.some.inj hg]) rfl rfl
      · refine j_iconst (v := 1) C dX6_isVoid_166 (by decide) ?_
        refine j_goto C 171 dX6_isVoid_167 (by decide) ?_
        exact j_zret C dX6_isVoid_171 (by decide) (by rw [← Option.some.inj hg]) rfl rfl
  rw [gX6_isVoid] at hg
  refine j_iload_n C dX6_isVoid_0 0 rfl rfl ?_
  by_cases c1_0 : x0 = (9 : Int32)
  · replace hg := (if_pos c1_0).symm.trans hg
    refine j_tableIn (off := 87) C 88 dX6_isVoid_1 (by rw [c1_0]; decide) (by rw [c1_0]; decide) (by rw [c1_0]; rfl) (by decide) ?_
    refine j_dload_n C dX6_isVoid_88 1 rfl rfl ?_
    obtain ⟨r7, hr7, hg⟩ := ob hg
    refine j_callS C [.double x1] (tX6_isInfinite x1 hr7) q2_141 q1_10 q2_140 q2_139 hd_X6_isInfinite rfl dX6_isVoid_89 rfl (Nat.le_of_ble_eq_true rfl) ⟨(Nat.le_of_ble_eq_true rfl), (Nat.le_of_ble_eq_true rfl)⟩ ⟨(Nat.le_of_ble_eq_true rfl), (Nat.le_of_ble_eq_true rfl)⟩ ?_
    refine j_if_eq C 112 hg dX6_isVoid_92 (by decide) (fun hg => ?_) (fun hg => ?_)
    · refine j_iconst (v := 0) C dX6_isVoid_112 (by decide) ?_
      exact j_zret C dX6_isVoid_113 (by decide) (by rw [← Option.some.inj hg]) rfl rfl
    · refine j_dload_n C dX6_isVoid_95 2 rfl rfl ?_
      obtain ⟨r8, hr8, hg⟩ := ob hg
      refine j_callS C [.double x2] (tX6_isInfinite x2 hr8) q2_141 q1_10 q2_140 q2_139 hd_X6_isInfinite rfl dX6_isVoid_96 rfl (Nat.le_of_ble_eq_true rfl) ⟨(Nat.le_of_ble_eq_true rfl), (Nat.le_of_ble_eq_true rfl)⟩ ⟨(Nat.le_of_ble_eq_true rfl), (Nat.le_of_ble_eq_true rfl)⟩ ?_
      refine j_if_eq C 112 hg dX6_isVoid_99 (by decide) (fun hg => ?_) (fun hg => ?_)
      · refine j_iconst (v := 0) C dX6_isVoid_112 (by decide) ?_
        exact j_zret C dX6_isVoid_113 (by decide) (by rw [← Option.some.inj hg]) rfl rfl
      · refine j_dload_n C dX6_isVoid_102 1 rfl rfl ?_
        refine j_dload_n C dX6_isVoid_103 2 rfl rfl ?_
        refine j_dcmp C dX6_isVoid_104 ?_
        refine j_if_eq C 112 hg dX6_isVoid_105 (by decide) (fun hg => ?_) (fun hg => ?_)
        · refine j_iconst (v := 0) C dX6_isVoid_112 (by decide) ?_
          exact j_zret C dX6_isVoid_113 (by decide) (by rw [← Option.some.inj hg]) rfl rfl
        · refine j_iconst (v := 1) C dX6_isVoid_108 (by decide) ?_
          refine j_goto C 113 dX6_isVoid_109 (by decide) ?_
          exact j_zret C dX6_isVoid_113 (by decide) (by rw [← Option.some.inj hg]) rfl rfl
  · replace hg := (if_neg c1_0).symm.trans hg
    by_cases c1_1 : x0 = (10 : Int32)
    · replace hg := (if_pos c1_1).symm.trans hg
      refine j_tableIn (off := 113) C 114 dX6_isVoid_1 (by rw [c1_1]; decide) (by rw [c1_1]; decide) (by rw [c1_1]; rfl) (by decide) ?_
      refine j_dload_n C dX6_isVoid_114 1 rfl rfl ?_
      obtain ⟨r5, hr5, hg⟩ := ob hg
      refine j_callS C [.double x1] (tX6_isInfinite x1 hr5) q2_141 q1_10 q2_140 q2_139 hd_X6_isInfinite rfl dX6_isVoid_115 rfl (Nat.le_of_ble_eq_true rfl) ⟨(Nat.le_of_ble_eq_true rfl), (Nat.le_of_ble_eq_true rfl)⟩ ⟨(Nat.le_of_ble_eq_true rfl), (Nat.le_of_ble_eq_true rfl)⟩ ?_
      refine j_if_eq C 138 hg dX6_isVoid_118 (by decide) (fun hg => ?_) (fun hg => ?_)
      · refine j_iconst (v := 0) C dX6_isVoid_138 (by decide) ?_
        exact j_zret C dX6_isVoid_139 (by decide) (by rw [← Option.some.inj hg]) rfl rfl
      · refine j_dload_n C dX6_isVoid_121 2 rfl rfl ?_
        obtain ⟨r6, hr6, hg⟩ := ob hg
        refine j_callS C [.double x2] (tX6_isInfinite x2 hr6) q2_141 q1_10 q2_140 q2_139 hd_X6_isInfinite rfl dX6_isVoid_122 rfl (Nat.le_of_ble_eq_true rfl) ⟨(Nat.le_of_ble_eq_true rfl), (Nat.le_of_ble_eq_true rfl)⟩ ⟨(Nat.le_of_ble_eq_true rfl), (Nat.le_of_ble_eq_true rfl)⟩ ?_
        refine j_if_eq C 138 hg dX6_isVoid_125 (by decide) (fun hg => ?_) (fun hg => ?_)
        · refine j_iconst (v := 0) C dX6_isVoid_138 (by decide) ?_
          exact j_zret C dX6_isVoid_139 (by decide) (by rw [← Option.some.inj hg]) rfl rfl
        · refine j_dload_n C dX6_isVoid_128 1 rfl rfl ?_
          refine j_dload_n C dX6_isVoid_129 2 rfl rfl ?_
          refine j_dcmp C dX6_isVoid_130 ?_
          refine j_if_ne C 138 hg dX6_isVoid_131 (by decide) (fun hg => ?_) (fun hg => ?_)
          · refine j_iconst (v := 0) C dX6_isVoid_138 (by decide) ?_
            exact j_zret C dX6_isVoid_139 (by decide) (by rw [← Option.some.inj hg]) rfl rfl
          · refine j_iconst (v := 1) C dX6_isVoid_134 (by decide) ?_
            refine j_goto C 139 dX6_isVoid_135 (by decide) ?_
            exact j_zret C dX6_isVoid_139 (by decide) (by rw [← Option.some.inj hg]) rfl rfl
    · replace hg := (if_neg c1_1).symm.trans hg
      by_cases c1_2 : x0 = (11 : Int32)
      · replace hg := (if_pos c1_2).symm.trans hg
        refine j_tableIn (off := 139) C 140 dX6_isVoid_1 (by rw [c1_2]; decide) (by rw [c1_2]; decide) (by rw [c1_2]; rfl) (by decide) ?_
        refine j_dload_n C dX6_isVoid_140 1 rfl rfl ?_
        refine j_dconst0 C dX6_isVoid_141 ?_
        refine j_dcmp C dX6_isVoid_142 ?_
        refine j_if_ne C 153 hg dX6_isVoid_143 (by decide) (fun hg => ?_) (fun hg => ?_)
        · exact j_re [1, 2] rfl (L_153  hg)
        · refine j_dload_n C dX6_isVoid_146 2 rfl rfl ?_
          obtain ⟨r4, hr4, hg⟩ := ob hg
          refine j_callS C [.double x2] (tX6_isInfinite x2 hr4) q2_141 q1_10 q2_140 q2_139 hd_X6_isInfinite rfl dX6_isVoid_147 rfl (Nat.le_of_ble_eq_true rfl) ⟨(Nat.le_of_ble_eq_true rfl), (Nat.le_of_ble_eq_true rfl)⟩ ⟨(Nat.le_of_ble_eq_true rfl), (Nat.le_of_ble_eq_true rfl)⟩ ?_
          refine j_if_ne C 166 hg dX6_isVoid_150 (by decide) (fun hg => ?_) (fun hg => ?_)
          · refine j_iconst (v := 1) C dX6_isVoid_166 (by decide) ?_
            refine j_goto C 171 dX6_isVoid_167 (by decide) ?_
            exact j_zret C dX6_isVoid_171 (by decide) (by rw [← Option.some.inj hg]) rfl rfl
          · exact j_re [1, 2] rfl (L_153  hg)
      · replace hg := (if_neg c1_2).symm.trans hg
        by_cases c1_3 : x0 = (12 : Int32)
        · replace hg := (if_pos c1_3).symm.trans hg
          refine j_tableIn (off := 171) C 172 dX6_isVoid_1 (by rw [c1_3]; decide) (by rw [c1_3]; decide) (by rw [c1_3]; rfl) (by decide) ?_
          refine j_dload_n C dX6_isVoid_172 1 rfl rfl ?_
          refine j_dconst0 C dX6_isVoid_173 ?_
          refine j_dcmp C dX6_isVoid_174 ?_
          refine j_if_ne C 184 hg dX6_isVoid_175 (by decide) (fun hg => ?_) (fun hg => ?_)
          · exact j_re [1, 2] rfl (L_184  hg)
          · refine j_dload_n C dX6_isVoid_178 2 rfl rfl ?_
            refine j_dconst0 C dX6_isVoid_179 ?_
            refine j_dcmp C dX6_isVoid_180 ?_
            refine j_if_eq C 198 hg dX6_isVoid_181 (by decide) (fun hg => ?_) (fun hg => ?_)
            · refine j_iconst (v := 1) C dX6_isVoid_198 (by decide) ?_
              refine j_goto C 203 dX6_isVoid_199 (by decide) ?_
              exact j_zret C dX6_isVoid_203 (by decide) (by rw [← Option.some.inj hg]) rfl rfl
            · exact j_re [1, 2] rfl (L_184  hg)
        · replace hg := (if_neg c1_3).symm.trans hg
          by_cases c1_4 : x0 = (13 : Int32)
          · replace hg := (if_pos c1_4).symm.trans hg
            refine j_tableIn (off := 203) C 204 dX6_isVoid_1 (by rw [c1_4]; decide) (by rw [c1_4]; decide) (by rw [c1_4]; rfl) (by decide) ?_
            refine j_dload_n C dX6_isVoid_204 2 rfl rfl ?_
            refine j_dconst0 C dX6_isVoid_205 ?_
            refine j_dcmp C dX6_isVoid_206 ?_
            refine j_if_eq C 217 hg dX6_isVoid_207 (by decide) (fun hg => ?_) (fun hg => ?_)
            · refine j_iconst (v := 1) C dX6_isVoid_217 (by decide) ?_
              refine j_goto C 222 dX6_isVoid_218 (by decide) ?_
              exact j_zret C dX6_isVoid_222 (by decide) (by rw [← Option.some.inj hg]) rfl rfl
            · refine j_dload_n C dX6_isVoid_210 1 rfl rfl ?_
              obtain ⟨r3, hr3, hg⟩ := ob hg
              refine j_callS C [.double x1] (tX6_isInfinite x1 hr3) q2_141 q1_10 q2_140 q2_139 hd_X6_isInfinite rfl dX6_isVoid_211 rfl (Nat.le_of_ble_eq_true rfl) ⟨(Nat.le_of_ble_eq_true rfl), (Nat.le_of_ble_eq_true rfl)⟩ ⟨(Nat.le_of_ble_eq_true rfl), (Nat.le_of_ble_eq_true rfl)⟩ ?_
              refine j_if_eq C 221 hg dX6_isVoid_214 (by decide) (fun hg => ?_) (fun hg => ?_)
              · refine j_iconst (v := 0) C dX6_isVoid_221 (by decide) ?_
                exact j_zret C dX6_isVoid_222 (by decide) (by rw [← Option.some.inj hg]) rfl rfl
              · refine j_iconst (v := 1) C dX6_isVoid_217 (by decide) ?_
                refine j_goto C 222 dX6_isVoid_218 (by decide) ?_
                exact j_zret C dX6_isVoid_222 (by decide) (by rw [← Option.some.inj hg]) rfl rfl
          · replace hg := (if_neg c1_4).symm.trans hg
            by_cases c1_5 : x0 = (26 : Int32)
            · replace hg := (if_pos c1_5).symm.trans hg
              refine j_tableIn (off := 222) C 223 dX6_isVoid_1 (by rw [c1_5]; decide) (by rw [c1_5]; decide) (by rw [c1_5]; rfl) (by decide) ?_
              refine j_dload_n C dX6_isVoid_223 2 rfl rfl ?_
              refine j_dconst0 C dX6_isVoid_224 ?_
              refine j_dcmp C dX6_isVoid_225 ?_
              refine j_if_eq C 236 hg dX6_isVoid_226 (by decide) (fun hg => ?_) (fun hg => ?_)
              · refine j_iconst (v := 1) C dX6_isVoid_236 (by decide) ?_
                refine j_goto C 241 dX6_isVoid_237 (by decide) ?_
                exact j_zret C dX6_isVoid_241 (by decide) (by rw [← Option.some.inj hg]) rfl rfl
              · refine j_dload_n C dX6_isVoid_229 2 rfl rfl ?_
                obtain ⟨r2, hr2, hg⟩ := ob hg
                refine j_callS C [.double x2] (tX6_isInfinite x2 hr2) q2_141 q1_10 q2_140 q2_139 hd_X6_isInfinite rfl dX6_isVoid_230 rfl (Nat.le_of_ble_eq_true rfl) ⟨(Nat.le_of_ble_eq_true rfl), (Nat.le_of_ble_eq_true rfl)⟩ ⟨(Nat.le_of_ble_eq_true rfl), (Nat.le_of_ble_eq_true rfl)⟩ ?_
                refine j_if_eq C 240 hg dX6_isVoid_233 (by decide) (fun hg => ?_) (fun hg => ?_)
                · refine j_iconst (v := 0) C dX6_isVoid_240 (by decide) ?_
                  exact j_zret C dX6_isVoid_241 (by decide) (by rw [← Option.some.inj hg]) rfl rfl
                · refine j_iconst (v := 1) C dX6_isVoid_236 (by decide) ?_
                  refine j_goto C 241 dX6_isVoid_237 (by decide) ?_
                  exact j_zret C dX6_isVoid_241 (by decide) (by rw [← Option.some.inj hg]) rfl rfl
            · replace hg := (if_neg c1_5).symm.trans hg
              have nc1_0 : ¬ x0.toInt = 9 := fun h => c1_0 (Int32.toInt_inj.mp (h.trans (by decide)))
              have nc1_1 : ¬ x0.toInt = 10 := fun h => c1_1 (Int32.toInt_inj.mp (h.trans (by decide)))
              have nc1_2 : ¬ x0.toInt = 11 := fun h => c1_2 (Int32.toInt_inj.mp (h.trans (by decide)))
              have nc1_3 : ¬ x0.toInt = 12 := fun h => c1_3 (Int32.toInt_inj.mp (h.trans (by decide)))
              have nc1_4 : ¬ x0.toInt = 13 := fun h => c1_4 (Int32.toInt_inj.mp (h.trans (by decide)))
              have nc1_5 : ¬ x0.toInt = 26 := fun h => c1_5 (Int32.toInt_inj.mp (h.trans (by decide)))
              have hD : J G p l e ({ frames := 1, cells := 0, slots := 0, locals := 21 } : Room) s m args below meth c z 5 (MQ below (Qd G z (some (.int r)) ct N) args s 0 0 (zA z)) ct N 0 0 242 [(0, .int x0), (1, .double x1), (3, .double x2)] [] := by
                refine j_iconst (v := 0) C dX6_isVoid_242 (by decide) ?_
                exact j_zret C dX6_isVoid_243 (by decide) (by rw [← Option.some.inj hg]) rfl rfl
              have ec1_5 : x0.toInt = 14 → x0 = (14 : Int32) := fun h => Int32.toInt_inj.mp (h.trans (by decide))
              have ec1_6 : x0.toInt = 15 → x0 = (15 : Int32) := fun h => Int32.toInt_inj.mp (h.trans (by decide))
              have ec1_7 : x0.toInt = 16 → x0 = (16 : Int32) := fun h => Int32.toInt_inj.mp (h.trans (by decide))
              have ec1_8 : x0.toInt = 17 → x0 = (17 : Int32) := fun h => Int32.toInt_inj.mp (h.trans (by decide))
              have ec1_9 : x0.toInt = 18 → x0 = (18 : Int32) := fun h => Int32.toInt_inj.mp (h.trans (by decide))
              have ec1_10 : x0.toInt = 19 → x0 = (19 : Int32) := fun h => Int32.toInt_inj.mp (h.trans (by decide))
              have ec1_11 : x0.toInt = 20 → x0 = (20 : Int32) := fun h => Int32.toInt_inj.mp (h.trans (by decide))
              have ec1_12 : x0.toInt = 21 → x0 = (21 : Int32) := fun h => Int32.toInt_inj.mp (h.trans (by decide))
              have ec1_13 : x0.toInt = 22 → x0 = (22 : Int32) := fun h => Int32.toInt_inj.mp (h.trans (by decide))
              have ec1_14 : x0.toInt = 23 → x0 = (23 : Int32) := fun h => Int32.toInt_inj.mp (h.trans (by decide))
              have ec1_15 : x0.toInt = 24 → x0 = (24 : Int32) := fun h => Int32.toInt_inj.mp (h.trans (by decide))
              have ec1_16 : x0.toInt = 25 → x0 = (25 : Int32) := fun h => Int32.toInt_inj.mp (h.trans (by decide))
              rcases (show (x0.toInt < 9 ∨ 26 < x0.toInt) ∨ x0.toInt = 14 ∨ x0.toInt = 15 ∨ x0.toInt = 16 ∨ x0.toInt = 17 ∨ x0.toInt = 18 ∨ x0.toInt = 19 ∨ x0.toInt = 20 ∨ x0.toInt = 21 ∨ x0.toInt = 22 ∨ x0.toInt = 23 ∨ x0.toInt = 24 ∨ x0.toInt = 25 by omega) with h9 | h9 | h9 | h9 | h9 | h9 | h9 | h9 | h9 | h9 | h9 | h9 | h9
              · exact j_tableOut C 242 dX6_isVoid_1 h9 (by decide) hD
              · exact j_tableIn (off := 241) C 242 dX6_isVoid_1 (by rw [h9]; decide) (by rw [h9]; decide) (by rw [h9]; rfl) (by decide) hD
              · exact j_tableIn (off := 241) C 242 dX6_isVoid_1 (by rw [h9]; decide) (by rw [h9]; decide) (by rw [h9]; rfl) (by decide) hD
              · exact j_tableIn (off := 241) C 242 dX6_isVoid_1 (by rw [h9]; decide) (by rw [h9]; decide) (by rw [h9]; rfl) (by decide) hD
              · exact j_tableIn (off := 241) C 242 dX6_isVoid_1 (by rw [h9]; decide) (by rw [h9]; decide) (by rw [h9]; rfl) (by decide) hD
              · exact j_tableIn (off := 241) C 242 dX6_isVoid_1 (by rw [h9]; decide) (by rw [h9]; decide) (by rw [h9]; rfl) (by decide) hD
              · exact j_tableIn (off := 241) C 242 dX6_isVoid_1 (by rw [h9]; decide) (by rw [h9]; decide) (by rw [h9]; rfl) (by decide) hD
              · exact j_tableIn (off := 241) C 242 dX6_isVoid_1 (by rw [h9]; decide) (by rw [h9]; decide) (by rw [h9]; rfl) (by decide) hD
              · exact j_tableIn (off := 241) C 242 dX6_isVoid_1 (by rw [h9]; decide) (by rw [h9]; decide) (by rw [h9]; rfl) (by decide) hD
              · exact j_tableIn (off := 241) C 242 dX6_isVoid_1 (by rw [h9]; decide) (by rw [h9]; decide) (by rw [h9]; rfl) (by decide) hD
              · exact j_tableIn (off := 241) C 242 dX6_isVoid_1 (by rw [h9]; decide) (by rw [h9]; decide) (by rw [h9]; rfl) (by decide) hD
              · exact j_tableIn (off := 241) C 242 dX6_isVoid_1 (by rw [h9]; decide) (by rw [h9]; decide) (by rw [h9]; rfl) (by decide) hD
              · exact j_tableIn (off := 241) C 242 dX6_isVoid_1 (by rw [h9]; decide) (by rw [h9]; decide) (by rw [h9]; rfl) (by decide) hD
