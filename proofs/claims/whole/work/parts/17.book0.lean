def b_col_ (β : BS) (i : Nat) (v1 v2 v3 v4 v5 : Int32) (F : Nat → UInt64) (H : Nat → Int32) : BS := (va_up β.1 i v1, va_up β.2.1 i v2, va_up β.2.2.1 i v3, va_up β.2.2.2.1 i v4, va_up β.2.2.2.2.1 i v5, va_up β.2.2.2.2.2.1 i F, va_up β.2.2.2.2.2.2.1 i H, β.2.2.2.2.2.2.2)
theorem bc_nar {β : BS} {i : Nat} {v1 v2 v3 v4 v5 : Int32} {F : Nat → UInt64} {H : Nat → Int32} : b_nar (b_col_ β i v1 v2 v3 v4 v5 F H) = va_up (b_nar β) i v1 := rfl
theorem bc_ff {β : BS} {i : Nat} {v1 v2 v3 v4 v5 : Int32} {F : Nat → UInt64} {H : Nat → Int32} : b_ff (b_col_ β i v1 v2 v3 v4 v5 F H) = va_up (b_ff β) i v2 := rfl
theorem bc_fa {β : BS} {i : Nat} {v1 v2 v3 v4 v5 : Int32} {F : Nat → UInt64} {H : Nat → Int32} : b_fa (b_col_ β i v1 v2 v3 v4 v5 F H) = va_up (b_fa β) i v3 := rfl
theorem bc_fb {β : BS} {i : Nat} {v1 v2 v3 v4 v5 : Int32} {F : Nat → UInt64} {H : Nat → Int32} : b_fb (b_col_ β i v1 v2 v3 v4 v5 F H) = va_up (b_fb β) i v4 := rfl
theorem bc_fc {β : BS} {i : Nat} {v1 v2 v3 v4 v5 : Int32} {F : Nat → UInt64} {H : Nat → Int32} : b_fc (b_col_ β i v1 v2 v3 v4 v5 F H) = va_up (b_fc β) i v5 := rfl
theorem bc_num {β : BS} {i : Nat} {v1 v2 v3 v4 v5 : Int32} {F : Nat → UInt64} {H : Nat → Int32} : b_num (b_col_ β i v1 v2 v3 v4 v5 F H) = va_up (b_num β) i F := rfl
theorem bc_bl {β : BS} {i : Nat} {v1 v2 v3 v4 v5 : Int32} {F : Nat → UInt64} {H : Nat → Int32} : b_bl (b_col_ β i v1 v2 v3 v4 v5 F H) = va_up (b_bl β) i H := rfl
theorem bc_cn {β : BS} {i : Nat} {v1 v2 v3 v4 v5 : Int32} {F : Nat → UInt64} {H : Nat → Int32} : b_cn (b_col_ β i v1 v2 v3 v4 v5 F H) = b_cn β := rfl
theorem bc_cb {β : BS} {i : Nat} {v1 v2 v3 v4 v5 : Int32} {F : Nat → UInt64} {H : Nat → Int32} : b_cb (b_col_ β i v1 v2 v3 v4 v5 F H) = b_cb β := rfl
theorem bc_xn {β : BS} {i : Nat} {v1 v2 v3 v4 v5 : Int32} {F : Nat → UInt64} {H : Nat → Int32} : b_xn (b_col_ β i v1 v2 v3 v4 v5 F H) = b_xn β := rfl
theorem bc_xb {β : BS} {i : Nat} {v1 v2 v3 v4 v5 : Int32} {F : Nat → UInt64} {H : Nat → Int32} : b_xb (b_col_ β i v1 v2 v3 v4 v5 F H) = b_xb β := rfl
theorem bc_yn {β : BS} {i : Nat} {v1 v2 v3 v4 v5 : Int32} {F : Nat → UInt64} {H : Nat → Int32} : b_yn (b_col_ β i v1 v2 v3 v4 v5 F H) = b_yn β := rfl
theorem bc_yb {β : BS} {i : Nat} {v1 v2 v3 v4 v5 : Int32} {F : Nat → UInt64} {H : Nat → Int32} : b_yb (b_col_ β i v1 v2 v3 v4 v5 F H) = b_yb β := rfl
theorem bc_a1 {β : BS} {i : Nat} {v1 v2 v3 v4 v5 : Int32} {F : Nat → UInt64} {H : Nat → Int32} : b_a1 (b_col_ β i v1 v2 v3 v4 v5 F H) = b_a1 β := rfl
theorem bc_a2 {β : BS} {i : Nat} {v1 v2 v3 v4 v5 : Int32} {F : Nat → UInt64} {H : Nat → Int32} : b_a2 (b_col_ β i v1 v2 v3 v4 v5 F H) = b_a2 β := rfl
theorem bc_a3 {β : BS} {i : Nat} {v1 v2 v3 v4 v5 : Int32} {F : Nat → UInt64} {H : Nat → Int32} : b_a3 (b_col_ β i v1 v2 v3 v4 v5 F H) = b_a3 β := rfl
theorem bc_a4 {β : BS} {i : Nat} {v1 v2 v3 v4 v5 : Int32} {F : Nat → UInt64} {H : Nat → Int32} : b_a4 (b_col_ β i v1 v2 v3 v4 v5 F H) = b_a4 β := rfl
theorem bc_a5 {β : BS} {i : Nat} {v1 v2 v3 v4 v5 : Int32} {F : Nat → UInt64} {H : Nat → Int32} : b_a5 (b_col_ β i v1 v2 v3 v4 v5 F H) = b_a5 β := rfl
theorem bc_a6 {β : BS} {i : Nat} {v1 v2 v3 v4 v5 : Int32} {F : Nat → UInt64} {H : Nat → Int32} : b_a6 (b_col_ β i v1 v2 v3 v4 v5 F H) = b_a6 β := rfl
theorem bc_acnt {β : BS} {i : Nat} {v1 v2 v3 v4 v5 : Int32} {F : Nat → UInt64} {H : Nat → Int32} : b_acnt (b_col_ β i v1 v2 v3 v4 v5 F H) = b_acnt β := rfl
theorem bc_rngs {β : BS} {i : Nat} {v1 v2 v3 v4 v5 : Int32} {F : Nat → UInt64} {H : Nat → Int32} : b_rngs (b_col_ β i v1 v2 v3 v4 v5 F H) = b_rngs β := rfl
theorem bc_lat {β : BS} {i : Nat} {v1 v2 v3 v4 v5 : Int32} {F : Nat → UInt64} {H : Nat → Int32} : b_lat (b_col_ β i v1 v2 v3 v4 v5 F H) = b_lat β := rfl
theorem bc_chg {β : BS} {i : Nat} {v1 v2 v3 v4 v5 : Int32} {F : Nat → UInt64} {H : Nat → Int32} : b_chg (b_col_ β i v1 v2 v3 v4 v5 F H) = b_chg β := rfl
theorem bc_frs {β : BS} {i : Nat} {v1 v2 v3 v4 v5 : Int32} {F : Nat → UInt64} {H : Nat → Int32} : b_frs (b_col_ β i v1 v2 v3 v4 v5 F H) = b_frs β := rfl
theorem bs_cl {G : GG} {z : Nat} {β : BS} {b : Nat → va_E} {i : Nat} (hi : i < 12) {v1 v2 v3 v4 v5 : Int32} {F : Nat → UInt64} {H : Nat → Int32} : va_up (va_up (va_up (ctB G z β b) (13 + 4 * i) (coO z (13 + 4 * i) v1 v2 v3 v4 v5)) (13 + 4 * i + 2) (cD G 16 F)) (13 + 4 * i + 3) (cZ G 16 H) = ctB G z (b_col_ β i v1 v2 v3 v4 v5 F H) b := by
  funext j
  by_cases h3 : j = 13 + 4 * i + 3
  · subst h3; rw [va_up_self, cb_bl hi]; simp only [bc_nar, bc_ff, bc_fa, bc_fb, bc_fc, bc_num, bc_bl, bc_cn, bc_cb, bc_xn, bc_xb, bc_yn, bc_yb, bc_a1, bc_a2, bc_a3, bc_a4, bc_a5, bc_a6, bc_acnt, bc_rngs, bc_lat, bc_chg, bc_frs, va_up_self]
  · rw [va_up_ne _ _ h3]
    by_cases h2 : j = 13 + 4 * i + 2
    · subst h2; rw [va_up_self, cb_num hi]; simp only [bc_nar, bc_ff, bc_fa, bc_fb, bc_fc, bc_num, bc_bl, bc_cn, bc_cb, bc_xn, bc_xb, bc_yn, bc_yb, bc_a1, bc_a2, bc_a3, bc_a4, bc_a5, bc_a6, bc_acnt, bc_rngs, bc_lat, bc_chg, bc_frs, va_up_self]
    · rw [va_up_ne _ _ h2]
      by_cases h1 : j = 13 + 4 * i
      · subst h1; rw [va_up_self, cb_col hi]; simp only [bc_nar, bc_ff, bc_fa, bc_fb, bc_fc, bc_num, bc_bl, bc_cn, bc_cb, bc_xn, bc_xb, bc_yn, bc_yb, bc_a1, bc_a2, bc_a3, bc_a4, bc_a5, bc_a6, bc_acnt, bc_rngs, bc_lat, bc_chg, bc_frs, va_up_self]
      · rw [va_up_ne _ _ h1]; unfold ctB
        by_cases g1 : j < 13
        · rw [if_pos g1, if_pos g1]; simp only [bS, bF, bc_nar, bc_ff, bc_fa, bc_fb, bc_fc, bc_num, bc_bl, bc_cn, bc_cb, bc_xn, bc_xb, bc_yn, bc_yb, bc_a1, bc_a2, bc_a3, bc_a4, bc_a5, bc_a6, bc_acnt, bc_rngs, bc_lat, bc_chg, bc_frs]
        · rw [if_neg g1, if_neg g1]
          by_cases g2 : j < 61
          · rw [if_pos g2, if_pos g2]; unfold bC
            by_cases e0 : (j - 13) / 4 = i
            · have e1 : (j - 13) % 4 = 1 := by omega
              rw [e1]; rfl
            · simp only [bc_nar, bc_ff, bc_fa, bc_fb, bc_fc, bc_num, bc_bl, bc_cn, bc_cb, bc_xn, bc_xb, bc_yn, bc_yb, bc_a1, bc_a2, bc_a3, bc_a4, bc_a5, bc_a6, bc_acnt, bc_rngs, bc_lat, bc_chg, bc_frs, va_up_ne _ _ e0]
          · rw [if_neg g2, if_neg g2]
            by_cases g3 : j < 71
            · rw [if_pos g3, if_pos g3]; simp only [bA, bc_nar, bc_ff, bc_fa, bc_fb, bc_fc, bc_num, bc_bl, bc_cn, bc_cb, bc_xn, bc_xb, bc_yn, bc_yb, bc_a1, bc_a2, bc_a3, bc_a4, bc_a5, bc_a6, bc_acnt, bc_rngs, bc_lat, bc_chg, bc_frs]
            · rw [if_neg g3, if_neg g3]
theorem bs_up5 {G : GG} {z : Nat} {β : BS} {b : Nat → va_E} {t : Nat} {e1 e2 e3 e4 e5 : va_E} (ht : 71 ≤ t) : va_up (va_up (va_up (va_up (va_up (ctB G z β b) t e1) (t + 1) e2) (t + 2) e3) (t + 3) e4) (t + 4) e5 = ctB G z β (va_up (va_up (va_up (va_up (va_up b t e1) (t + 1) e2) (t + 2) e3) (t + 3) e4) (t + 4) e5) := by
  rw [bs_up ht, bs_up (k := t + 1) (by omega), bs_up (k := t + 2) (by omega), bs_up (k := t + 3) (by omega), bs_up (k := t + 4) (by omega)]
def isRb (v : Value) : Bool := match v with | .null => true | .ref _ => true | _ => false
theorem isRb_of {v : Value} (h : isRb v = true) : isR v := by
  cases v <;> first | exact Or.inl rfl | exact Or.inr ⟨_, rfl⟩ | (simp [isRb] at h)
theorem j_astore_nN {G : GG} {p : Program} {l : Launch} {e : Env} {R : Room} {s : State} {m : MethodId} {args : Array Value} {below : List Frame} {meth : Method} {c : Code} {cc : ByteArray} {nL : Nat} {own : String} {z : Nat} {ret : Option FieldType} {nme : String} {Q : State → Prop} {ct : Nat → va_E} {N cells slots pc : Nat} {lv : List (Nat × Value)} {rest : List Value} (C : Cx G p s m args meth c cc nL own z ret nme) {k0 : Fin 4} {i : Nat} (lv' : List (Nat × Value)) (d : decode cc pc = .ok (.astore_n k0, 1)) (hi : (k0 : Nat) = i) (hn : i < nL) (hl0 : (i, Value.null) :: lv.filter (fun q => !(q.1 == i) && !(q.1 + 1 == i && q.2.category == 2)) = lv') (k : J G p l e R s m args below meth c z nL Q ct N cells slots (pc + 1) lv' rest) : J G p l e R s m args below meth c z nL Q ct N cells slots pc lv (.null :: rest) := fun H locs ls hP hS hl => lv_astore_nN C.x C.b d hi hl hn hl0 (fun ls hl => k H locs ls hP hS hl)
def gX10_hasRoom (β : BS) : Option Int32 := if (512 : Int32) ≤ (b_chg β) then (some (0 : Int32)) else (some (1 : Int32))
theorem hd_X10_hasRoom : yX10_hasRoom.cls ≠ "java/lang/invoke/MethodHandle" ∧ yX10_hasRoom.cls ≠ "java/lang/invoke/VarHandle" ∧ (parseMethodDescriptor yX10_hasRoom.desc).map (fun d => d.parameters.length) = some 0 := by decide +kernel
set_option maxHeartbeats 4000000 in
set_option maxRecDepth 100000 in
theorem tX10_hasRoom {G : GG} {l : Launch} {z N : Nat} {b : Nat → va_E}  (hN : 71 ≤ N) (β : BS) {r : Int32} (hg : gX10_hasRoom β = some r) : Ct G l yX10_hasRoom cX10_hasRoom 1 (some .boolean) ({ frames := 0, cells := 0, slots := 0, locals := 0 } : Room) [.ref (z + 0)] z (ctB G z β b) N (some (.int r)) (ctB G z β b) N := by
  refine Ct.of (lv := [(0, .ref (z + 0))]) (by decide +kernel) (Nat.le_of_ble_eq_true rfl) rfl (fun p e s m args below meth c C => ?_)
  rw [gX10_hasRoom] at hg
  refine j_aload_n C dX10_hasRoom_0 0 rfl rfl ?_
  refine j_get (fs := [.ref (z + 1), .ref (z + 2), .ref (z + 5), .ref (z + 12), .int (b_acnt β), .int (b_rngs β), b_lat β, .int (b_chg β), .int (b_frs β)]) (v := .int (b_chg β)) C (by omega) cb_0 rfl inX10 7 (by decide) q1_131 rfl rfl dX10_hasRoom_1 ?_
  refine j_sipush (v := 512) C dX10_hasRoom_4 (by decide) ?_
  refine j_icmp_ge C 14 hg dX10_hasRoom_7 (by decide) (fun hg => ?_) (fun hg => ?_)
  · refine j_iconst (v := 0) C dX10_hasRoom_14 (by decide) ?_
    exact j_zret C dX10_hasRoom_15 (by decide) (by first | rfl | (rw [← Option.some.inj hg] <;> rfl)) rfl rfl
  · refine j_iconst (v := 1) C dX10_hasRoom_10 (by decide) ?_
    refine j_goto C 15 dX10_hasRoom_11 (by decide) ?_
    exact j_zret C dX10_hasRoom_15 (by decide) (by first | rfl | (rw [← Option.some.inj hg] <;> rfl)) rfl rfl

def gX10_takesReadings (β : BS) (x0 : Int32) : Option Int32 := (gX10_isColumn x0).bind (fun r1 => if r1 = 0 then (some (0 : Int32)) else (if ix x0 12 then ((gX3_hasFormula (b_nar β x0.toNatClampNeg) (b_ff β x0.toNatClampNeg) (b_fa β x0.toNatClampNeg) (b_fb β x0.toNatClampNeg) (b_fc β x0.toNatClampNeg)).bind (fun r3 => if r3 = 0 then ((gX10_hasRoom β ).bind (fun r4 => if r4 = 0 then (some (0 : Int32)) else (some (1 : Int32)))) else (some (0 : Int32)))) else none))
theorem hd_X10_takesReadings : yX10_takesReadings.cls ≠ "java/lang/invoke/MethodHandle" ∧ yX10_takesReadings.cls ≠ "java/lang/invoke/VarHandle" ∧ (parseMethodDescriptor yX10_takesReadings.desc).map (fun d => d.parameters.length) = some 1 := by decide +kernel
set_option maxHeartbeats 4000000 in
set_option maxRecDepth 100000 in
theorem tX10_takesReadings {G : GG} {l : Launch} {z N : Nat} {b : Nat → va_E}  (hN : 71 ≤ N) (β : BS) (x0 : Int32) {r : Int32} (hg : gX10_takesReadings β x0 = some r) : Ct G l yX10_takesReadings cX10_takesReadings 2 (some .boolean) ({ frames := 1, cells := 0, slots := 0, locals := 20 } : Room) [.ref (z + 0), .int x0] z (ctB G z β b) N (some (.int r)) (ctB G z β b) N := by
  refine Ct.of (lv := [(0, .ref (z + 0)), (1, .int x0)]) (by decide +kernel) (Nat.le_of_ble_eq_true rfl) rfl (fun p e s m args below meth c C => ?_)
  rw [gX10_takesReadings] at hg
  refine j_iload_n C dX10_takesReadings_0 1 rfl rfl ?_
  obtain ⟨r1, hr1, hg⟩ := ob hg
  refine j_callS C [.int x0] (tX10_isColumn x0 hr1) q1_162 q1_1 q1_161 q1_160 hd_X10_isColumn rfl dX10_takesReadings_1 rfl (Nat.le_of_ble_eq_true rfl) ⟨(Nat.le_of_ble_eq_true rfl), (Nat.le_of_ble_eq_true rfl)⟩ ⟨(Nat.le_of_ble_eq_true rfl), (Nat.le_of_ble_eq_true rfl)⟩ ?_
  refine j_if_eq C 30 hg dX10_takesReadings_4 (by decide) (fun hg => ?_) (fun hg => ?_)
  · refine j_iconst (v := 0) C dX10_takesReadings_30 (by decide) ?_
    exact j_zret C dX10_takesReadings_31 (by decide) (by first | rfl | (rw [← Option.some.inj hg] <;> rfl)) rfl rfl
  · refine j_aload_n C dX10_takesReadings_7 0 rfl rfl ?_
    refine j_get (fs := [.ref (z + 1), .ref (z + 2), .ref (z + 5), .ref (z + 12), .int (b_acnt β), .int (b_rngs β), b_lat β, .int (b_chg β), .int (b_frs β)]) (v := .ref (z + 1)) C (by omega) cb_0 rfl inX10 0 (by decide) q1_124 rfl rfl dX10_takesReadings_8 ?_
    refine j_iload_n C dX10_takesReadings_11 1 rfl rfl ?_
    obtain ⟨hi2, hg⟩ := gd hg
    have hl2 := ix_lt hi2
    refine jb_C C hi2 (by omega) cb_1 dX10_takesReadings_12 ?_
    obtain ⟨r3, hr3, hg⟩ := ob hg
    refine j_callV C [] (tX3_hasFormula (by omega) (cb_col hl2)  hr3) (by omega) (cb_col hl2) rfl q1_166 q1_4 q1_164 q1_165 q1_163 hd_X3_hasFormula rfl dX10_takesReadings_13 rfl (Nat.le_of_ble_eq_true rfl) ⟨(Nat.le_of_ble_eq_true rfl), (Nat.le_of_ble_eq_true rfl)⟩ ⟨(Nat.le_of_ble_eq_true rfl), (Nat.le_of_ble_eq_true rfl)⟩ ?_
    refine j_if_ne C 30 hg dX10_takesReadings_16 (by decide) (fun hg => ?_) (fun hg => ?_)
    · refine j_iconst (v := 0) C dX10_takesReadings_30 (by decide) ?_
      exact j_zret C dX10_takesReadings_31 (by decide) (by first | rfl | (rw [← Option.some.inj hg] <;> rfl)) rfl rfl
    · refine j_aload_n C dX10_takesReadings_19 0 rfl rfl ?_
      obtain ⟨r4, hr4, hg⟩ := ob hg
      refine j_callV C [] (tX10_hasRoom (b := b) (by omega) β  hr4) (by omega) cb_0 rfl q1_170 q1_1 q1_169 qp_1 q1_167 hd_X10_hasRoom rfl dX10_takesReadings_20 rfl (Nat.le_of_ble_eq_true rfl) ⟨(Nat.le_of_ble_eq_true rfl), (Nat.le_of_ble_eq_true rfl)⟩ ⟨(Nat.le_of_ble_eq_true rfl), (Nat.le_of_ble_eq_true rfl)⟩ ?_
      refine j_if_eq C 30 hg dX10_takesReadings_23 (by decide) (fun hg => ?_) (fun hg => ?_)
      · refine j_iconst (v := 0) C dX10_takesReadings_30 (by decide) ?_
        exact j_zret C dX10_takesReadings_31 (by decide) (by first | rfl | (rw [← Option.some.inj hg] <;> rfl)) rfl rfl
      · refine j_iconst (v := 1) C dX10_takesReadings_26 (by decide) ?_
        refine j_goto C 31 dX10_takesReadings_27 (by decide) ?_
        exact j_zret C dX10_takesReadings_31 (by decide) (by first | rfl | (rw [← Option.some.inj hg] <;> rfl)) rfl rfl

def gX10_toldOfBook (β : BS) (x0 : Int32) : Option Int32 := if x0 = (0 : Int32) then (some (b_chg β)) else (if x0 = (1 : Int32) then (some (b_acnt β)) else (if x0 = (2 : Int32) then (some (b_rngs β)) else (some (-1 : Int32))))
theorem hd_X10_toldOfBook : yX10_toldOfBook.cls ≠ "java/lang/invoke/MethodHandle" ∧ yX10_toldOfBook.cls ≠ "java/lang/invoke/VarHandle" ∧ (parseMethodDescriptor yX10_toldOfBook.desc).map (fun d => d.parameters.length) = some 1 := by decide +kernel
set_option maxHeartbeats 4000000 in
set_option maxRecDepth 100000 in
theorem tX10_toldOfBook {G : GG} {l : Launch} {z N : Nat} {b : Nat → va_E}  (hN : 71 ≤ N) (β : BS) (x0 : Int32) {r : Int32} (hg : gX10_toldOfBook β x0 = some r) : Ct G l yX10_toldOfBook cX10_toldOfBook 2 (some .int) ({ frames := 0, cells := 0, slots := 0, locals := 0 } : Room) [.ref (z + 0), .int x0] z (ctB G z β b) N (some (.int r)) (ctB G z β b) N := by
  refine Ct.of (lv := [(0, .ref (z + 0)), (1, .int x0)]) (by decide +kernel) (Nat.le_of_ble_eq_true rfl) rfl (fun p e s m args below meth c C => ?_)
  rw [gX10_toldOfBook] at hg
  refine j_iload_n C dX10_toldOfBook_0 1 rfl rfl ?_
  by_cases c1_0 : x0 = (0 : Int32)
  · replace hg := (if_pos c1_0).symm.trans hg
    refine j_tableIn (off := 27) C 28 dX10_toldOfBook_1 (by rw [c1_0]; decide) (by rw [c1_0]; decide) (by rw [c1_0]; rfl) (by decide) ?_
    refine j_aload_n C dX10_toldOfBook_28 0 rfl rfl ?_
    refine j_get (fs := [.ref (z + 1), .ref (z + 2), .ref (z + 5), .ref (z + 12), .int (b_acnt β), .int (b_rngs β), b_lat β, .int (b_chg β), .int (b_frs β)]) (v := .int (b_chg β)) C (by omega) cb_0 rfl inX10 7 (by decide) q1_131 rfl rfl dX10_toldOfBook_29 ?_
    exact j_iret C dX10_toldOfBook_32 (by first | rfl | (rw [← Option.some.inj hg] <;> rfl)) rfl rfl
  · replace hg := (if_neg c1_0).symm.trans hg
    by_cases c1_1 : x0 = (1 : Int32)
    · replace hg := (if_pos c1_1).symm.trans hg
      refine j_tableIn (off := 32) C 33 dX10_toldOfBook_1 (by rw [c1_1]; decide) (by rw [c1_1]; decide) (by rw [c1_1]; rfl) (by decide) ?_
      refine j_aload_n C dX10_toldOfBook_33 0 rfl rfl ?_
      refine j_get (fs := [.ref (z + 1), .ref (z + 2), .ref (z + 5), .ref (z + 12), .int (b_acnt β), .int (b_rngs β), b_lat β, .int (b_chg β), .int (b_frs β)]) (v := .int (b_acnt β)) C (by omega) cb_0 rfl inX10 4 (by decide) q1_128 rfl rfl dX10_toldOfBook_34 ?_
      exact j_iret C dX10_toldOfBook_37 (by first | rfl | (rw [← Option.some.inj hg] <;> rfl)) rfl rfl
    · replace hg := (if_neg c1_1).symm.trans hg
      by_cases c1_2 : x0 = (2 : Int32)
      · replace hg := (if_pos c1_2).symm.trans hg
        refine j_tableIn (off := 37) C 38 dX10_toldOfBook_1 (by rw [c1_2]; decide) (by rw [c1_2]; decide) (by rw [c1_2]; rfl) (by decide) ?_
        refine j_aload_n C dX10_toldOfBook_38 0 rfl rfl ?_
        refine j_get (fs := [.ref (z + 1), .ref (z + 2), .ref (z + 5), .ref (z + 12), .int (b_acnt β), .int (b_rngs β), b_lat β, .int (b_chg β), .int (b_frs β)]) (v := .int (b_rngs β)) C (by omega) cb_0 rfl inX10 5 (by decide) q1_129 rfl rfl dX10_toldOfBook_39 ?_
        exact j_iret C dX10_toldOfBook_42 (by first | rfl | (rw [← Option.some.inj hg] <;> rfl)) rfl rfl
      · replace hg := (if_neg c1_2).symm.trans hg
        have ho : x0.toInt < 0 ∨ 2 < x0.toInt := by
          by_cases ho : x0.toInt < 0 ∨ 2 < x0.toInt
          · exact ho
          · obtain ⟨k, hk, hx⟩ := sw_in ho
            match k, hk, hx with
            | 0, _, hx => exact absurd (Int32.toInt_inj.mp (hx.trans (by decide))) c1_0
            | 1, _, hx => exact absurd (Int32.toInt_inj.mp (hx.trans (by decide))) c1_1
            | 2, _, hx => exact absurd (Int32.toInt_inj.mp (hx.trans (by decide))) c1_2
            | k + 3, hk, _ => exact absurd hk (Nat.not_lt.mpr (Nat.le_add_left _ _))
        refine j_tableOut C 43 dX10_toldOfBook_1 ho (by decide) ?_
        refine j_iconst (v := (-1)) C dX10_toldOfBook_43 (by decide) ?_
        exact j_iret C dX10_toldOfBook_44 (by first | rfl | (rw [← Option.some.inj hg] <;> rfl)) rfl rfl

def gX10_sourceOfK (β : BS) (x0 : Int32) : Option Unit := (gX10_isConstantSource x0).bind (fun r1 => if r1 = 0 then (if ix x0 12 then (none) else none) else (some ()))
theorem hd_X10_sourceOf : yX10_sourceOf.cls ≠ "java/lang/invoke/MethodHandle" ∧ yX10_sourceOf.cls ≠ "java/lang/invoke/VarHandle" ∧ (parseMethodDescriptor yX10_sourceOf.desc).map (fun d => d.parameters.length) = some 1 := by decide +kernel
set_option maxHeartbeats 4000000 in
set_option maxRecDepth 100000 in
theorem tX10_sourceOfK {G : GG} {l : Launch} {z N : Nat} {b : Nat → va_E}  (hN : 71 ≤ N) (β : BS) (x0 : Int32) {r : Unit} (hg : gX10_sourceOfK β x0 = some r) : Ct G l yX10_sourceOf cX10_sourceOf 2 (some (.object "TideBook$Readings")) ({ frames := 1, cells := 0, slots := 0, locals := 20 } : Room) [.ref (z + 0), .int x0] z (ctB G z β b) N (some (.ref (z + 2))) (ctB G z β b) N := by
  refine Ct.of (lv := [(0, .ref (z + 0)), (1, .int x0)]) (by decide +kernel) (Nat.le_of_ble_eq_true rfl) rfl (fun p e s m args below meth c C => ?_)
  rw [gX10_sourceOfK] at hg
  refine j_iload_n C dX10_sourceOf_0 1 rfl rfl ?_
  obtain ⟨r1, hr1, hg⟩ := ob hg
  refine j_callS C [.int x0] (tX10_isConstantSource x0 hr1) q2_40 q1_1 q2_39 q2_38 hd_X10_isConstantSource rfl dX10_sourceOf_1 rfl (Nat.le_of_ble_eq_true rfl) ⟨(Nat.le_of_ble_eq_true rfl), (Nat.le_of_ble_eq_true rfl)⟩ ⟨(Nat.le_of_ble_eq_true rfl), (Nat.le_of_ble_eq_true rfl)⟩ ?_
  refine j_if_eq C 14 hg dX10_sourceOf_4 (by decide) (fun hg => ?_) (fun hg => ?_)
  · refine j_aload_n C dX10_sourceOf_14 0 rfl rfl ?_
    refine j_get (fs := [.ref (z + 1), .ref (z + 2), .ref (z + 5), .ref (z + 12), .int (b_acnt β), .int (b_rngs β), b_lat β, .int (b_chg β), .int (b_frs β)]) (v := .ref (z + 1)) C (by omega) cb_0 rfl inX10 0 (by decide) q1_124 rfl rfl dX10_sourceOf_15 ?_
    refine j_iload_n C dX10_sourceOf_18 1 rfl rfl ?_
    obtain ⟨hi2, hg⟩ := gd hg
    have hl2 := ix_lt hi2
    refine jb_C C hi2 (by omega) cb_1 dX10_sourceOf_19 ?_
    refine j_get (fs := [.ref (z + (13 + 4 * x0.toNatClampNeg + 1)), .int (b_nar β x0.toNatClampNeg), .int (b_ff β x0.toNatClampNeg), .int (b_fa β x0.toNatClampNeg), .int (b_fb β x0.toNatClampNeg), .int (b_fc β x0.toNatClampNeg)]) (v := .ref (z + (13 + 4 * x0.toNatClampNeg + 1))) C (by omega) (cb_col hl2) rfl inX3 0 (by decide) q1_68 rfl rfl dX10_sourceOf_20 ?_
    cases hg
  · refine j_aload_n C dX10_sourceOf_7 0 rfl rfl ?_
    refine j_get (fs := [.ref (z + 1), .ref (z + 2), .ref (z + 5), .ref (z + 12), .int (b_acnt β), .int (b_rngs β), b_lat β, .int (b_chg β), .int (b_frs β)]) (v := .ref (z + 2)) C (by omega) cb_0 rfl inX10 1 (by decide) q1_125 rfl rfl dX10_sourceOf_8 ?_
    refine j_goto C 23 dX10_sourceOf_11 (by decide) ?_
    exact j_aret C dX10_sourceOf_23 rfl rfl rfl

def gX10_sourceOfC (β : BS) (x0 : Int32) : Option Unit := (gX10_isConstantSource x0).bind (fun r1 => if r1 = 0 then (if ix x0 12 then (some ()) else none) else (none))
set_option maxHeartbeats 4000000 in
set_option maxRecDepth 100000 in
theorem tX10_sourceOfC {G : GG} {l : Launch} {z N : Nat} {b : Nat → va_E}  (hN : 71 ≤ N) (β : BS) (x0 : Int32) {r : Unit} (hg : gX10_sourceOfC β x0 = some r) : Ct G l yX10_sourceOf cX10_sourceOf 2 (some (.object "TideBook$Readings")) ({ frames := 1, cells := 0, slots := 0, locals := 20 } : Room) [.ref (z + 0), .int x0] z (ctB G z β b) N (some (.ref (z + (13 + 4 * x0.toNatClampNeg + 1)))) (ctB G z β b) N := by
  refine Ct.of (lv := [(0, .ref (z + 0)), (1, .int x0)]) (by decide +kernel) (Nat.le_of_ble_eq_true rfl) rfl (fun p e s m args below meth c C => ?_)
  rw [gX10_sourceOfC] at hg
  refine j_iload_n C dX10_sourceOf_0 1 rfl rfl ?_
  obtain ⟨r1, hr1, hg⟩ := ob hg
  refine j_callS C [.int x0] (tX10_isConstantSource x0 hr1) q2_40 q1_1 q2_39 q2_38 hd_X10_isConstantSource rfl dX10_sourceOf_1 rfl (Nat.le_of_ble_eq_true rfl) ⟨(Nat.le_of_ble_eq_true rfl), (Nat.le_of_ble_eq_true rfl)⟩ ⟨(Nat.le_of_ble_eq_true rfl), (Nat.le_of_ble_eq_true rfl)⟩ ?_
  refine j_if_eq C 14 hg dX10_sourceOf_4 (by decide) (fun hg => ?_) (fun hg => ?_)
  · refine j_aload_n C dX10_sourceOf_14 0 rfl rfl ?_
    refine j_get (fs := [.ref (z + 1), .ref (z + 2), .ref (z + 5), .ref (z + 12), .int (b_acnt β), .int (b_rngs β), b_lat β, .int (b_chg β), .int (b_frs β)]) (v := .ref (z + 1)) C (by omega) cb_0 rfl inX10 0 (by decide) q1_124 rfl rfl dX10_sourceOf_15 ?_
    refine j_iload_n C dX10_sourceOf_18 1 rfl rfl ?_
    obtain ⟨hi2, hg⟩ := gd hg
    have hl2 := ix_lt hi2
    refine jb_C C hi2 (by omega) cb_1 dX10_sourceOf_19 ?_
    refine j_get (fs := [.ref (z + (13 + 4 * x0.toNatClampNeg + 1)), .int (b_nar β x0.toNatClampNeg), .int (b_ff β x0.toNatClampNeg), .int (b_fa β x0.toNatClampNeg), .int (b_fb β x0.toNatClampNeg), .int (b_fc β x0.toNatClampNeg)]) (v := .ref (z + (13 + 4 * x0.toNatClampNeg + 1))) C (by omega) (cb_col hl2) rfl inX3 0 (by decide) q1_68 rfl rfl dX10_sourceOf_20 ?_
    exact j_aret C dX10_sourceOf_23 rfl rfl rfl
  · refine j_aload_n C dX10_sourceOf_7 0 rfl rfl ?_
    refine j_get (fs := [.ref (z + 1), .ref (z + 2), .ref (z + 5), .ref (z + 12), .int (b_acnt β), .int (b_rngs β), b_lat β, .int (b_chg β), .int (b_frs β)]) (v := .ref (z + 2)) C (by omega) cb_0 rfl inX10 1 (by decide) q1_125 rfl rfl dX10_sourceOf_8 ?_
    refine j_goto C 23 dX10_sourceOf_11 (by decide) ?_
    cases hg

def gX10_remember3 (β : BS) (z : Nat) (t : Nat) (w1 : Int32) : Option BS := some (b_frs_ (b_chg_ (b_lat_ β (Value.ref (z + t))) ((b_chg (b_lat_ β (Value.ref (z + t)))) + (1 : Int32))) (if w1 < (b_frs (b_chg_ (b_lat_ β (Value.ref (z + t))) ((b_chg (b_lat_ β (Value.ref (z + t)))) + (1 : Int32)))) then w1 else (b_frs (b_chg_ (b_lat_ β (Value.ref (z + t))) ((b_chg (b_lat_ β (Value.ref (z + t)))) + (1 : Int32))))))
theorem hd_X10_remember : yX10_remember.cls ≠ "java/lang/invoke/MethodHandle" ∧ yX10_remember.cls ≠ "java/lang/invoke/VarHandle" ∧ (parseMethodDescriptor yX10_remember.desc).map (fun d => d.parameters.length) = some 1 := by decide +kernel
set_option maxHeartbeats 4000000 in
set_option maxRecDepth 100000 in
theorem tX10_remember3 {G : GG} {l : Launch} {z N : Nat} {b : Nat → va_E} {t : Nat} {w w2 : Value} {w1 w3 w5 : Int32} {w4 : UInt64} (hN : 71 ≤ N) (ht : 71 ≤ t) (htN : t < N) (hT : b t = .inr (3, [w, .int w1, w2, .int w3, .double w4, .int w5])) (β : BS) {r : BS} (hg : gX10_remember3 β z t w1 = some r) : Ct G l yX10_remember cX10_remember 2 none ({ frames := 1, cells := 0, slots := 0, locals := 21 } : Room) [.ref (z + 0), .ref (z + t)] z (ctB G z β b) N none (ctB G z r b) N := by
  refine Ct.of (lv := [(0, .ref (z + 0)), (1, .ref (z + t))]) (by decide +kernel) (Nat.le_of_ble_eq_true rfl) rfl (fun p e s m args below meth c C => ?_)
  rw [gX10_remember3] at hg
  refine j_aload_n C dX10_remember_0 0 rfl rfl ?_
  refine j_aload_n C dX10_remember_1 1 rfl rfl ?_
  refine j_put (fs := [.ref (z + 1), .ref (z + 2), .ref (z + 5), .ref (z + 12), .int (b_acnt β), .int (b_rngs β), b_lat β, .int (b_chg β), .int (b_frs β)]) C tyX10 tyX10_ok nmX10 (by omega) cb_0 rfl inX10 6 (by decide) q1_130 rfl rfl (tyX10_ok 6 (by decide)) rfl rfl (Nat.le_of_ble_eq_true rfl) dX10_remember_2 (j_ct bs_lat ?_)
  refine j_aload_n C dX10_remember_5 0 rfl rfl ?_
  refine j_dup C dX10_remember_6 rfl ?_
  refine j_get (fs := [.ref (z + 1), .ref (z + 2), .ref (z + 5), .ref (z + 12), .int (b_acnt (b_lat_ β (Value.ref (z + t)))), .int (b_rngs (b_lat_ β (Value.ref (z + t)))), b_lat (b_lat_ β (Value.ref (z + t))), .int (b_chg (b_lat_ β (Value.ref (z + t)))), .int (b_frs (b_lat_ β (Value.ref (z + t))))]) (v := .int (b_chg (b_lat_ β (Value.ref (z + t))))) C (by omega) cb_0 rfl inX10 7 (by decide) q1_131 rfl rfl dX10_remember_7 ?_
  refine j_iconst (v := 1) C dX10_remember_10 (by decide) ?_
  refine j_iadd C dX10_remember_11 ?_
  refine j_put (fs := [.ref (z + 1), .ref (z + 2), .ref (z + 5), .ref (z + 12), .int (b_acnt (b_lat_ β (Value.ref (z + t)))), .int (b_rngs (b_lat_ β (Value.ref (z + t)))), b_lat (b_lat_ β (Value.ref (z + t))), .int (b_chg (b_lat_ β (Value.ref (z + t)))), .int (b_frs (b_lat_ β (Value.ref (z + t))))]) C tyX10 tyX10_ok nmX10 (by omega) cb_0 rfl inX10 7 (by decide) q1_131 rfl rfl (tyX10_ok 7 (by decide)) rfl rfl (Nat.le_of_ble_eq_true rfl) dX10_remember_12 (j_ct bs_chg ?_)
  refine j_aload_n C dX10_remember_15 0 rfl rfl ?_
  refine j_aload_n C dX10_remember_16 0 rfl rfl ?_
  refine j_get (fs := [.ref (z + 1), .ref (z + 2), .ref (z + 5), .ref (z + 12), .int (b_acnt (b_chg_ (b_lat_ β (Value.ref (z + t))) ((b_chg (b_lat_ β (Value.ref (z + t)))) + (1 : Int32)))), .int (b_rngs (b_chg_ (b_lat_ β (Value.ref (z + t))) ((b_chg (b_lat_ β (Value.ref (z + t)))) + (1 : Int32)))), b_lat (b_chg_ (b_lat_ β (Value.ref (z + t))) ((b_chg (b_lat_ β (Value.ref (z + t)))) + (1 : Int32))), .int (b_chg (b_chg_ (b_lat_ β (Value.ref (z + t))) ((b_chg (b_lat_ β (Value.ref (z + t)))) + (1 : Int32)))), .int (b_frs (b_chg_ (b_lat_ β (Value.ref (z + t))) ((b_chg (b_lat_ β (Value.ref (z + t)))) + (1 : Int32))))]) (v := .int (b_frs (b_chg_ (b_lat_ β (Value.ref (z + t))) ((b_chg (b_lat_ β (Value.ref (z + t)))) + (1 : Int32))))) C (by omega) cb_0 rfl inX10 8 (by decide) q1_132 rfl rfl dX10_remember_17 ?_
  refine j_aload_n C dX10_remember_20 1 rfl rfl ?_
  refine j_get (fs := [w, .int w1, w2, .int w3, .double w4, .int w5]) (v := .int w1) C (by omega) ((cb_ge (by omega)).trans hT) rfl inX7 1 (by decide) q1_201 rfl rfl dX10_remember_21 ?_
  refine j_mmin C q1_219 q1_220 q1_9 q1_221 (Nat.le_of_ble_eq_true rfl) (Nat.le_of_ble_eq_true rfl) (Nat.le_of_ble_eq_true rfl) (Nat.le_of_ble_eq_true rfl) dX10_remember_24 ?_
  refine j_put (fs := [.ref (z + 1), .ref (z + 2), .ref (z + 5), .ref (z + 12), .int (b_acnt (b_chg_ (b_lat_ β (Value.ref (z + t))) ((b_chg (b_lat_ β (Value.ref (z + t)))) + (1 : Int32)))), .int (b_rngs (b_chg_ (b_lat_ β (Value.ref (z + t))) ((b_chg (b_lat_ β (Value.ref (z + t)))) + (1 : Int32)))), b_lat (b_chg_ (b_lat_ β (Value.ref (z + t))) ((b_chg (b_lat_ β (Value.ref (z + t)))) + (1 : Int32))), .int (b_chg (b_chg_ (b_lat_ β (Value.ref (z + t))) ((b_chg (b_lat_ β (Value.ref (z + t)))) + (1 : Int32)))), .int (b_frs (b_chg_ (b_lat_ β (Value.ref (z + t))) ((b_chg (b_lat_ β (Value.ref (z + t)))) + (1 : Int32))))]) C tyX10 tyX10_ok nmX10 (by omega) cb_0 rfl inX10 8 (by decide) q1_132 rfl rfl (tyX10_ok 8 (by decide)) rfl rfl (Nat.le_of_ble_eq_true rfl) dX10_remember_27 (j_ct bs_frs ?_)
  exact j_vret C dX10_remember_30 rfl (by first | rfl | (rw [← Option.some.inj hg] <;> rfl)) rfl

def gX10_remember2 (β : BS) (z : Nat) (t : Nat) (w1 : Int32) : Option BS := some (b_frs_ (b_chg_ (b_lat_ β (Value.ref (z + t))) ((b_chg (b_lat_ β (Value.ref (z + t)))) + (1 : Int32))) (if w1 < (b_frs (b_chg_ (b_lat_ β (Value.ref (z + t))) ((b_chg (b_lat_ β (Value.ref (z + t)))) + (1 : Int32)))) then w1 else (b_frs (b_chg_ (b_lat_ β (Value.ref (z + t))) ((b_chg (b_lat_ β (Value.ref (z + t)))) + (1 : Int32))))))
set_option maxHeartbeats 4000000 in
set_option maxRecDepth 100000 in
theorem tX10_remember2 {G : GG} {l : Launch} {z N : Nat} {b : Nat → va_E} {t : Nat} {w w2 w3 : Value} {w1 : Int32} (hN : 71 ≤ N) (ht : 71 ≤ t) (htN : t < N) (hT : b t = .inr (2, [w, .int w1, w2, w3])) (β : BS) {r : BS} (hg : gX10_remember2 β z t w1 = some r) : Ct G l yX10_remember cX10_remember 2 none ({ frames := 1, cells := 0, slots := 0, locals := 21 } : Room) [.ref (z + 0), .ref (z + t)] z (ctB G z β b) N none (ctB G z r b) N := by
  refine Ct.of (lv := [(0, .ref (z + 0)), (1, .ref (z + t))]) (by decide +kernel) (Nat.le_of_ble_eq_true rfl) rfl (fun p e s m args below meth c C => ?_)
  rw [gX10_remember2] at hg
  refine j_aload_n C dX10_remember_0 0 rfl rfl ?_
  refine j_aload_n C dX10_remember_1 1 rfl rfl ?_
  refine j_put (fs := [.ref (z + 1), .ref (z + 2), .ref (z + 5), .ref (z + 12), .int (b_acnt β), .int (b_rngs β), b_lat β, .int (b_chg β), .int (b_frs β)]) C tyX10 tyX10_ok nmX10 (by omega) cb_0 rfl inX10 6 (by decide) q1_130 rfl rfl (tyX10_ok 6 (by decide)) rfl rfl (Nat.le_of_ble_eq_true rfl) dX10_remember_2 (j_ct bs_lat ?_)
  refine j_aload_n C dX10_remember_5 0 rfl rfl ?_
  refine j_dup C dX10_remember_6 rfl ?_
  refine j_get (fs := [.ref (z + 1), .ref (z + 2), .ref (z + 5), .ref (z + 12), .int (b_acnt (b_lat_ β (Value.ref (z + t)))), .int (b_rngs (b_lat_ β (Value.ref (z + t)))), b_lat (b_lat_ β (Value.ref (z + t))), .int (b_chg (b_lat_ β (Value.ref (z + t)))), .int (b_frs (b_lat_ β (Value.ref (z + t))))]) (v := .int (b_chg (b_lat_ β (Value.ref (z + t))))) C (by omega) cb_0 rfl inX10 7 (by decide) q1_131 rfl rfl dX10_remember_7 ?_
  refine j_iconst (v := 1) C dX10_remember_10 (by decide) ?_
  refine j_iadd C dX10_remember_11 ?_
  refine j_put (fs := [.ref (z + 1), .ref (z + 2), .ref (z + 5), .ref (z + 12), .int (b_acnt (b_lat_ β (Value.ref (z + t)))), .int (b_rngs (b_lat_ β (Value.ref (z + t)))), b_lat (b_lat_ β (Value.ref (z + t))), .int (b_chg (b_lat_ β (Value.ref (z + t)))), .int (b_frs (b_lat_ β (Value.ref (z + t))))]) C tyX10 tyX10_ok nmX10 (by omega) cb_0 rfl inX10 7 (by decide) q1_131 rfl rfl (tyX10_ok 7 (by decide)) rfl rfl (Nat.le_of_ble_eq_true rfl) dX10_remember_12 (j_ct bs_chg ?_)
  refine j_aload_n C dX10_remember_15 0 rfl rfl ?_
  refine j_aload_n C dX10_remember_16 0 rfl rfl ?_
  refine j_get (fs := [.ref (z + 1), .ref (z + 2), .ref (z + 5), .ref (z + 12), .int (b_acnt (b_chg_ (b_lat_ β (Value.ref (z + t))) ((b_chg (b_lat_ β (Value.ref (z + t)))) + (1 : Int32)))), .int (b_rngs (b_chg_ (b_lat_ β (Value.ref (z + t))) ((b_chg (b_lat_ β (Value.ref (z + t)))) + (1 : Int32)))), b_lat (b_chg_ (b_lat_ β (Value.ref (z + t))) ((b_chg (b_lat_ β (Value.ref (z + t)))) + (1 : Int32))), .int (b_chg (b_chg_ (b_lat_ β (Value.ref (z + t))) ((b_chg (b_lat_ β (Value.ref (z + t)))) + (1 : Int32)))), .int (b_frs (b_chg_ (b_lat_ β (Value.ref (z + t))) ((b_chg (b_lat_ β (Value.ref (z + t)))) + (1 : Int32))))]) (v := .int (b_frs (b_chg_ (b_lat_ β (Value.ref (z + t))) ((b_chg (b_lat_ β (Value.ref (z + t)))) + (1 : Int32))))) C (by omega) cb_0 rfl inX10 8 (by decide) q1_132 rfl rfl dX10_remember_17 ?_
  refine j_aload_n C dX10_remember_20 1 rfl rfl ?_
  refine j_get (fs := [w, .int w1, w2, w3]) (v := .int w1) C (by omega) ((cb_ge (by omega)).trans hT) rfl inX4 1 (by decide) q1_201 rfl rfl dX10_remember_21 ?_
  refine j_mmin C q1_219 q1_220 q1_9 q1_221 (Nat.le_of_ble_eq_true rfl) (Nat.le_of_ble_eq_true rfl) (Nat.le_of_ble_eq_true rfl) (Nat.le_of_ble_eq_true rfl) dX10_remember_24 ?_
  refine j_put (fs := [.ref (z + 1), .ref (z + 2), .ref (z + 5), .ref (z + 12), .int (b_acnt (b_chg_ (b_lat_ β (Value.ref (z + t))) ((b_chg (b_lat_ β (Value.ref (z + t)))) + (1 : Int32)))), .int (b_rngs (b_chg_ (b_lat_ β (Value.ref (z + t))) ((b_chg (b_lat_ β (Value.ref (z + t)))) + (1 : Int32)))), b_lat (b_chg_ (b_lat_ β (Value.ref (z + t))) ((b_chg (b_lat_ β (Value.ref (z + t)))) + (1 : Int32))), .int (b_chg (b_chg_ (b_lat_ β (Value.ref (z + t))) ((b_chg (b_lat_ β (Value.ref (z + t)))) + (1 : Int32)))), .int (b_frs (b_chg_ (b_lat_ β (Value.ref (z + t))) ((b_chg (b_lat_ β (Value.ref (z + t)))) + (1 : Int32))))]) C tyX10 tyX10_ok nmX10 (by omega) cb_0 rfl inX10 8 (by decide) q1_132 rfl rfl (tyX10_ok 8 (by decide)) rfl rfl (Nat.le_of_ble_eq_true rfl) dX10_remember_27 (j_ct bs_frs ?_)
  exact j_vret C dX10_remember_30 rfl (by first | rfl | (rw [← Option.some.inj hg] <;> rfl)) rfl

def gX10_loadK_25 (β : BS) (j : Nat) (k25 : BS → Int32 → Option BS) (β9 : BS) (v4 : Int32) : Option BS := if (16 : Int32) ≤ v4 then (some (β9)) else ((gX8_putBrought 16 (b_xn β9) (b_xb β9) 16 (b_num β9 (b_fa β j).toNatClampNeg) (b_bl β9 (b_fa β j).toNatClampNeg) v4 v4 (b_nar β9 j)).bind (fun r3 => (gX10_placeIn (b_fb (b_xb_ (b_xn_ β9 r3.1) r3.2) j) v4).bind (fun r4 => (gX8_putBrought 16 (b_yn (b_xb_ (b_xn_ β9 r3.1) r3.2)) (b_yb (b_xb_ (b_xn_ β9 r3.1) r3.2)) 8 (b_cn (b_xb_ (b_xn_ β9 r3.1) r3.2)) (b_cb (b_xb_ (b_xn_ β9 r3.1) r3.2)) v4 r4 (b_nar (b_xb_ (b_xn_ β9 r3.1) r3.2) j)).bind (fun r5 => k25 (b_yb_ (b_yn_ (b_xb_ (b_xn_ β9 r3.1) r3.2) r5.1) r5.2) (v4 + (1 : Int32))))))
def gX10_loadK (β : BS) (j : Nat) : Option BS := if ix (b_fa β j) 12 then ((gX10_sourceOfK β (b_fb β j)).bind (fun r2 => lq2 (gX10_loadK_25 β j) 20 β (0 : Int32))) else none
theorem hd_X10_load : yX10_load.cls ≠ "java/lang/invoke/MethodHandle" ∧ yX10_load.cls ≠ "java/lang/invoke/VarHandle" ∧ (parseMethodDescriptor yX10_load.desc).map (fun d => d.parameters.length) = some 1 := by decide +kernel
set_option maxHeartbeats 4000000 in
set_option maxRecDepth 100000 in
theorem tX10_loadK {G : GG} {l : Launch} {z N : Nat} {b : Nat → va_E} {j : Nat} (hN : 71 ≤ N) (hj : j < 12) (β : BS) {r : BS} (hg : gX10_loadK β j = some r) : Ct G l yX10_load cX10_load 5 none ({ frames := 2, cells := 0, slots := 0, locals := 46 } : Room) [.ref (z + 0), .ref (z + (13 + 4 * j))] z (ctB G z β b) N none (ctB G z r b) N := by
  refine Ct.of (lv := [(0, .ref (z + 0)), (1, .ref (z + (13 + 4 * j)))]) (by decide +kernel) (Nat.le_of_ble_eq_true rfl) rfl (fun p e s m args below meth c C => ?_)
  have L_25 : ∀ (n25 : Nat) (β9 : BS) (v4 : Int32), (b_fa β j).toNatClampNeg < 12 → lq2 (gX10_loadK_25 β j) n25 β9 v4 = some r → J G p l e ({ frames := 2, cells := 0, slots := 0, locals := 46 } : Room) s m args below meth c z 5 (MQ below (Qd G z none (ctB G z r b) N) args s 0 0 (zA z)) (ctB G z β9 b) N 0 0 25 [(0, .ref (z + 0)), (1, .ref (z + (13 + 4 * j))), (2, .ref (z + (13 + 4 * (b_fa β j).toNatClampNeg + 1))), (3, .ref (z + 2)), (4, .int v4)] [] := by
    intro n25
    induction n25 with
    | zero => intro β9 v4 hp25_1 hg; cases hg
    | succ n25 ih25 =>
      intro β9 v4 hp25_1 hg
      replace hg : gX10_loadK_25 β j (lq2 (gX10_loadK_25 β j) n25) β9 v4 = some r := hg
      rw [gX10_loadK_25] at hg
      refine j_iload C dX10_load_25 4 rfl ?_
      refine j_bipush (v := 16) C dX10_load_27 (by decide) ?_
      refine j_icmp_ge C 83 hg dX10_load_29 (by decide) (fun hg => ?_) (fun hg => ?_)
      · exact j_vret C dX10_load_83 rfl (by first | rfl | (rw [← Option.some.inj hg] <;> rfl)) rfl
      · refine j_aload_n C dX10_load_32 0 rfl rfl ?_
        refine j_get (fs := [.ref (z + 1), .ref (z + 2), .ref (z + 5), .ref (z + 12), .int (b_acnt β9), .int (b_rngs β9), b_lat β9, .int (b_chg β9), .int (b_frs β9)]) (v := .ref (z + 5)) C (by omega) cb_0 rfl inX10 2 (by decide) q1_126 rfl rfl dX10_load_33 ?_
        refine j_get (fs := [.ref (z + 6), .ref (z + 9)]) (v := .ref (z + 6)) C (by omega) cb_5 rfl inX9 0 (by decide) q1_49 rfl rfl dX10_load_36 ?_
        refine j_iload C dX10_load_39 4 rfl ?_
        refine j_aload_n C dX10_load_41 2 rfl rfl ?_
        refine j_iload C dX10_load_42 4 rfl ?_
        refine j_aload_n C dX10_load_44 1 rfl rfl ?_
        refine j_get (fs := [.ref (z + (13 + 4 * j + 1)), .int (b_nar β9 j), .int (b_ff β9 j), .int (b_fa β9 j), .int (b_fb β9 j), .int (b_fc β9 j)]) (v := .int (b_nar β9 j)) C (by omega) (cb_col hj) rfl inX3 1 (by decide) q1_70 rfl rfl dX10_load_45 ?_
        obtain ⟨r3, hr3, hg⟩ := ob hg
        refine j_ct (rdS_self (r := 6) cb_7 cb_8).symm ?_
        refine j_callV C [.int v4, .ref (z + (13 + 4 * (b_fa β j).toNatClampNeg + 1)), .int v4, .int (b_nar β9 j)] (tX8_putBrought (ct := ctB G z β9 b) (by omega) cb_6 ⟨by omega, (cb_rd hp25_1), (cb_num hp25_1), (cb_bl hp25_1)⟩ (by omega) v4 v4 (b_nar β9 j) hr3) (by omega) ((rdS_ne (by omega) (by omega)).trans cb_6) rfl q2_56 q1_2 q2_54 q2_55 q2_86 hd_X8_putBrought rfl dX10_load_48 rfl (Nat.le_of_ble_eq_true rfl) ⟨(Nat.le_of_ble_eq_true rfl), (Nat.le_of_ble_eq_true rfl)⟩ ⟨(Nat.le_of_ble_eq_true rfl), (Nat.le_of_ble_eq_true rfl)⟩ (j_ct bs_x ?_)
        refine j_aload_n C dX10_load_51 0 rfl rfl ?_
        refine j_get (fs := [.ref (z + 1), .ref (z + 2), .ref (z + 5), .ref (z + 12), .int (b_acnt (b_xb_ (b_xn_ β9 r3.1) r3.2)), .int (b_rngs (b_xb_ (b_xn_ β9 r3.1) r3.2)), b_lat (b_xb_ (b_xn_ β9 r3.1) r3.2), .int (b_chg (b_xb_ (b_xn_ β9 r3.1) r3.2)), .int (b_frs (b_xb_ (b_xn_ β9 r3.1) r3.2))]) (v := .ref (z + 5)) C (by omega) cb_0 rfl inX10 2 (by decide) q1_126 rfl rfl dX10_load_52 ?_
        refine j_get (fs := [.ref (z + 6), .ref (z + 9)]) (v := .ref (z + 9)) C (by omega) cb_5 rfl inX9 1 (by decide) q1_51 rfl rfl dX10_load_55 ?_
        refine j_iload C dX10_load_58 4 rfl ?_
        refine j_aload_n C dX10_load_60 3 rfl rfl ?_
        refine j_aload_n C dX10_load_61 1 rfl rfl ?_
        refine j_get (fs := [.ref (z + (13 + 4 * j + 1)), .int (b_nar (b_xb_ (b_xn_ β9 r3.1) r3.2) j), .int (b_ff (b_xb_ (b_xn_ β9 r3.1) r3.2) j), .int (b_fa (b_xb_ (b_xn_ β9 r3.1) r3.2) j), .int (b_fb (b_xb_ (b_xn_ β9 r3.1) r3.2) j), .int (b_fc (b_xb_ (b_xn_ β9 r3.1) r3.2) j)]) (v := .int (b_fb (b_xb_ (b_xn_ β9 r3.1) r3.2) j)) C (by omega) (cb_col hj) rfl inX3 4 (by decide) q1_78 rfl rfl dX10_load_62 ?_
        refine j_iload C dX10_load_65 4 rfl ?_
        obtain ⟨r4, hr4, hg⟩ := ob hg
        refine j_callS C [.int (b_fb (b_xb_ (b_xn_ β9 r3.1) r3.2) j), .int v4] (tX10_placeIn (b_fb (b_xb_ (b_xn_ β9 r3.1) r3.2) j) v4 hr4) q2_89 q1_1 q2_88 q2_87 hd_X10_placeIn rfl dX10_load_67 rfl (Nat.le_of_ble_eq_true rfl) ⟨(Nat.le_of_ble_eq_true rfl), (Nat.le_of_ble_eq_true rfl)⟩ ⟨(Nat.le_of_ble_eq_true rfl), (Nat.le_of_ble_eq_true rfl)⟩ ?_
        refine j_aload_n C dX10_load_70 1 rfl rfl ?_
        refine j_get (fs := [.ref (z + (13 + 4 * j + 1)), .int (b_nar (b_xb_ (b_xn_ β9 r3.1) r3.2) j), .int (b_ff (b_xb_ (b_xn_ β9 r3.1) r3.2) j), .int (b_fa (b_xb_ (b_xn_ β9 r3.1) r3.2) j), .int (b_fb (b_xb_ (b_xn_ β9 r3.1) r3.2) j), .int (b_fc (b_xb_ (b_xn_ β9 r3.1) r3.2) j)]) (v := .int (b_nar (b_xb_ (b_xn_ β9 r3.1) r3.2) j)) C (by omega) (cb_col hj) rfl inX3 1 (by decide) q1_70 rfl rfl dX10_load_71 ?_
        obtain ⟨r5, hr5, hg⟩ := ob hg
        refine j_ct (rdS_self (r := 9) cb_10 cb_11).symm ?_
        refine j_callV C [.int v4, .ref (z + 2), .int r4, .int (b_nar (b_xb_ (b_xn_ β9 r3.1) r3.2) j)] (tX8_putBrought (ct := ctB G z (b_xb_ (b_xn_ β9 r3.1) r3.2) b) (by omega) cb_9 ⟨by omega, cb_2, cb_3, cb_4⟩ (by omega) v4 r4 (b_nar (b_xb_ (b_xn_ β9 r3.1) r3.2) j) hr5) (by omega) ((rdS_ne (by omega) (by omega)).trans cb_9) rfl q2_56 q1_2 q2_54 q2_55 q2_86 hd_X8_putBrought rfl dX10_load_74 rfl (Nat.le_of_ble_eq_true rfl) ⟨(Nat.le_of_ble_eq_true rfl), (Nat.le_of_ble_eq_true rfl)⟩ ⟨(Nat.le_of_ble_eq_true rfl), (Nat.le_of_ble_eq_true rfl)⟩ (j_ct bs_y ?_)
        refine j_iinc C [(4, .int (v4 + (1 : Int32))), (0, .ref (z + 0)), (1, .ref (z + (13 + 4 * j))), (2, .ref (z + (13 + 4 * (b_fa β j).toNatClampNeg + 1))), (3, .ref (z + 2))] dX10_load_77 4 rfl rfl (by decide) rfl ?_
        refine j_goto C 25 dX10_load_80 (by decide) ?_
        exact j_re [1, 2, 3, 4, 0] rfl (ih25 (b_yb_ (b_yn_ (b_xb_ (b_xn_ β9 r3.1) r3.2) r5.1) r5.2) (v4 + (1 : Int32)) hp25_1 hg)
  rw [gX10_loadK] at hg
  refine j_aload_n C dX10_load_0 0 rfl rfl ?_
  refine j_get (fs := [.ref (z + 1), .ref (z + 2), .ref (z + 5), .ref (z + 12), .int (b_acnt β), .int (b_rngs β), b_lat β, .int (b_chg β), .int (b_frs β)]) (v := .ref (z + 1)) C (by omega) cb_0 rfl inX10 0 (by decide) q1_124 rfl rfl dX10_load_1 ?_
  refine j_aload_n C dX10_load_4 1 rfl rfl ?_
  refine j_get (fs := [.ref (z + (13 + 4 * j + 1)), .int (b_nar β j), .int (b_ff β j), .int (b_fa β j), .int (b_fb β j), .int (b_fc β j)]) (v := .int (b_fa β j)) C (by omega) (cb_col hj) rfl inX3 3 (by decide) q1_76 rfl rfl dX10_load_5 ?_
  obtain ⟨hi1, hg⟩ := gd hg
  have hl1 := ix_lt hi1
  refine jb_C C hi1 (by omega) cb_1 dX10_load_8 ?_
  refine j_get (fs := [.ref (z + (13 + 4 * (b_fa β j).toNatClampNeg + 1)), .int (b_nar β (b_fa β j).toNatClampNeg), .int (b_ff β (b_fa β j).toNatClampNeg), .int (b_fa β (b_fa β j).toNatClampNeg), .int (b_fb β (b_fa β j).toNatClampNeg), .int (b_fc β (b_fa β j).toNatClampNeg)]) (v := .ref (z + (13 + 4 * (b_fa β j).toNatClampNeg + 1))) C (by omega) (cb_col hl1) rfl inX3 0 (by decide) q1_68 rfl rfl dX10_load_9 ?_
  refine j_astore_n C [(2, .ref (z + (13 + 4 * (b_fa β j).toNatClampNeg + 1))), (0, .ref (z + 0)), (1, .ref (z + (13 + 4 * j)))] dX10_load_12 rfl (by decide) rfl ?_
  refine j_aload_n C dX10_load_13 1 rfl rfl ?_
  refine j_aload_n C dX10_load_14 2 rfl rfl ?_
  refine j_get (fs := [.ref (z + (13 + 4 * j + 1)), .int (b_nar β j), .int (b_ff β j), .int (b_fa β j), .int (b_fb β j), .int (b_fc β j)]) (v := .int (b_fb β j)) C (by omega) (cb_col hj) rfl inX3 4 (by decide) q1_78 rfl rfl dX10_load_15 ?_
  obtain ⟨r2, hr2, hg⟩ := ob hg
  refine j_callV C [.int (b_fb β j)] (tX10_sourceOfK (b := b) (by omega) β (b_fb β j) hr2) (by omega) cb_0 rfl q2_85 q1_1 q2_84 qp_5 q2_82 hd_X10_sourceOf rfl dX10_load_18 rfl (Nat.le_of_ble_eq_true rfl) ⟨(Nat.le_of_ble_eq_true rfl), (Nat.le_of_ble_eq_true rfl)⟩ ⟨(Nat.le_of_ble_eq_true rfl), (Nat.le_of_ble_eq_true rfl)⟩ ?_
  refine j_astore_n C [(3, .ref (z + 2)), (2, .ref (z + (13 + 4 * (b_fa β j).toNatClampNeg + 1))), (0, .ref (z + 0)), (1, .ref (z + (13 + 4 * j)))] dX10_load_21 rfl (by decide) rfl ?_
  refine j_iconst (v := 0) C dX10_load_22 (by decide) ?_
  refine j_istore C [(4, .int (0 : Int32)), (3, .ref (z + 2)), (2, .ref (z + (13 + 4 * (b_fa β j).toNatClampNeg + 1))), (0, .ref (z + 0)), (1, .ref (z + (13 + 4 * j)))] dX10_load_23 (by decide) rfl ?_
  exact j_re [3, 4, 2, 1, 0] rfl (L_25 20 β (0 : Int32) hl1 hg)

def gX10_loadC_25 (β : BS) (j : Nat) (k25 : BS → Int32 → Option BS) (β9 : BS) (v4 : Int32) : Option BS := if (16 : Int32) ≤ v4 then (some (β9)) else ((gX8_putBrought 16 (b_xn β9) (b_xb β9) 16 (b_num β9 (b_fa β j).toNatClampNeg) (b_bl β9 (b_fa β j).toNatClampNeg) v4 v4 (b_nar β9 j)).bind (fun r4 => (gX10_placeIn (b_fb (b_xb_ (b_xn_ β9 r4.1) r4.2) j) v4).bind (fun r5 => (gX8_putBrought 16 (b_yn (b_xb_ (b_xn_ β9 r4.1) r4.2)) (b_yb (b_xb_ (b_xn_ β9 r4.1) r4.2)) 16 (b_num (b_xb_ (b_xn_ β9 r4.1) r4.2) (b_fb β j).toNatClampNeg) (b_bl (b_xb_ (b_xn_ β9 r4.1) r4.2) (b_fb β j).toNatClampNeg) v4 r5 (b_nar (b_xb_ (b_xn_ β9 r4.1) r4.2) j)).bind (fun r6 => k25 (b_yb_ (b_yn_ (b_xb_ (b_xn_ β9 r4.1) r4.2) r6.1) r6.2) (v4 + (1 : Int32))))))
def gX10_loadC (β : BS) (j : Nat) : Option BS := if ix (b_fa β j) 12 then (if ix (b_fb β j) 12 then ((gX10_sourceOfC β (b_fb β j)).bind (fun r2 => lq2 (gX10_loadC_25 β j) 20 β (0 : Int32))) else none) else none
set_option maxHeartbeats 4000000 in
set_option maxRecDepth 100000 in
theorem tX10_loadC {G : GG} {l : Launch} {z N : Nat} {b : Nat → va_E} {j : Nat} (hN : 71 ≤ N) (hj : j < 12) (β : BS) {r : BS} (hg : gX10_loadC β j = some r) : Ct G l yX10_load cX10_load 5 none ({ frames := 2, cells := 0, slots := 0, locals := 46 } : Room) [.ref (z + 0), .ref (z + (13 + 4 * j))] z (ctB G z β b) N none (ctB G z r b) N := by
  refine Ct.of (lv := [(0, .ref (z + 0)), (1, .ref (z + (13 + 4 * j)))]) (by decide +kernel) (Nat.le_of_ble_eq_true rfl) rfl (fun p e s m args below meth c C => ?_)
  have L_25 : ∀ (n25 : Nat) (β9 : BS) (v4 : Int32), (b_fa β j).toNatClampNeg < 12 → (b_fb β j).toNatClampNeg < 12 → lq2 (gX10_loadC_25 β j) n25 β9 v4 = some r → J G p l e ({ frames := 2, cells := 0, slots := 0, locals := 46 } : Room) s m args below meth c z 5 (MQ below (Qd G z none (ctB G z r b) N) args s 0 0 (zA z)) (ctB G z β9 b) N 0 0 25 [(0, .ref (z + 0)), (1, .ref (z + (13 + 4 * j))), (2, .ref (z + (13 + 4 * (b_fa β j).toNatClampNeg + 1))), (3, .ref (z + (13 + 4 * (b_fb β j).toNatClampNeg + 1))), (4, .int v4)] [] := by
    intro n25
    induction n25 with
    | zero => intro β9 v4 hp25_1 hp25_2 hg; cases hg
    | succ n25 ih25 =>
      intro β9 v4 hp25_1 hp25_2 hg
      replace hg : gX10_loadC_25 β j (lq2 (gX10_loadC_25 β j) n25) β9 v4 = some r := hg
      rw [gX10_loadC_25] at hg
      refine j_iload C dX10_load_25 4 rfl ?_
      refine j_bipush (v := 16) C dX10_load_27 (by decide) ?_
      refine j_icmp_ge C 83 hg dX10_load_29 (by decide) (fun hg => ?_) (fun hg => ?_)
      · exact j_vret C dX10_load_83 rfl (by first | rfl | (rw [← Option.some.inj hg] <;> rfl)) rfl
      · refine j_aload_n C dX10_load_32 0 rfl rfl ?_
        refine j_get (fs := [.ref (z + 1), .ref (z + 2), .ref (z + 5), .ref (z + 12), .int (b_acnt β9), .int (b_rngs β9), b_lat β9, .int (b_chg β9), .int (b_frs β9)]) (v := .ref (z + 5)) C (by omega) cb_0 rfl inX10 2 (by decide) q1_126 rfl rfl dX10_load_33 ?_
        refine j_get (fs := [.ref (z + 6), .ref (z + 9)]) (v := .ref (z + 6)) C (by omega) cb_5 rfl inX9 0 (by decide) q1_49 rfl rfl dX10_load_36 ?_
        refine j_iload C dX10_load_39 4 rfl ?_
        refine j_aload_n C dX10_load_41 2 rfl rfl ?_
        refine j_iload C dX10_load_42 4 rfl ?_
        refine j_aload_n C dX10_load_44 1 rfl rfl ?_
        refine j_get (fs := [.ref (z + (13 + 4 * j + 1)), .int (b_nar β9 j), .int (b_ff β9 j), .int (b_fa β9 j), .int (b_fb β9 j), .int (b_fc β9 j)]) (v := .int (b_nar β9 j)) C (by omega) (cb_col hj) rfl inX3 1 (by decide) q1_70 rfl rfl dX10_load_45 ?_
        obtain ⟨r4, hr4, hg⟩ := ob hg
        refine j_ct (rdS_self (r := 6) cb_7 cb_8).symm ?_
        refine j_callV C [.int v4, .ref (z + (13 + 4 * (b_fa β j).toNatClampNeg + 1)), .int v4, .int (b_nar β9 j)] (tX8_putBrought (ct := ctB G z β9 b) (by omega) cb_6 ⟨by omega, (cb_rd hp25_1), (cb_num hp25_1), (cb_bl hp25_1)⟩ (by omega) v4 v4 (b_nar β9 j) hr4) (by omega) ((rdS_ne (by omega) (by omega)).trans cb_6) rfl q2_56 q1_2 q2_54 q2_55 q2_86 hd_X8_putBrought rfl dX10_load_48 rfl (Nat.le_of_ble_eq_true rfl) ⟨(Nat.le_of_ble_eq_true rfl), (Nat.le_of_ble_eq_true rfl)⟩ ⟨(Nat.le_of_ble_eq_true rfl), (Nat.le_of_ble_eq_true rfl)⟩ (j_ct bs_x ?_)
        refine j_aload_n C dX10_load_51 0 rfl rfl ?_
        refine j_get (fs := [.ref (z + 1), .ref (z + 2), .ref (z + 5), .ref (z + 12), .int (b_acnt (b_xb_ (b_xn_ β9 r4.1) r4.2)), .int (b_rngs (b_xb_ (b_xn_ β9 r4.1) r4.2)), b_lat (b_xb_ (b_xn_ β9 r4.1) r4.2), .int (b_chg (b_xb_ (b_xn_ β9 r4.1) r4.2)), .int (b_frs (b_xb_ (b_xn_ β9 r4.1) r4.2))]) (v := .ref (z + 5)) C (by omega) cb_0 rfl inX10 2 (by decide) q1_126 rfl rfl dX10_load_52 ?_
        refine j_get (fs := [.ref (z + 6), .ref (z + 9)]) (v := .ref (z + 9)) C (by omega) cb_5 rfl inX9 1 (by decide) q1_51 rfl rfl dX10_load_55 ?_
        refine j_iload C dX10_load_58 4 rfl ?_
        refine j_aload_n C dX10_load_60 3 rfl rfl ?_
        refine j_aload_n C dX10_load_61 1 rfl rfl ?_
        refine j_get (fs := [.ref (z + (13 + 4 * j + 1)), .int (b_nar (b_xb_ (b_xn_ β9 r4.1) r4.2) j), .int (b_ff (b_xb_ (b_xn_ β9 r4.1) r4.2) j), .int (b_fa (b_xb_ (b_xn_ β9 r4.1) r4.2) j), .int (b_fb (b_xb_ (b_xn_ β9 r4.1) r4.2) j), .int (b_fc (b_xb_ (b_xn_ β9 r4.1) r4.2) j)]) (v := .int (b_fb (b_xb_ (b_xn_ β9 r4.1) r4.2) j)) C (by omega) (cb_col hj) rfl inX3 4 (by decide) q1_78 rfl rfl dX10_load_62 ?_
        refine j_iload C dX10_load_65 4 rfl ?_
        obtain ⟨r5, hr5, hg⟩ := ob hg
        refine j_callS C [.int (b_fb (b_xb_ (b_xn_ β9 r4.1) r4.2) j), .int v4] (tX10_placeIn (b_fb (b_xb_ (b_xn_ β9 r4.1) r4.2) j) v4 hr5) q2_89 q1_1 q2_88 q2_87 hd_X10_placeIn rfl dX10_load_67 rfl (Nat.le_of_ble_eq_true rfl) ⟨(Nat.le_of_ble_eq_true rfl), (Nat.le_of_ble_eq_true rfl)⟩ ⟨(Nat.le_of_ble_eq_true rfl), (Nat.le_of_ble_eq_true rfl)⟩ ?_
        refine j_aload_n C dX10_load_70 1 rfl rfl ?_
        refine j_get (fs := [.ref (z + (13 + 4 * j + 1)), .int (b_nar (b_xb_ (b_xn_ β9 r4.1) r4.2) j), .int (b_ff (b_xb_ (b_xn_ β9 r4.1) r4.2) j), .int (b_fa (b_xb_ (b_xn_ β9 r4.1) r4.2) j), .int (b_fb (b_xb_ (b_xn_ β9 r4.1) r4.2) j), .int (b_fc (b_xb_ (b_xn_ β9 r4.1) r4.2) j)]) (v := .int (b_nar (b_xb_ (b_xn_ β9 r4.1) r4.2) j)) C (by omega) (cb_col hj) rfl inX3 1 (by decide) q1_70 rfl rfl dX10_load_71 ?_
        obtain ⟨r6, hr6, hg⟩ := ob hg
        refine j_ct (rdS_self (r := 9) cb_10 cb_11).symm ?_
        refine j_callV C [.int v4, .ref (z + (13 + 4 * (b_fb β j).toNatClampNeg + 1)), .int r5, .int (b_nar (b_xb_ (b_xn_ β9 r4.1) r4.2) j)] (tX8_putBrought (ct := ctB G z (b_xb_ (b_xn_ β9 r4.1) r4.2) b) (by omega) cb_9 ⟨by omega, (cb_rd hp25_2), (cb_num hp25_2), (cb_bl hp25_2)⟩ (by omega) v4 r5 (b_nar (b_xb_ (b_xn_ β9 r4.1) r4.2) j) hr6) (by omega) ((rdS_ne (by omega) (by omega)).trans cb_9) rfl q2_56 q1_2 q2_54 q2_55 q2_86 hd_X8_putBrought rfl dX10_load_74 rfl (Nat.le_of_ble_eq_true rfl) ⟨(Nat.le_of_ble_eq_true rfl), (Nat.le_of_ble_eq_true rfl)⟩ ⟨(Nat.le_of_ble_eq_true rfl), (Nat.le_of_ble_eq_true rfl)⟩ (j_ct bs_y ?_)
        refine j_iinc C [(4, .int (v4 + (1 : Int32))), (0, .ref (z + 0)), (1, .ref (z + (13 + 4 * j))), (2, .ref (z + (13 + 4 * (b_fa β j).toNatClampNeg + 1))), (3, .ref (z + (13 + 4 * (b_fb β j).toNatClampNeg + 1)))] dX10_load_77 4 rfl rfl (by decide) rfl ?_
        refine j_goto C 25 dX10_load_80 (by decide) ?_
        exact j_re [1, 2, 3, 4, 0] rfl (ih25 (b_yb_ (b_yn_ (b_xb_ (b_xn_ β9 r4.1) r4.2) r6.1) r6.2) (v4 + (1 : Int32)) hp25_1 hp25_2 hg)
  rw [gX10_loadC] at hg
  refine j_aload_n C dX10_load_0 0 rfl rfl ?_
  refine j_get (fs := [.ref (z + 1), .ref (z + 2), .ref (z + 5), .ref (z + 12), .int (b_acnt β), .int (b_rngs β), b_lat β, .int (b_chg β), .int (b_frs β)]) (v := .ref (z + 1)) C (by omega) cb_0 rfl inX10 0 (by decide) q1_124 rfl rfl dX10_load_1 ?_
  refine j_aload_n C dX10_load_4 1 rfl rfl ?_
  refine j_get (fs := [.ref (z + (13 + 4 * j + 1)), .int (b_nar β j), .int (b_ff β j), .int (b_fa β j), .int (b_fb β j), .int (b_fc β j)]) (v := .int (b_fa β j)) C (by omega) (cb_col hj) rfl inX3 3 (by decide) q1_76 rfl rfl dX10_load_5 ?_
  obtain ⟨hi1, hg⟩ := gd hg
  have hl1 := ix_lt hi1
  refine jb_C C hi1 (by omega) cb_1 dX10_load_8 ?_
  refine j_get (fs := [.ref (z + (13 + 4 * (b_fa β j).toNatClampNeg + 1)), .int (b_nar β (b_fa β j).toNatClampNeg), .int (b_ff β (b_fa β j).toNatClampNeg), .int (b_fa β (b_fa β j).toNatClampNeg), .int (b_fb β (b_fa β j).toNatClampNeg), .int (b_fc β (b_fa β j).toNatClampNeg)]) (v := .ref (z + (13 + 4 * (b_fa β j).toNatClampNeg + 1))) C (by omega) (cb_col hl1) rfl inX3 0 (by decide) q1_68 rfl rfl dX10_load_9 ?_
  refine j_astore_n C [(2, .ref (z + (13 + 4 * (b_fa β j).toNatClampNeg + 1))), (0, .ref (z + 0)), (1, .ref (z + (13 + 4 * j)))] dX10_load_12 rfl (by decide) rfl ?_
  refine j_aload_n C dX10_load_13 1 rfl rfl ?_
  refine j_aload_n C dX10_load_14 2 rfl rfl ?_
  refine j_get (fs := [.ref (z + (13 + 4 * j + 1)), .int (b_nar β j), .int (b_ff β j), .int (b_fa β j), .int (b_fb β j), .int (b_fc β j)]) (v := .int (b_fb β j)) C (by omega) (cb_col hj) rfl inX3 4 (by decide) q1_78 rfl rfl dX10_load_15 ?_
  obtain ⟨hi3, hg⟩ := gd hg
  have hl3 := ix_lt hi3
  obtain ⟨r2, hr2, hg⟩ := ob hg
  refine j_callV C [.int (b_fb β j)] (tX10_sourceOfC (b := b) (by omega) β (b_fb β j) hr2) (by omega) cb_0 rfl q2_85 q1_1 q2_84 qp_5 q2_82 hd_X10_sourceOf rfl dX10_load_18 rfl (Nat.le_of_ble_eq_true rfl) ⟨(Nat.le_of_ble_eq_true rfl), (Nat.le_of_ble_eq_true rfl)⟩ ⟨(Nat.le_of_ble_eq_true rfl), (Nat.le_of_ble_eq_true rfl)⟩ ?_
  refine j_astore_n C [(3, .ref (z + (13 + 4 * (b_fb β j).toNatClampNeg + 1))), (2, .ref (z + (13 + 4 * (b_fa β j).toNatClampNeg + 1))), (0, .ref (z + 0)), (1, .ref (z + (13 + 4 * j)))] dX10_load_21 rfl (by decide) rfl ?_
  refine j_iconst (v := 0) C dX10_load_22 (by decide) ?_
  refine j_istore C [(4, .int (0 : Int32)), (3, .ref (z + (13 + 4 * (b_fb β j).toNatClampNeg + 1))), (2, .ref (z + (13 + 4 * (b_fa β j).toNatClampNeg + 1))), (0, .ref (z + 0)), (1, .ref (z + (13 + 4 * j)))] dX10_load_23 (by decide) rfl ?_
  exact j_re [3, 4, 2, 1, 0] rfl (L_25 20 β (0 : Int32) hl1 hl3 hg)

def gX10_placesWhereK_67 (β : BS) (j : Nat) (k28 : Int32 → Int32 → Option Int32) (v4 : Int32) (v5 : Int32) : Option Int32 := k28 v4 (v5 + (1 : Int32))
def gX10_placesWhereK_28 (β : BS) (j : Nat) (k28 : Int32 → Int32 → Option Int32) (v4 : Int32) (v5 : Int32) : Option Int32 := if (16 : Int32) ≤ v5 then (some v4) else ((gX10_placeIn (b_a3 β j) v5).bind (fun r3 => (gX5_isSo 16 (b_num β (b_a1 β j).toNatClampNeg) (b_bl β (b_a1 β j).toNatClampNeg) 8 (b_cn β) (b_cb β) (b_a2 β j) v5 r3).bind (fun r4 => if r4 = 0 then (gX10_placesWhereK_67 β j k28 v4 v5) else (gX10_placesWhereK_67 β j k28 (v4 ||| ((1 : Int32) <<< (v5 &&& 31))) v5))))
def gX10_placesWhereK (β : BS) (j : Nat) : Option Int32 := if ix (b_a1 β j) 12 then ((gX10_sourceOfK β (b_a3 β j)).bind (fun r2 => lq2 (gX10_placesWhereK_28 β j) 20 (0 : Int32) (0 : Int32))) else none
theorem hd_X10_placesWhere : yX10_placesWhere.cls ≠ "java/lang/invoke/MethodHandle" ∧ yX10_placesWhere.cls ≠ "java/lang/invoke/VarHandle" ∧ (parseMethodDescriptor yX10_placesWhere.desc).map (fun d => d.parameters.length) = some 1 := by decide +kernel
set_option maxHeartbeats 4000000 in
set_option maxRecDepth 100000 in
theorem tX10_placesWhereK {G : GG} {l : Launch} {z N : Nat} {b : Nat → va_E} {j : Nat} (hN : 71 ≤ N) (hj : j < 10) (β : BS) {r : Int32} (hg : gX10_placesWhereK β j = some r) : Ct G l yX10_placesWhere cX10_placesWhere 6 (some .int) ({ frames := 2, cells := 0, slots := 0, locals := 52 } : Room) [.ref (z + 0), .ref (z + (61 + j))] z (ctB G z β b) N (some (.int r)) (ctB G z β b) N := by
  refine Ct.of (lv := [(0, .ref (z + 0)), (1, .ref (z + (61 + j)))]) (by decide +kernel) (Nat.le_of_ble_eq_true rfl) rfl (fun p e s m args below meth c C => ?_)
  have L_28 : ∀ (n28 : Nat) (v4 : Int32) (v5 : Int32), (b_a1 β j).toNatClampNeg < 12 → lq2 (gX10_placesWhereK_28 β j) n28 v4 v5 = some r → J G p l e ({ frames := 2, cells := 0, slots := 0, locals := 52 } : Room) s m args below meth c z 6 (MQ below (Qd G z (some (.int r)) (ctB G z β b) N) args s 0 0 (zA z)) (ctB G z β b) N 0 0 28 [(1, .ref (z + (61 + j))), (2, .ref (z + (13 + 4 * (b_a1 β j).toNatClampNeg + 1))), (3, .ref (z + 2)), (4, .int v4), (5, .int v5)] [] := by
    intro n28
    induction n28 with
    | zero => intro v4 v5 hp28_1 hg; cases hg
    | succ n28 ih28 =>
      have L_67 : ∀ (v4 : Int32) (v5 : Int32), (b_a1 β j).toNatClampNeg < 12 → gX10_placesWhereK_67 β j (lq2 (gX10_placesWhereK_28 β j) n28) v4 v5 = some r → J G p l e ({ frames := 2, cells := 0, slots := 0, locals := 52 } : Room) s m args below meth c z 6 (MQ below (Qd G z (some (.int r)) (ctB G z β b) N) args s 0 0 (zA z)) (ctB G z β b) N 0 0 67 [(1, .ref (z + (61 + j))), (2, .ref (z + (13 + 4 * (b_a1 β j).toNatClampNeg + 1))), (3, .ref (z + 2)), (4, .int v4), (5, .int v5)] [] := by
        intro v4 v5 hp67_1 hg
        rw [gX10_placesWhereK_67] at hg
        refine j_iinc C [(5, .int (v5 + (1 : Int32))), (1, .ref (z + (61 + j))), (2, .ref (z + (13 + 4 * (b_a1 β j).toNatClampNeg + 1))), (3, .ref (z + 2)), (4, .int v4)] dX10_placesWhere_67 4 rfl rfl (by decide) rfl ?_
        refine j_goto C 28 dX10_placesWhere_70 (by decide) ?_
        exact j_re [1, 2, 3, 4, 0] rfl (ih28 v4 (v5 + (1 : Int32)) hp67_1 hg)
      intro v4 v5 hp28_1 hg
      replace hg : gX10_placesWhereK_28 β j (lq2 (gX10_placesWhereK_28 β j) n28) v4 v5 = some r := hg
      rw [gX10_placesWhereK_28] at hg
      refine j_iload C dX10_placesWhere_28 4 rfl ?_
      refine j_bipush (v := 16) C dX10_placesWhere_30 (by decide) ?_
      refine j_icmp_ge C 73 hg dX10_placesWhere_32 (by decide) (fun hg => ?_) (fun hg => ?_)
      · refine j_iload C dX10_placesWhere_73 3 rfl ?_
        exact j_iret C dX10_placesWhere_75 (by first | rfl | (rw [← Option.some.inj hg] <;> rfl)) rfl rfl
      · refine j_aload_n C dX10_placesWhere_35 0 rfl rfl ?_
        refine j_get (fs := [.int (b_a1 β j), .int (b_a2 β j), .int (b_a3 β j), .int (b_a4 β j), .int (b_a5 β j), .int (b_a6 β j)]) (v := .int (b_a2 β j)) C (by omega) (cb_al hj) rfl inX0 1 (by decide) q1_103 rfl rfl dX10_placesWhere_36 ?_
        refine j_aload_n C dX10_placesWhere_39 1 rfl rfl ?_
        refine j_iload C dX10_placesWhere_40 4 rfl ?_
        refine j_aload_n C dX10_placesWhere_42 2 rfl rfl ?_
        refine j_aload_n C dX10_placesWhere_43 0 rfl rfl ?_
        refine j_get (fs := [.int (b_a1 β j), .int (b_a2 β j), .int (b_a3 β j), .int (b_a4 β j), .int (b_a5 β j), .int (b_a6 β j)]) (v := .int (b_a3 β j)) C (by omega) (cb_al hj) rfl inX0 2 (by decide) q1_105 rfl rfl dX10_placesWhere_44 ?_
        refine j_iload C dX10_placesWhere_47 4 rfl ?_
        obtain ⟨r3, hr3, hg⟩ := ob hg
        refine j_callS C [.int (b_a3 β j), .int v5] (tX10_placeIn (b_a3 β j) v5 hr3) q2_89 q1_1 q2_88 q2_87 hd_X10_placeIn rfl dX10_placesWhere_49 rfl (Nat.le_of_ble_eq_true rfl) ⟨(Nat.le_of_ble_eq_true rfl), (Nat.le_of_ble_eq_true rfl)⟩ ⟨(Nat.le_of_ble_eq_true rfl), (Nat.le_of_ble_eq_true rfl)⟩ ?_
        obtain ⟨r4, hr4, hg⟩ := ob hg
        refine j_callS C [.int (b_a2 β j), .ref (z + (13 + 4 * (b_a1 β j).toNatClampNeg + 1)), .int v5, .ref (z + 2), .int r3] (tX5_isSo ⟨by omega, (cb_rd hp28_1), (cb_num hp28_1), (cb_bl hp28_1)⟩ ⟨by omega, cb_2, cb_3, cb_4⟩ (b_a2 β j) v5 r3 hr4) q2_192 q1_13 q2_191 q3_18 hd_X5_isSo rfl dX10_placesWhere_52 rfl (Nat.le_of_ble_eq_true rfl) ⟨(Nat.le_of_ble_eq_true rfl), (Nat.le_of_ble_eq_true rfl)⟩ ⟨(Nat.le_of_ble_eq_true rfl), (Nat.le_of_ble_eq_true rfl)⟩ ?_
        refine j_if_eq C 67 hg dX10_placesWhere_55 (by decide) (fun hg => ?_) (fun hg => ?_)
        · exact L_67 v4 v5 hp28_1 hg
        · refine j_iload C dX10_placesWhere_58 3 rfl ?_
          refine j_iconst (v := 1) C dX10_placesWhere_60 (by decide) ?_
          refine j_iload C dX10_placesWhere_61 4 rfl ?_
          refine j_ishl C dX10_placesWhere_63 ?_
          refine j_ior C dX10_placesWhere_64 ?_
          refine j_istore C [(4, .int (v4 ||| ((1 : Int32) <<< (v5 &&& 31)))), (1, .ref (z + (61 + j))), (2, .ref (z + (13 + 4 * (b_a1 β j).toNatClampNeg + 1))), (3, .ref (z + 2)), (5, .int v5)] dX10_placesWhere_65 (by decide) rfl ?_
          exact j_re [1, 2, 3, 0, 4] rfl (L_67 (v4 ||| ((1 : Int32) <<< (v5 &&& 31))) v5 hp28_1 hg)
  rw [gX10_placesWhereK] at hg
  refine j_aload_n C dX10_placesWhere_0 0 rfl rfl ?_
  refine j_get (fs := [.ref (z + 1), .ref (z + 2), .ref (z + 5), .ref (z + 12), .int (b_acnt β), .int (b_rngs β), b_lat β, .int (b_chg β), .int (b_frs β)]) (v := .ref (z + 1)) C (by omega) cb_0 rfl inX10 0 (by decide) q1_124 rfl rfl dX10_placesWhere_1 ?_
  refine j_aload_n C dX10_placesWhere_4 1 rfl rfl ?_
  refine j_get (fs := [.int (b_a1 β j), .int (b_a2 β j), .int (b_a3 β j), .int (b_a4 β j), .int (b_a5 β j), .int (b_a6 β j)]) (v := .int (b_a1 β j)) C (by omega) (cb_al hj) rfl inX0 0 (by decide) q1_101 rfl rfl dX10_placesWhere_5 ?_
  obtain ⟨hi1, hg⟩ := gd hg
  have hl1 := ix_lt hi1
  refine jb_C C hi1 (by omega) cb_1 dX10_placesWhere_8 ?_
  refine j_get (fs := [.ref (z + (13 + 4 * (b_a1 β j).toNatClampNeg + 1)), .int (b_nar β (b_a1 β j).toNatClampNeg), .int (b_ff β (b_a1 β j).toNatClampNeg), .int (b_fa β (b_a1 β j).toNatClampNeg), .int (b_fb β (b_a1 β j).toNatClampNeg), .int (b_fc β (b_a1 β j).toNatClampNeg)]) (v := .ref (z + (13 + 4 * (b_a1 β j).toNatClampNeg + 1))) C (by omega) (cb_col hl1) rfl inX3 0 (by decide) q1_68 rfl rfl dX10_placesWhere_9 ?_
  refine j_astore_n C [(2, .ref (z + (13 + 4 * (b_a1 β j).toNatClampNeg + 1))), (0, .ref (z + 0)), (1, .ref (z + (61 + j)))] dX10_placesWhere_12 rfl (by decide) rfl ?_
  refine j_aload_n C dX10_placesWhere_13 1 rfl rfl ?_
  refine j_aload_n C dX10_placesWhere_14 2 rfl rfl ?_
  refine j_get (fs := [.int (b_a1 β j), .int (b_a2 β j), .int (b_a3 β j), .int (b_a4 β j), .int (b_a5 β j), .int (b_a6 β j)]) (v := .int (b_a3 β j)) C (by omega) (cb_al hj) rfl inX0 2 (by decide) q1_105 rfl rfl dX10_placesWhere_15 ?_
  obtain ⟨r2, hr2, hg⟩ := ob hg
  refine j_callV C [.int (b_a3 β j)] (tX10_sourceOfK (b := b) (by omega) β (b_a3 β j) hr2) (by omega) cb_0 rfl q2_85 q1_1 q2_84 qp_5 q2_82 hd_X10_sourceOf rfl dX10_placesWhere_18 rfl (Nat.le_of_ble_eq_true rfl) ⟨(Nat.le_of_ble_eq_true rfl), (Nat.le_of_ble_eq_true rfl)⟩ ⟨(Nat.le_of_ble_eq_true rfl), (Nat.le_of_ble_eq_true rfl)⟩ ?_
  refine j_astore_n C [(3, .ref (z + 2)), (2, .ref (z + (13 + 4 * (b_a1 β j).toNatClampNeg + 1))), (0, .ref (z + 0)), (1, .ref (z + (61 + j)))] dX10_placesWhere_21 rfl (by decide) rfl ?_
  refine j_iconst (v := 0) C dX10_placesWhere_22 (by decide) ?_
  refine j_istore C [(4, .int (0 : Int32)), (3, .ref (z + 2)), (2, .ref (z + (13 + 4 * (b_a1 β j).toNatClampNeg + 1))), (0, .ref (z + 0)), (1, .ref (z + (61 + j)))] dX10_placesWhere_23 (by decide) rfl ?_
  refine j_iconst (v := 0) C dX10_placesWhere_25 (by decide) ?_
  refine j_istore C [(5, .int (0 : Int32)), (4, .int (0 : Int32)), (3, .ref (z + 2)), (2, .ref (z + (13 + 4 * (b_a1 β j).toNatClampNeg + 1))), (0, .ref (z + 0)), (1, .ref (z + (61 + j)))] dX10_placesWhere_26 (by decide) rfl ?_
  exact j_re [5, 3, 2, 1, 0] rfl (L_28 20 (0 : Int32) (0 : Int32) hl1 hg)

def gX10_placesWhereC_67 (β : BS) (j : Nat) (k28 : Int32 → Int32 → Option Int32) (v4 : Int32) (v5 : Int32) : Option Int32 := k28 v4 (v5 + (1 : Int32))
def gX10_placesWhereC_28 (β : BS) (j : Nat) (k28 : Int32 → Int32 → Option Int32) (v4 : Int32) (v5 : Int32) : Option Int32 := if (16 : Int32) ≤ v5 then (some v4) else ((gX10_placeIn (b_a3 β j) v5).bind (fun r4 => (gX5_isSo 16 (b_num β (b_a1 β j).toNatClampNeg) (b_bl β (b_a1 β j).toNatClampNeg) 16 (b_num β (b_a3 β j).toNatClampNeg) (b_bl β (b_a3 β j).toNatClampNeg) (b_a2 β j) v5 r4).bind (fun r5 => if r5 = 0 then (gX10_placesWhereC_67 β j k28 v4 v5) else (gX10_placesWhereC_67 β j k28 (v4 ||| ((1 : Int32) <<< (v5 &&& 31))) v5))))
def gX10_placesWhereC (β : BS) (j : Nat) : Option Int32 := if ix (b_a1 β j) 12 then (if ix (b_a3 β j) 12 then ((gX10_sourceOfC β (b_a3 β j)).bind (fun r2 => lq2 (gX10_placesWhereC_28 β j) 20 (0 : Int32) (0 : Int32))) else none) else none
set_option maxHeartbeats 4000000 in
set_option maxRecDepth 100000 in
theorem tX10_placesWhereC {G : GG} {l : Launch} {z N : Nat} {b : Nat → va_E} {j : Nat} (hN : 71 ≤ N) (hj : j < 10) (β : BS) {r : Int32} (hg : gX10_placesWhereC β j = some r) : Ct G l yX10_placesWhere cX10_placesWhere 6 (some .int) ({ frames := 2, cells := 0, slots := 0, locals := 52 } : Room) [.ref (z + 0), .ref (z + (61 + j))] z (ctB G z β b) N (some (.int r)) (ctB G z β b) N := by
  refine Ct.of (lv := [(0, .ref (z + 0)), (1, .ref (z + (61 + j)))]) (by decide +kernel) (Nat.le_of_ble_eq_true rfl) rfl (fun p e s m args below meth c C => ?_)
  have L_28 : ∀ (n28 : Nat) (v4 : Int32) (v5 : Int32), (b_a1 β j).toNatClampNeg < 12 → (b_a3 β j).toNatClampNeg < 12 → lq2 (gX10_placesWhereC_28 β j) n28 v4 v5 = some r → J G p l e ({ frames := 2, cells := 0, slots := 0, locals := 52 } : Room) s m args below meth c z 6 (MQ below (Qd G z (some (.int r)) (ctB G z β b) N) args s 0 0 (zA z)) (ctB G z β b) N 0 0 28 [(1, .ref (z + (61 + j))), (2, .ref (z + (13 + 4 * (b_a1 β j).toNatClampNeg + 1))), (3, .ref (z + (13 + 4 * (b_a3 β j).toNatClampNeg + 1))), (4, .int v4), (5, .int v5)] [] := by
    intro n28
    induction n28 with
    | zero => intro v4 v5 hp28_1 hp28_2 hg; cases hg
    | succ n28 ih28 =>
      have L_67 : ∀ (v4 : Int32) (v5 : Int32), (b_a1 β j).toNatClampNeg < 12 → (b_a3 β j).toNatClampNeg < 12 → gX10_placesWhereC_67 β j (lq2 (gX10_placesWhereC_28 β j) n28) v4 v5 = some r → J G p l e ({ frames := 2, cells := 0, slots := 0, locals := 52 } : Room) s m args below meth c z 6 (MQ below (Qd G z (some (.int r)) (ctB G z β b) N) args s 0 0 (zA z)) (ctB G z β b) N 0 0 67 [(1, .ref (z + (61 + j))), (2, .ref (z + (13 + 4 * (b_a1 β j).toNatClampNeg + 1))), (3, .ref (z + (13 + 4 * (b_a3 β j).toNatClampNeg + 1))), (4, .int v4), (5, .int v5)] [] := by
        intro v4 v5 hp67_1 hp67_2 hg
        rw [gX10_placesWhereC_67] at hg
        refine j_iinc C [(5, .int (v5 + (1 : Int32))), (1, .ref (z + (61 + j))), (2, .ref (z + (13 + 4 * (b_a1 β j).toNatClampNeg + 1))), (3, .ref (z + (13 + 4 * (b_a3 β j).toNatClampNeg + 1))), (4, .int v4)] dX10_placesWhere_67 4 rfl rfl (by decide) rfl ?_
        refine j_goto C 28 dX10_placesWhere_70 (by decide) ?_
        exact j_re [1, 2, 3, 4, 0] rfl (ih28 v4 (v5 + (1 : Int32)) hp67_1 hp67_2 hg)
      intro v4 v5 hp28_1 hp28_2 hg
      replace hg : gX10_placesWhereC_28 β j (lq2 (gX10_placesWhereC_28 β j) n28) v4 v5 = some r := hg
      rw [gX10_placesWhereC_28] at hg
      refine j_iload C dX10_placesWhere_28 4 rfl ?_
      refine j_bipush (v := 16) C dX10_placesWhere_30 (by decide) ?_
      refine j_icmp_ge C 73 hg dX10_placesWhere_32 (by decide) (fun hg => ?_) (fun hg => ?_)
      · refine j_iload C dX10_placesWhere_73 3 rfl ?_
        exact j_iret C dX10_placesWhere_75 (by first | rfl | (rw [← Option.some.inj hg] <;> rfl)) rfl rfl
      · refine j_aload_n C dX10_placesWhere_35 0 rfl rfl ?_
        refine j_get (fs := [.int (b_a1 β j), .int (b_a2 β j), .int (b_a3 β j), .int (b_a4 β j), .int (b_a5 β j), .int (b_a6 β j)]) (v := .int (b_a2 β j)) C (by omega) (cb_al hj) rfl inX0 1 (by decide) q1_103 rfl rfl dX10_placesWhere_36 ?_
        refine j_aload_n C dX10_placesWhere_39 1 rfl rfl ?_
        refine j_iload C dX10_placesWhere_40 4 rfl ?_
        refine j_aload_n C dX10_placesWhere_42 2 rfl rfl ?_
        refine j_aload_n C dX10_placesWhere_43 0 rfl rfl ?_
        refine j_get (fs := [.int (b_a1 β j), .int (b_a2 β j), .int (b_a3 β j), .int (b_a4 β j), .int (b_a5 β j), .int (b_a6 β j)]) (v := .int (b_a3 β j)) C (by omega) (cb_al hj) rfl inX0 2 (by decide) q1_105 rfl rfl dX10_placesWhere_44 ?_
        refine j_iload C dX10_placesWhere_47 4 rfl ?_
        obtain ⟨r4, hr4, hg⟩ := ob hg
        refine j_callS C [.int (b_a3 β j), .int v5] (tX10_placeIn (b_a3 β j) v5 hr4) q2_89 q1_1 q2_88 q2_87 hd_X10_placeIn rfl dX10_placesWhere_49 rfl (Nat.le_of_ble_eq_true rfl) ⟨(Nat.le_of_ble_eq_true rfl), (Nat.le_of_ble_eq_true rfl)⟩ ⟨(Nat.le_of_ble_eq_true rfl), (Nat.le_of_ble_eq_true rfl)⟩ ?_
        obtain ⟨r5, hr5, hg⟩ := ob hg
        refine j_callS C [.int (b_a2 β j), .ref (z + (13 + 4 * (b_a1 β j).toNatClampNeg + 1)), .int v5, .ref (z + (13 + 4 * (b_a3 β j).toNatClampNeg + 1)), .int r4] (tX5_isSo ⟨by omega, (cb_rd hp28_1), (cb_num hp28_1), (cb_bl hp28_1)⟩ ⟨by omega, (cb_rd hp28_2), (cb_num hp28_2), (cb_bl hp28_2)⟩ (b_a2 β j) v5 r4 hr5) q2_192 q1_13 q2_191 q3_18 hd_X5_isSo rfl dX10_placesWhere_52 rfl (Nat.le_of_ble_eq_true rfl) ⟨(Nat.le_of_ble_eq_true rfl), (Nat.le_of_ble_eq_true rfl)⟩ ⟨(Nat.le_of_ble_eq_true rfl), (Nat.le_of_ble_eq_true rfl)⟩ ?_
        refine j_if_eq C 67 hg dX10_placesWhere_55 (by decide) (fun hg => ?_) (fun hg => ?_)
        · exact L_67 v4 v5 hp28_1 hp28_2 hg
        · refine j_iload C dX10_placesWhere_58 3 rfl ?_
          refine j_iconst (v := 1) C dX10_placesWhere_60 (by decide) ?_
          refine j_iload C dX10_placesWhere_61 4 rfl ?_
          refine j_ishl C dX10_placesWhere_63 ?_
          refine j_ior C dX10_placesWhere_64 ?_
          refine j_istore C [(4, .int (v4 ||| ((1 : Int32) <<< (v5 &&& 31)))), (1, .ref (z + (61 + j))), (2, .ref (z + (13 + 4 * (b_a1 β j).toNatClampNeg + 1))), (3, .ref (z + (13 + 4 * (b_a3 β j).toNatClampNeg + 1))), (5, .int v5)] dX10_placesWhere_65 (by decide) rfl ?_
          exact j_re [1, 2, 3, 0, 4] rfl (L_67 (v4 ||| ((1 : Int32) <<< (v5 &&& 31))) v5 hp28_1 hp28_2 hg)
  rw [gX10_placesWhereC] at hg
  refine j_aload_n C dX10_placesWhere_0 0 rfl rfl ?_
  refine j_get (fs := [.ref (z + 1), .ref (z + 2), .ref (z + 5), .ref (z + 12), .int (b_acnt β), .int (b_rngs β), b_lat β, .int (b_chg β), .int (b_frs β)]) (v := .ref (z + 1)) C (by omega) cb_0 rfl inX10 0 (by decide) q1_124 rfl rfl dX10_placesWhere_1 ?_
  refine j_aload_n C dX10_placesWhere_4 1 rfl rfl ?_
  refine j_get (fs := [.int (b_a1 β j), .int (b_a2 β j), .int (b_a3 β j), .int (b_a4 β j), .int (b_a5 β j), .int (b_a6 β j)]) (v := .int (b_a1 β j)) C (by omega) (cb_al hj) rfl inX0 0 (by decide) q1_101 rfl rfl dX10_placesWhere_5 ?_
  obtain ⟨hi1, hg⟩ := gd hg
  have hl1 := ix_lt hi1
  refine jb_C C hi1 (by omega) cb_1 dX10_placesWhere_8 ?_
  refine j_get (fs := [.ref (z + (13 + 4 * (b_a1 β j).toNatClampNeg + 1)), .int (b_nar β (b_a1 β j).toNatClampNeg), .int (b_ff β (b_a1 β j).toNatClampNeg), .int (b_fa β (b_a1 β j).toNatClampNeg), .int (b_fb β (b_a1 β j).toNatClampNeg), .int (b_fc β (b_a1 β j).toNatClampNeg)]) (v := .ref (z + (13 + 4 * (b_a1 β j).toNatClampNeg + 1))) C (by omega) (cb_col hl1) rfl inX3 0 (by decide) q1_68 rfl rfl dX10_placesWhere_9 ?_
  refine j_astore_n C [(2, .ref (z + (13 + 4 * (b_a1 β j).toNatClampNeg + 1))), (0, .ref (z + 0)), (1, .ref (z + (61 + j)))] dX10_placesWhere_12 rfl (by decide) rfl ?_
  refine j_aload_n C dX10_placesWhere_13 1 rfl rfl ?_
  refine j_aload_n C dX10_placesWhere_14 2 rfl rfl ?_
  refine j_get (fs := [.int (b_a1 β j), .int (b_a2 β j), .int (b_a3 β j), .int (b_a4 β j), .int (b_a5 β j), .int (b_a6 β j)]) (v := .int (b_a3 β j)) C (by omega) (cb_al hj) rfl inX0 2 (by decide) q1_105 rfl rfl dX10_placesWhere_15 ?_
  obtain ⟨hi3, hg⟩ := gd hg
  have hl3 := ix_lt hi3
  obtain ⟨r2, hr2, hg⟩ := ob hg
  refine j_callV C [.int (b_a3 β j)] (tX10_sourceOfC (b := b) (by omega) β (b_a3 β j) hr2) (by omega) cb_0 rfl q2_85 q1_1 q2_84 qp_5 q2_82 hd_X10_sourceOf rfl dX10_placesWhere_18 rfl (Nat.le_of_ble_eq_true rfl) ⟨(Nat.le_of_ble_eq_true rfl), (Nat.le_of_ble_eq_true rfl)⟩ ⟨(Nat.le_of_ble_eq_true rfl), (Nat.le_of_ble_eq_true rfl)⟩ ?_
  refine j_astore_n C [(3, .ref (z + (13 + 4 * (b_a3 β j).toNatClampNeg + 1))), (2, .ref (z + (13 + 4 * (b_a1 β j).toNatClampNeg + 1))), (0, .ref (z + 0)), (1, .ref (z + (61 + j)))] dX10_placesWhere_21 rfl (by decide) rfl ?_
  refine j_iconst (v := 0) C dX10_placesWhere_22 (by decide) ?_
  refine j_istore C [(4, .int (0 : Int32)), (3, .ref (z + (13 + 4 * (b_a3 β j).toNatClampNeg + 1))), (2, .ref (z + (13 + 4 * (b_a1 β j).toNatClampNeg + 1))), (0, .ref (z + 0)), (1, .ref (z + (61 + j)))] dX10_placesWhere_23 (by decide) rfl ?_
  refine j_iconst (v := 0) C dX10_placesWhere_25 (by decide) ?_
  refine j_istore C [(5, .int (0 : Int32)), (4, .int (0 : Int32)), (3, .ref (z + (13 + 4 * (b_a3 β j).toNatClampNeg + 1))), (2, .ref (z + (13 + 4 * (b_a1 β j).toNatClampNeg + 1))), (0, .ref (z + 0)), (1, .ref (z + (61 + j)))] dX10_placesWhere_26 (by decide) rfl ?_
  exact j_re [5, 3, 2, 1, 0] rfl (L_28 20 (0 : Int32) (0 : Int32) hl1 hl3 hg)

def gX10_load (β : BS) (j : Nat) : Option BS := (gX10_isConstantSource (b_fb β j)).bind (fun r => if r = 0 then gX10_loadC β j else gX10_loadK β j)
theorem tX10_load {G : GG} {l : Launch} {z N : Nat} {b : Nat → va_E} {j : Nat} (hN : 71 ≤ N) (hj : j < 12) (β : BS) {r : BS} (hg : gX10_load β j = some r) : Ct G l yX10_load cX10_load 5 none ({ frames := 2, cells := 0, slots := 0, locals := 46 } : Room) [.ref (z + 0), .ref (z + (13 + 4 * j))] z (ctB G z β b) N none (ctB G z r b) N := by
  rw [gX10_load] at hg
  obtain ⟨r1, hr1, hg⟩ := ob hg
  by_cases h0 : r1 = 0
  · exact tX10_loadC hN hj β ((if_pos h0).symm.trans hg)
  · exact tX10_loadK hN hj β ((if_neg h0).symm.trans hg)

def gX10_placesWhere (β : BS) (j : Nat) : Option Int32 := (gX10_isConstantSource (b_a3 β j)).bind (fun r => if r = 0 then gX10_placesWhereC β j else gX10_placesWhereK β j)
theorem tX10_placesWhere {G : GG} {l : Launch} {z N : Nat} {b : Nat → va_E} {j : Nat} (hN : 71 ≤ N) (hj : j < 10) (β : BS) {r : Int32} (hg : gX10_placesWhere β j = some r) : Ct G l yX10_placesWhere cX10_placesWhere 6 (some .int) ({ frames := 2, cells := 0, slots := 0, locals := 52 } : Room) [.ref (z + 0), .ref (z + (61 + j))] z (ctB G z β b) N (some (.int r)) (ctB G z β b) N := by
  rw [gX10_placesWhere] at hg
  obtain ⟨r1, hr1, hg⟩ := ob hg
  by_cases h0 : r1 = 0
  · exact tX10_placesWhereC hN hj β ((if_pos h0).symm.trans hg)
  · exact tX10_placesWhereK hN hj β ((if_neg h0).symm.trans hg)

def gX10_refresh_55 (β : BS) (x0 : Int32) (k9 : BS → Int32 → Option BS) (β9 : BS) (v2 : Int32) : Option BS := k9 (b_frs_ β9 (v2 + (1 : Int32))) (v2 + (1 : Int32))
def gX10_refresh_9 (β : BS) (x0 : Int32) (k9 : BS → Int32 → Option BS) (β9 : BS) (v2 : Int32) : Option BS := if x0 < v2 then (some (β9)) else (if (12 : Int32) ≤ v2 then (some (β9)) else (if ix v2 12 then ((gX3_hasFormula (b_nar β9 v2.toNatClampNeg) (b_ff β9 v2.toNatClampNeg) (b_fa β9 v2.toNatClampNeg) (b_fb β9 v2.toNatClampNeg) (b_fc β9 v2.toNatClampNeg)).bind (fun r2 => if r2 = 0 then (gX10_refresh_55 β x0 k9 β9 v2) else (if ix v2 12 then ((gX10_load β9 v2.toNatClampNeg ).bind (fun r4 => if ix v2 12 then ((gX9_reckon (b_nar r4 v2.toNatClampNeg) (b_ff r4 v2.toNatClampNeg) (b_fc r4 v2.toNatClampNeg) (b_xn r4) (b_xb r4) (b_yn r4) (b_yb r4) (b_num r4 v2.toNatClampNeg) (b_bl r4 v2.toNatClampNeg)).bind (fun r6 => gX10_refresh_55 β x0 k9 (b_bl_ (b_num_ r4 (va_up (b_num r4) v2.toNatClampNeg r6.1)) (va_up (b_bl r4) v2.toNatClampNeg r6.2)) v2)) else none)) else none))) else none))
def gX10_refresh (β : BS) (x0 : Int32) : Option BS := lq2 (gX10_refresh_9 β x0) 20 β (if (b_frs β) < (0 : Int32) then (0 : Int32) else (b_frs β))
theorem hd_X10_refresh : yX10_refresh.cls ≠ "java/lang/invoke/MethodHandle" ∧ yX10_refresh.cls ≠ "java/lang/invoke/VarHandle" ∧ (parseMethodDescriptor yX10_refresh.desc).map (fun d => d.parameters.length) = some 1 := by decide +kernel
set_option maxHeartbeats 4000000 in
set_option maxRecDepth 100000 in
theorem tX10_refresh {G : GG} {l : Launch} {z N : Nat} {b : Nat → va_E}  (hN : 71 ≤ N) (β : BS) (x0 : Int32) {r : BS} (hg : gX10_refresh β x0 = some r) : Ct G l yX10_refresh cX10_refresh 3 none ({ frames := 5, cells := 0, slots := 0, locals := 144 } : Room) [.ref (z + 0), .int x0] z (ctB G z β b) N none (ctB G z r b) N := by
  refine Ct.of (lv := [(0, .ref (z + 0)), (1, .int x0)]) (by decide +kernel) (Nat.le_of_ble_eq_true rfl) rfl (fun p e s m args below meth c C => ?_)
  have L_9 : ∀ (n9 : Nat) (β9 : BS) (v2 : Int32), lq2 (gX10_refresh_9 β x0) n9 β9 v2 = some r → J G p l e ({ frames := 5, cells := 0, slots := 0, locals := 144 } : Room) s m args below meth c z 3 (MQ below (Qd G z none (ctB G z r b) N) args s 0 0 (zA z)) (ctB G z β9 b) N 0 0 9 [(0, .ref (z + 0)), (1, .int x0), (2, .int v2)] [] := by
    intro n9
    induction n9 with
    | zero => intro β9 v2 hg; cases hg
    | succ n9 ih9 =>
      have L_55 : ∀ (β9 : BS) (v2 : Int32), gX10_refresh_55 β x0 (lq2 (gX10_refresh_9 β x0) n9) β9 v2 = some r → J G p l e ({ frames := 5, cells := 0, slots := 0, locals := 144 } : Room) s m args below meth c z 3 (MQ below (Qd G z none (ctB G z r b) N) args s 0 0 (zA z)) (ctB G z β9 b) N 0 0 55 [(0, .ref (z + 0)), (1, .int x0), (2, .int v2)] [] := by
        intro β9 v2 hg
        rw [gX10_refresh_55] at hg
        refine j_aload_n C dX10_refresh_55 0 rfl rfl ?_
        refine j_iload_n C dX10_refresh_56 2 rfl rfl ?_
        refine j_iconst (v := 1) C dX10_refresh_57 (by decide) ?_
        refine j_iadd C dX10_refresh_58 ?_
        refine j_put (fs := [.ref (z + 1), .ref (z + 2), .ref (z + 5), .ref (z + 12), .int (b_acnt β9), .int (b_rngs β9), b_lat β9, .int (b_chg β9), .int (b_frs β9)]) C tyX10 tyX10_ok nmX10 (by omega) cb_0 rfl inX10 8 (by decide) q1_132 rfl rfl (tyX10_ok 8 (by decide)) rfl rfl (Nat.le_of_ble_eq_true rfl) dX10_refresh_59 (j_ct bs_frs ?_)
        refine j_iinc C [(2, .int (v2 + (1 : Int32))), (0, .ref (z + 0)), (1, .int x0)] dX10_refresh_62 2 rfl rfl (by decide) rfl ?_
        refine j_goto C 9 dX10_refresh_65 (by decide) ?_
        exact j_re [1, 2, 0] rfl (ih9 (b_frs_ β9 (v2 + (1 : Int32))) (v2 + (1 : Int32)) hg)
      intro β9 v2 hg
      replace hg : gX10_refresh_9 β x0 (lq2 (gX10_refresh_9 β x0) n9) β9 v2 = some r := hg
      rw [gX10_refresh_9] at hg
      refine j_iload_n C dX10_refresh_9 2 rfl rfl ?_
      refine j_iload_n C dX10_refresh_10 1 rfl rfl ?_
      refine j_icmp_gt C 68 hg dX10_refresh_11 (by decide) (fun hg => ?_) (fun hg => ?_)
      · exact j_vret C dX10_refresh_68 rfl (by first | rfl | (rw [← Option.some.inj hg] <;> rfl)) rfl
      · refine j_iload_n C dX10_refresh_14 2 rfl rfl ?_
        refine j_bipush (v := 12) C dX10_refresh_15 (by decide) ?_
        refine j_icmp_ge C 68 hg dX10_refresh_17 (by decide) (fun hg => ?_) (fun hg => ?_)
        · exact j_vret C dX10_refresh_68 rfl (by first | rfl | (rw [← Option.some.inj hg] <;> rfl)) rfl
        · refine j_aload_n C dX10_refresh_20 0 rfl rfl ?_
          refine j_get (fs := [.ref (z + 1), .ref (z + 2), .ref (z + 5), .ref (z + 12), .int (b_acnt β9), .int (b_rngs β9), b_lat β9, .int (b_chg β9), .int (b_frs β9)]) (v := .ref (z + 1)) C (by omega) cb_0 rfl inX10 0 (by decide) q1_124 rfl rfl dX10_refresh_21 ?_
          refine j_iload_n C dX10_refresh_24 2 rfl rfl ?_
          obtain ⟨hi1, hg⟩ := gd hg
          have hl1 := ix_lt hi1
          refine jb_C C hi1 (by omega) cb_1 dX10_refresh_25 ?_
          obtain ⟨r2, hr2, hg⟩ := ob hg
          refine j_callV C [] (tX3_hasFormula (by omega) (cb_col hl1)  hr2) (by omega) (cb_col hl1) rfl q1_166 q1_4 q1_164 q1_165 q1_163 hd_X3_hasFormula rfl dX10_refresh_26 rfl (Nat.le_of_ble_eq_true rfl) ⟨(Nat.le_of_ble_eq_true rfl), (Nat.le_of_ble_eq_true rfl)⟩ ⟨(Nat.le_of_ble_eq_true rfl), (Nat.le_of_ble_eq_true rfl)⟩ ?_
          refine j_if_eq C 55 hg dX10_refresh_29 (by decide) (fun hg => ?_) (fun hg => ?_)
          · exact L_55 β9 v2 hg
          · refine j_aload_n C dX10_refresh_32 0 rfl rfl ?_
            refine j_aload_n C dX10_refresh_33 0 rfl rfl ?_
            refine j_get (fs := [.ref (z + 1), .ref (z + 2), .ref (z + 5), .ref (z + 12), .int (b_acnt β9), .int (b_rngs β9), b_lat β9, .int (b_chg β9), .int (b_frs β9)]) (v := .ref (z + 1)) C (by omega) cb_0 rfl inX10 0 (by decide) q1_124 rfl rfl dX10_refresh_34 ?_
            refine j_iload_n C dX10_refresh_37 2 rfl rfl ?_
            obtain ⟨hi3, hg⟩ := gd hg
            have hl3 := ix_lt hi3
            refine jb_C C hi3 (by omega) cb_1 dX10_refresh_38 ?_
            obtain ⟨r4, hr4, hg⟩ := ob hg
            refine j_callV C [.ref (z + (13 + 4 * v2.toNatClampNeg))] (tX10_load (b := b) (by omega) hl3 β9  hr4) (by omega) cb_0 rfl q2_81 q1_1 q2_80 qp_4 q2_78 hd_X10_load rfl dX10_refresh_39 rfl (Nat.le_of_ble_eq_true rfl) ⟨(Nat.le_of_ble_eq_true rfl), (Nat.le_of_ble_eq_true rfl)⟩ ⟨(Nat.le_of_ble_eq_true rfl), (Nat.le_of_ble_eq_true rfl)⟩ ?_
            refine j_aload_n C dX10_refresh_42 0 rfl rfl ?_
            refine j_get (fs := [.ref (z + 1), .ref (z + 2), .ref (z + 5), .ref (z + 12), .int (b_acnt r4), .int (b_rngs r4), b_lat r4, .int (b_chg r4), .int (b_frs r4)]) (v := .ref (z + 5)) C (by omega) cb_0 rfl inX10 2 (by decide) q1_126 rfl rfl dX10_refresh_43 ?_
            refine j_aload_n C dX10_refresh_46 0 rfl rfl ?_
            refine j_get (fs := [.ref (z + 1), .ref (z + 2), .ref (z + 5), .ref (z + 12), .int (b_acnt r4), .int (b_rngs r4), b_lat r4, .int (b_chg r4), .int (b_frs r4)]) (v := .ref (z + 1)) C (by omega) cb_0 rfl inX10 0 (by decide) q1_124 rfl rfl dX10_refresh_47 ?_
            refine j_iload_n C dX10_refresh_50 2 rfl rfl ?_
            obtain ⟨hi5, hg⟩ := gd hg
            have hl5 := ix_lt hi5
            refine jb_C C hi5 (by omega) cb_1 dX10_refresh_51 ?_
            obtain ⟨r6, hr6, hg⟩ := ob hg
            refine j_ct (rdS_self (r := 13 + 4 * v2.toNatClampNeg + 1) (cb_num hl5) (cb_bl hl5)).symm ?_
            refine j_callV C [.ref (z + (13 + 4 * v2.toNatClampNeg))] (tX9_reckon (cb_RK (by omega) hl5) hr6) (by omega) ((rdS_ne (by omega) (by omega)).trans cb_5) rfl q2_93 q1_3 q2_91 q2_92 q2_90 hd_X9_reckon rfl dX10_refresh_52 rfl (Nat.le_of_ble_eq_true rfl) ⟨(Nat.le_of_ble_eq_true rfl), (Nat.le_of_ble_eq_true rfl)⟩ ⟨(Nat.le_of_ble_eq_true rfl), (Nat.le_of_ble_eq_true rfl)⟩ (j_ct (bs_rd hl5) ?_)
            exact L_55 (b_bl_ (b_num_ r4 (va_up (b_num r4) v2.toNatClampNeg r6.1)) (va_up (b_bl r4) v2.toNatClampNeg r6.2)) v2 hg
  rw [gX10_refresh] at hg
  refine j_aload_n C dX10_refresh_0 0 rfl rfl ?_
  refine j_get (fs := [.ref (z + 1), .ref (z + 2), .ref (z + 5), .ref (z + 12), .int (b_acnt β), .int (b_rngs β), b_lat β, .int (b_chg β), .int (b_frs β)]) (v := .int (b_frs β)) C (by omega) cb_0 rfl inX10 8 (by decide) q1_132 rfl rfl dX10_refresh_1 ?_
  refine j_iconst (v := 0) C dX10_refresh_4 (by decide) ?_
  refine j_mmax C q2_75 q2_76 q1_9 q2_77 (Nat.le_of_ble_eq_true rfl) (Nat.le_of_ble_eq_true rfl) (Nat.le_of_ble_eq_true rfl) (Nat.le_of_ble_eq_true rfl) dX10_refresh_5 ?_
  refine j_istore_n C [(2, .int (if (b_frs β) < (0 : Int32) then (0 : Int32) else (b_frs β))), (0, .ref (z + 0)), (1, .int x0)] dX10_refresh_8 rfl (by decide) rfl ?_
  exact j_re [1, 2, 0] rfl (L_9 20 β (if (b_frs β) < (0 : Int32) then (0 : Int32) else (b_frs β)) hg)
