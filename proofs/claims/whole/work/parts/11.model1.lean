def gX11_changed (σ : MS) : Option (MS × Int32) := some (m_changes_ σ ((m_changes σ) + (1 : Int32)), (1 : Int32))
theorem hd_X11_changed : yX11_changed.cls ≠ "java/lang/invoke/MethodHandle" ∧ yX11_changed.cls ≠ "java/lang/invoke/VarHandle" ∧ (parseMethodDescriptor yX11_changed.desc).map (fun d => d.parameters.length) = some 0 := by decide +kernel
set_option maxHeartbeats 4000000 in
set_option maxRecDepth 100000 in
theorem tX11_changed {G : GG} {l : Launch} {z N : Nat} {b : Nat → va_E} (hN : 86 ≤ N) (σ : MS) {r : MS × Int32} (hg : gX11_changed σ = some r) : Ct G l yX11_changed cX11_changed 1 (some .int) ({ frames := 0, cells := 0, slots := 0, locals := 0 } : Room) [.ref (z + 71)] z (ctM G z b σ) N (some (.int r.2)) (ctM G z b r.1) N := by
  refine Ct.of (lv := [(0, .ref (z + 71))]) (by decide +kernel) (Nat.le_of_ble_eq_true rfl) rfl (fun p e s m args below meth c C => ?_)
  rw [gX11_changed] at hg
  refine j_aload_n C dX11_changed_0 0 rfl rfl ?_
  refine j_dup C dX11_changed_1 rfl ?_
  refine j_get (v := .int (m_changes σ)) C (Nat.lt_of_lt_of_le (by decide) hN) cq_obj rfl inX11 10 (by decide) q3_113 rfl rfl dX11_changed_2 ?_
  refine j_iconst (v := 1) C dX11_changed_5 (by decide) ?_
  refine j_iadd C dX11_changed_6 ?_
  refine j_put (fs := mF z σ) C tyX11 tyX11_ok nmX11 (Nat.lt_of_lt_of_le (by decide) hN) cq_obj rfl inX11 10 (by decide) q3_113 rfl rfl (tyX11_ok 10 (by decide)) rfl rfl (Nat.le_of_ble_eq_true rfl) dX11_changed_7 (j_ct cs_changes ?_)
  refine j_iconst (v := 1) C dX11_changed_10 (by decide) ?_
  exact j_iret C dX11_changed_11 (by rw [← Option.some.inj hg]) (by rw [← Option.some.inj hg]) rfl

def gX11_picture_93 (σ : MS) (k93 : MS → Int32 → Option MS) (τ : MS) (v1 : Int32) : Option MS := if (48 : Int32) ≤ v1 then (some τ) else (if ix v1 48 then (if ix (((48 : Int32) * (m_changes τ)) + v1) 24576 then (k93 (m_madeThen_ τ (upd (m_madeThen τ) (((48 : Int32) * (m_changes τ)) + v1).toNatClampNeg (m_made τ v1.toNatClampNeg))) (v1 + (1 : Int32))) else none) else none)
def gX11_picture_59 (σ : MS) (k59 : MS → Int32 → Option MS) (τ : MS) (v1 : Int32) : Option MS := if (12 : Int32) ≤ v1 then (lq2 (gX11_picture_93 σ) 220 τ (0 : Int32)) else (if ix v1 12 then (if ix (((12 : Int32) * (m_changes τ)) + v1) 6144 then (k59 (m_narrowThen_ τ (upd (m_narrowThen τ) (((12 : Int32) * (m_changes τ)) + v1).toNatClampNeg (vp_nar .boolean (m_narrow τ v1.toNatClampNeg)))) (v1 + (1 : Int32))) else none) else none)
def gX11_picture_2 (σ : MS) (k2 : MS → Int32 → Option MS) (τ : MS) (v1 : Int32) : Option MS := if (200 : Int32) ≤ v1 then (lq2 (gX11_picture_59 σ) 220 τ (0 : Int32)) else (if ix v1 200 then (if ix (((200 : Int32) * (m_changes τ)) + v1) 102400 then (if ix v1 200 then (if ix (((200 : Int32) * (m_changes (m_toldThen_ τ (vf_upd (m_toldThen τ) (((200 : Int32) * (m_changes τ)) + v1).toNatClampNeg (m_told τ v1.toNatClampNeg))))) + v1) 102400 then (k2 (m_blankThen_ (m_toldThen_ τ (vf_upd (m_toldThen τ) (((200 : Int32) * (m_changes τ)) + v1).toNatClampNeg (m_told τ v1.toNatClampNeg))) (upd (m_blankThen (m_toldThen_ τ (vf_upd (m_toldThen τ) (((200 : Int32) * (m_changes τ)) + v1).toNatClampNeg (m_told τ v1.toNatClampNeg)))) (((200 : Int32) * (m_changes (m_toldThen_ τ (vf_upd (m_toldThen τ) (((200 : Int32) * (m_changes τ)) + v1).toNatClampNeg (m_told τ v1.toNatClampNeg))))) + v1).toNatClampNeg (vp_nar .boolean (m_blank (m_toldThen_ τ (vf_upd (m_toldThen τ) (((200 : Int32) * (m_changes τ)) + v1).toNatClampNeg (m_told τ v1.toNatClampNeg))) v1.toNatClampNeg)))) (v1 + (1 : Int32))) else none) else none) else none) else none)
def gX11_picture (σ : MS) : Option MS := lq2 (gX11_picture_2 σ) 220 σ (0 : Int32)
theorem hd_X11_picture : yX11_picture.cls ≠ "java/lang/invoke/MethodHandle" ∧ yX11_picture.cls ≠ "java/lang/invoke/VarHandle" ∧ (parseMethodDescriptor yX11_picture.desc).map (fun d => d.parameters.length) = some 0 := by decide +kernel
set_option maxHeartbeats 4000000 in
set_option maxRecDepth 100000 in
theorem tX11_picture {G : GG} {l : Launch} {z N : Nat} {b : Nat → va_E} (hN : 86 ≤ N) (σ : MS) {r : MS} (hg : gX11_picture σ = some r) : Ct G l yX11_picture cX11_picture 2 none ({ frames := 0, cells := 0, slots := 0, locals := 0 } : Room) [.ref (z + 71)] z (ctM G z b σ) N none (ctM G z b r) N := by
  refine Ct.of (lv := [(0, .ref (z + 71))]) (by decide +kernel) (Nat.le_of_ble_eq_true rfl) rfl (fun p e s m args below meth c C => ?_)
  have L_93 : ∀ (n93 : Nat) (τ : MS) (v1 : Int32), lq2 (gX11_picture_93 σ) n93 τ v1 = some r → J G p l e ({ frames := 0, cells := 0, slots := 0, locals := 0 } : Room) s m args below meth c z 2 (MQ below (Qd G z none (ctM G z b r) N) args s 0 0 (zA z)) (ctM G z b τ) N 0 0 93 [(0, .ref (z + 71)), (1, .int v1)] [] := by
    intro n93
    induction n93 with
    | zero => intro τ v1 hg; cases hg
    | succ n93 ih93 =>
      intro τ v1 hg
      replace hg : gX11_picture_93 σ (lq2 (gX11_picture_93 σ) n93) τ v1 = some r := hg
      rw [gX11_picture_93] at hg
      refine j_iload_n C dX11_picture_93 1 rfl rfl ?_
      refine j_bipush (v := 48) C dX11_picture_94 (by decide) ?_
      refine j_icmp_ge C 125 hg dX11_picture_96 (by decide) (fun hg => ?_) (fun hg => ?_)
      · exact j_vret C dX11_picture_125 rfl (by rw [← Option.some.inj hg]) rfl
      · refine j_aload_n C dX11_picture_99 0 rfl rfl ?_
        refine j_get (v := .ref (z + 81)) C (Nat.lt_of_lt_of_le (by decide) hN) cq_obj rfl inX11 9 (by decide) q3_112 rfl rfl dX11_picture_100 ?_
        refine j_bipush (v := 48) C dX11_picture_103 (by decide) ?_
        refine j_aload_n C dX11_picture_105 0 rfl rfl ?_
        refine j_get (v := .int (m_changes τ)) C (Nat.lt_of_lt_of_le (by decide) hN) cq_obj rfl inX11 10 (by decide) q3_113 rfl rfl dX11_picture_106 ?_
        refine j_imul C dX11_picture_109 ?_
        refine j_iload_n C dX11_picture_110 1 rfl rfl ?_
        refine j_iadd C dX11_picture_111 ?_
        refine j_aload_n C dX11_picture_112 0 rfl rfl ?_
        refine j_get (v := .ref (z + 75)) C (Nat.lt_of_lt_of_le (by decide) hN) cq_obj rfl inX11 3 (by decide) q3_106 rfl rfl dX11_picture_113 ?_
        refine j_iload_n C dX11_picture_116 1 rfl rfl ?_
        refine j_iald C hg (Nat.lt_of_lt_of_le (by decide) hN) cq_made dX11_picture_117 (fun hg => ?_)
        refine j_iast C hg (Nat.lt_of_lt_of_le (by decide) hN) cq_madeThen dX11_picture_118 (fun hg => j_ct cs_madeThen ?_)
        refine j_iinc C [(1, .int (v1 + (1 : Int32))), (0, .ref (z + 71))] dX11_picture_119 1 rfl rfl (by decide) rfl ?_
        refine j_goto C 93 dX11_picture_122 (by decide) ?_
        exact j_re [1, 0] rfl (ih93 (m_madeThen_ τ (upd (m_madeThen τ) (((48 : Int32) * (m_changes τ)) + v1).toNatClampNeg (m_made τ v1.toNatClampNeg))) (v1 + (1 : Int32)) hg)
  have L_59 : ∀ (n59 : Nat) (τ : MS) (v1 : Int32), lq2 (gX11_picture_59 σ) n59 τ v1 = some r → J G p l e ({ frames := 0, cells := 0, slots := 0, locals := 0 } : Room) s m args below meth c z 2 (MQ below (Qd G z none (ctM G z b r) N) args s 0 0 (zA z)) (ctM G z b τ) N 0 0 59 [(0, .ref (z + 71)), (1, .int v1)] [] := by
    intro n59
    induction n59 with
    | zero => intro τ v1 hg; cases hg
    | succ n59 ih59 =>
      intro τ v1 hg
      replace hg : gX11_picture_59 σ (lq2 (gX11_picture_59 σ) n59) τ v1 = some r := hg
      rw [gX11_picture_59] at hg
      refine j_iload_n C dX11_picture_59 1 rfl rfl ?_
      refine j_bipush (v := 12) C dX11_picture_60 (by decide) ?_
      refine j_icmp_ge C 91 hg dX11_picture_62 (by decide) (fun hg => ?_) (fun hg => ?_)
      · refine j_iconst (v := 0) C dX11_picture_91 (by decide) ?_
        refine j_istore_n C [(1, .int (0 : Int32)), (0, .ref (z + 71))] dX11_picture_92 rfl (by decide) rfl ?_
        exact j_re [1, 0] rfl (L_93 220 τ (0 : Int32) hg)
      · refine j_aload_n C dX11_picture_65 0 rfl rfl ?_
        refine j_get (v := .ref (z + 80)) C (Nat.lt_of_lt_of_le (by decide) hN) cq_obj rfl inX11 8 (by decide) q3_111 rfl rfl dX11_picture_66 ?_
        refine j_bipush (v := 12) C dX11_picture_69 (by decide) ?_
        refine j_aload_n C dX11_picture_71 0 rfl rfl ?_
        refine j_get (v := .int (m_changes τ)) C (Nat.lt_of_lt_of_le (by decide) hN) cq_obj rfl inX11 10 (by decide) q3_113 rfl rfl dX11_picture_72 ?_
        refine j_imul C dX11_picture_75 ?_
        refine j_iload_n C dX11_picture_76 1 rfl rfl ?_
        refine j_iadd C dX11_picture_77 ?_
        refine j_aload_n C dX11_picture_78 0 rfl rfl ?_
        refine j_get (v := .ref (z + 74)) C (Nat.lt_of_lt_of_le (by decide) hN) cq_obj rfl inX11 2 (by decide) q3_105 rfl rfl dX11_picture_79 ?_
        refine j_iload_n C dX11_picture_82 1 rfl rfl ?_
        refine j_zald C hg (Nat.lt_of_lt_of_le (by decide) hN) cq_narrow dX11_picture_83 (fun hg => ?_)
        refine j_zast C hg (Nat.lt_of_lt_of_le (by decide) hN) cq_narrowThen dX11_picture_84 (fun hg => j_ct cs_narrowThen ?_)
        refine j_iinc C [(1, .int (v1 + (1 : Int32))), (0, .ref (z + 71))] dX11_picture_85 1 rfl rfl (by decide) rfl ?_
        refine j_goto C 59 dX11_picture_88 (by decide) ?_
        exact j_re [1, 0] rfl (ih59 (m_narrowThen_ τ (upd (m_narrowThen τ) (((12 : Int32) * (m_changes τ)) + v1).toNatClampNeg (vp_nar .boolean (m_narrow τ v1.toNatClampNeg)))) (v1 + (1 : Int32)) hg)
  have L_2 : ∀ (n2 : Nat) (τ : MS) (v1 : Int32), lq2 (gX11_picture_2 σ) n2 τ v1 = some r → J G p l e ({ frames := 0, cells := 0, slots := 0, locals := 0 } : Room) s m args below meth c z 2 (MQ below (Qd G z none (ctM G z b r) N) args s 0 0 (zA z)) (ctM G z b τ) N 0 0 2 [(0, .ref (z + 71)), (1, .int v1)] [] := by
    intro n2
    induction n2 with
    | zero => intro τ v1 hg; cases hg
    | succ n2 ih2 =>
      intro τ v1 hg
      replace hg : gX11_picture_2 σ (lq2 (gX11_picture_2 σ) n2) τ v1 = some r := hg
      rw [gX11_picture_2] at hg
      refine j_iload_n C dX11_picture_2 1 rfl rfl ?_
      refine j_sipush (v := 200) C dX11_picture_3 (by decide) ?_
      refine j_icmp_ge C 57 hg dX11_picture_6 (by decide) (fun hg => ?_) (fun hg => ?_)
      · refine j_iconst (v := 0) C dX11_picture_57 (by decide) ?_
        refine j_istore_n C [(1, .int (0 : Int32)), (0, .ref (z + 71))] dX11_picture_58 rfl (by decide) rfl ?_
        exact j_re [1, 0] rfl (L_59 220 τ (0 : Int32) hg)
      · refine j_aload_n C dX11_picture_9 0 rfl rfl ?_
        refine j_get (v := .ref (z + 78)) C (Nat.lt_of_lt_of_le (by decide) hN) cq_obj rfl inX11 6 (by decide) q3_109 rfl rfl dX11_picture_10 ?_
        refine j_sipush (v := 200) C dX11_picture_13 (by decide) ?_
        refine j_aload_n C dX11_picture_16 0 rfl rfl ?_
        refine j_get (v := .int (m_changes τ)) C (Nat.lt_of_lt_of_le (by decide) hN) cq_obj rfl inX11 10 (by decide) q3_113 rfl rfl dX11_picture_17 ?_
        refine j_imul C dX11_picture_20 ?_
        refine j_iload_n C dX11_picture_21 1 rfl rfl ?_
        refine j_iadd C dX11_picture_22 ?_
        refine j_aload_n C dX11_picture_23 0 rfl rfl ?_
        refine j_get (v := .ref (z + 72)) C (Nat.lt_of_lt_of_le (by decide) hN) cq_obj rfl inX11 0 (by decide) q3_103 rfl rfl dX11_picture_24 ?_
        refine j_iload_n C dX11_picture_27 1 rfl rfl ?_
        refine j_dald C hg (Nat.lt_of_lt_of_le (by decide) hN) cq_told dX11_picture_28 (fun hg => ?_)
        refine j_dast C hg (Nat.lt_of_lt_of_le (by decide) hN) cq_toldThen dX11_picture_29 (fun hg => j_ct cs_toldThen ?_)
        refine j_aload_n C dX11_picture_30 0 rfl rfl ?_
        refine j_get (v := .ref (z + 79)) C (Nat.lt_of_lt_of_le (by decide) hN) cq_obj rfl inX11 7 (by decide) q3_110 rfl rfl dX11_picture_31 ?_
        refine j_sipush (v := 200) C dX11_picture_34 (by decide) ?_
        refine j_aload_n C dX11_picture_37 0 rfl rfl ?_
        refine j_get (v := .int (m_changes (m_toldThen_ τ (vf_upd (m_toldThen τ) (((200 : Int32) * (m_changes τ)) + v1).toNatClampNeg (m_told τ v1.toNatClampNeg))))) C (Nat.lt_of_lt_of_le (by decide) hN) cq_obj rfl inX11 10 (by decide) q3_113 rfl rfl dX11_picture_38 ?_
        refine j_imul C dX11_picture_41 ?_
        refine j_iload_n C dX11_picture_42 1 rfl rfl ?_
        refine j_iadd C dX11_picture_43 ?_
        refine j_aload_n C dX11_picture_44 0 rfl rfl ?_
        refine j_get (v := .ref (z + 73)) C (Nat.lt_of_lt_of_le (by decide) hN) cq_obj rfl inX11 1 (by decide) q3_104 rfl rfl dX11_picture_45 ?_
        refine j_iload_n C dX11_picture_48 1 rfl rfl ?_
        refine j_zald C hg (Nat.lt_of_lt_of_le (by decide) hN) cq_blank dX11_picture_49 (fun hg => ?_)
        refine j_zast C hg (Nat.lt_of_lt_of_le (by decide) hN) cq_blankThen dX11_picture_50 (fun hg => j_ct cs_blankThen ?_)
        refine j_iinc C [(1, .int (v1 + (1 : Int32))), (0, .ref (z + 71))] dX11_picture_51 1 rfl rfl (by decide) rfl ?_
        refine j_goto C 2 dX11_picture_54 (by decide) ?_
        exact j_re [1, 0] rfl (ih2 (m_blankThen_ (m_toldThen_ τ (vf_upd (m_toldThen τ) (((200 : Int32) * (m_changes τ)) + v1).toNatClampNeg (m_told τ v1.toNatClampNeg))) (upd (m_blankThen (m_toldThen_ τ (vf_upd (m_toldThen τ) (((200 : Int32) * (m_changes τ)) + v1).toNatClampNeg (m_told τ v1.toNatClampNeg)))) (((200 : Int32) * (m_changes (m_toldThen_ τ (vf_upd (m_toldThen τ) (((200 : Int32) * (m_changes τ)) + v1).toNatClampNeg (m_told τ v1.toNatClampNeg))))) + v1).toNatClampNeg (vp_nar .boolean (m_blank (m_toldThen_ τ (vf_upd (m_toldThen τ) (((200 : Int32) * (m_changes τ)) + v1).toNatClampNeg (m_told τ v1.toNatClampNeg))) v1.toNatClampNeg)))) (v1 + (1 : Int32)) hg)
  rw [gX11_picture] at hg
  refine j_iconst (v := 0) C dX11_picture_0 (by decide) ?_
  refine j_istore_n C [(1, .int (0 : Int32)), (0, .ref (z + 71))] dX11_picture_1 rfl (by decide) rfl ?_
  exact j_re [1, 0] rfl (L_2 220 σ (0 : Int32) hg)

def gX11_back_112 (σ : MS) (k112 : MS → Int32 → Option (MS × Int32)) (τ : MS) (v1 : Int32) : Option (MS × Int32) := if (48 : Int32) ≤ v1 then (some (τ, m_changes τ)) else (if ix (((48 : Int32) * (m_changes τ)) + v1) 24576 then (if ix v1 48 then (k112 (m_made_ τ (upd (m_made τ) v1.toNatClampNeg (m_madeThen τ (((48 : Int32) * (m_changes τ)) + v1).toNatClampNeg))) (v1 + (1 : Int32))) else none) else none)
def gX11_back_78 (σ : MS) (k78 : MS → Int32 → Option (MS × Int32)) (τ : MS) (v1 : Int32) : Option (MS × Int32) := if (12 : Int32) ≤ v1 then (lq2 (gX11_back_112 σ) 220 τ (0 : Int32)) else (if ix (((12 : Int32) * (m_changes τ)) + v1) 6144 then (if ix v1 12 then (k78 (m_narrow_ τ (upd (m_narrow τ) v1.toNatClampNeg (vp_nar .boolean (m_narrowThen τ (((12 : Int32) * (m_changes τ)) + v1).toNatClampNeg)))) (v1 + (1 : Int32))) else none) else none)
def gX11_back_21 (σ : MS) (k21 : MS → Int32 → Option (MS × Int32)) (τ : MS) (v1 : Int32) : Option (MS × Int32) := if (200 : Int32) ≤ v1 then (lq2 (gX11_back_78 σ) 220 τ (0 : Int32)) else (if ix (((200 : Int32) * (m_changes τ)) + v1) 102400 then (if ix v1 200 then (if ix (((200 : Int32) * (m_changes (m_told_ τ (vf_upd (m_told τ) v1.toNatClampNeg (m_toldThen τ (((200 : Int32) * (m_changes τ)) + v1).toNatClampNeg))))) + v1) 102400 then (if ix v1 200 then (k21 (m_blank_ (m_told_ τ (vf_upd (m_told τ) v1.toNatClampNeg (m_toldThen τ (((200 : Int32) * (m_changes τ)) + v1).toNatClampNeg))) (upd (m_blank (m_told_ τ (vf_upd (m_told τ) v1.toNatClampNeg (m_toldThen τ (((200 : Int32) * (m_changes τ)) + v1).toNatClampNeg)))) v1.toNatClampNeg (vp_nar .boolean (m_blankThen (m_told_ τ (vf_upd (m_told τ) v1.toNatClampNeg (m_toldThen τ (((200 : Int32) * (m_changes τ)) + v1).toNatClampNeg))) (((200 : Int32) * (m_changes (m_told_ τ (vf_upd (m_told τ) v1.toNatClampNeg (m_toldThen τ (((200 : Int32) * (m_changes τ)) + v1).toNatClampNeg))))) + v1).toNatClampNeg)))) (v1 + (1 : Int32))) else none) else none) else none) else none)
def gX11_back (σ : MS) : Option (MS × Int32) := if (m_changes σ) = 0 then (some (σ, (-1 : Int32))) else (lq2 (gX11_back_21 σ) 220 (m_changes_ σ ((m_changes σ) - (1 : Int32))) (0 : Int32))
theorem hd_X11_back : yX11_back.cls ≠ "java/lang/invoke/MethodHandle" ∧ yX11_back.cls ≠ "java/lang/invoke/VarHandle" ∧ (parseMethodDescriptor yX11_back.desc).map (fun d => d.parameters.length) = some 0 := by decide +kernel
set_option maxHeartbeats 4000000 in
set_option maxRecDepth 100000 in
theorem tX11_back {G : GG} {l : Launch} {z N : Nat} {b : Nat → va_E} (hN : 86 ≤ N) (σ : MS) {r : MS × Int32} (hg : gX11_back σ = some r) : Ct G l yX11_back cX11_back 2 (some .int) ({ frames := 0, cells := 0, slots := 0, locals := 0 } : Room) [.ref (z + 71)] z (ctM G z b σ) N (some (.int r.2)) (ctM G z b r.1) N := by
  refine Ct.of (lv := [(0, .ref (z + 71))]) (by decide +kernel) (Nat.le_of_ble_eq_true rfl) rfl (fun p e s m args below meth c C => ?_)
  have L_112 : ∀ (n112 : Nat) (τ : MS) (v1 : Int32), lq2 (gX11_back_112 σ) n112 τ v1 = some r → J G p l e ({ frames := 0, cells := 0, slots := 0, locals := 0 } : Room) s m args below meth c z 2 (MQ below (Qd G z (some (.int r.2)) (ctM G z b r.1) N) args s 0 0 (zA z)) (ctM G z b τ) N 0 0 112 [(0, .ref (z + 71)), (1, .int v1)] [] := by
    intro n112
    induction n112 with
    | zero => intro τ v1 hg; cases hg
    | succ n112 ih112 =>
      intro τ v1 hg
      replace hg : gX11_back_112 σ (lq2 (gX11_back_112 σ) n112) τ v1 = some r := hg
      rw [gX11_back_112] at hg
      refine j_iload_n C dX11_back_112 1 rfl rfl ?_
      refine j_bipush (v := 48) C dX11_back_113 (by decide) ?_
      refine j_icmp_ge C 144 hg dX11_back_115 (by decide) (fun hg => ?_) (fun hg => ?_)
      · refine j_aload_n C dX11_back_144 0 rfl rfl ?_
        refine j_get (v := .int (m_changes τ)) C (Nat.lt_of_lt_of_le (by decide) hN) cq_obj rfl inX11 10 (by decide) q3_113 rfl rfl dX11_back_145 ?_
        exact j_iret C dX11_back_148 (by rw [← Option.some.inj hg]) (by rw [← Option.some.inj hg]) rfl
      · refine j_aload_n C dX11_back_118 0 rfl rfl ?_
        refine j_get (v := .ref (z + 75)) C (Nat.lt_of_lt_of_le (by decide) hN) cq_obj rfl inX11 3 (by decide) q3_106 rfl rfl dX11_back_119 ?_
        refine j_iload_n C dX11_back_122 1 rfl rfl ?_
        refine j_aload_n C dX11_back_123 0 rfl rfl ?_
        refine j_get (v := .ref (z + 81)) C (Nat.lt_of_lt_of_le (by decide) hN) cq_obj rfl inX11 9 (by decide) q3_112 rfl rfl dX11_back_124 ?_
        refine j_bipush (v := 48) C dX11_back_127 (by decide) ?_
        refine j_aload_n C dX11_back_129 0 rfl rfl ?_
        refine j_get (v := .int (m_changes τ)) C (Nat.lt_of_lt_of_le (by decide) hN) cq_obj rfl inX11 10 (by decide) q3_113 rfl rfl dX11_back_130 ?_
        refine j_imul C dX11_back_133 ?_
        refine j_iload_n C dX11_back_134 1 rfl rfl ?_
        refine j_iadd C dX11_back_135 ?_
        refine j_iald C hg (Nat.lt_of_lt_of_le (by decide) hN) cq_madeThen dX11_back_136 (fun hg => ?_)
        refine j_iast C hg (Nat.lt_of_lt_of_le (by decide) hN) cq_made dX11_back_137 (fun hg => j_ct cs_made ?_)
        refine j_iinc C [(1, .int (v1 + (1 : Int32))), (0, .ref (z + 71))] dX11_back_138 1 rfl rfl (by decide) rfl ?_
        refine j_goto C 112 dX11_back_141 (by decide) ?_
        exact j_re [1, 0] rfl (ih112 (m_made_ τ (upd (m_made τ) v1.toNatClampNeg (m_madeThen τ (((48 : Int32) * (m_changes τ)) + v1).toNatClampNeg))) (v1 + (1 : Int32)) hg)
  have L_78 : ∀ (n78 : Nat) (τ : MS) (v1 : Int32), lq2 (gX11_back_78 σ) n78 τ v1 = some r → J G p l e ({ frames := 0, cells := 0, slots := 0, locals := 0 } : Room) s m args below meth c z 2 (MQ below (Qd G z (some (.int r.2)) (ctM G z b r.1) N) args s 0 0 (zA z)) (ctM G z b τ) N 0 0 78 [(0, .ref (z + 71)), (1, .int v1)] [] := by
    intro n78
    induction n78 with
    | zero => intro τ v1 hg; cases hg
    | succ n78 ih78 =>
      intro τ v1 hg
      replace hg : gX11_back_78 σ (lq2 (gX11_back_78 σ) n78) τ v1 = some r := hg
      rw [gX11_back_78] at hg
      refine j_iload_n C dX11_back_78 1 rfl rfl ?_
      refine j_bipush (v := 12) C dX11_back_79 (by decide) ?_
      refine j_icmp_ge C 110 hg dX11_back_81 (by decide) (fun hg => ?_) (fun hg => ?_)
      · refine j_iconst (v := 0) C dX11_back_110 (by decide) ?_
        refine j_istore_n C [(1, .int (0 : Int32)), (0, .ref (z + 71))] dX11_back_111 rfl (by decide) rfl ?_
        exact j_re [1, 0] rfl (L_112 220 τ (0 : Int32) hg)
      · refine j_aload_n C dX11_back_84 0 rfl rfl ?_
        refine j_get (v := .ref (z + 74)) C (Nat.lt_of_lt_of_le (by decide) hN) cq_obj rfl inX11 2 (by decide) q3_105 rfl rfl dX11_back_85 ?_
        refine j_iload_n C dX11_back_88 1 rfl rfl ?_
        refine j_aload_n C dX11_back_89 0 rfl rfl ?_
        refine j_get (v := .ref (z + 80)) C (Nat.lt_of_lt_of_le (by decide) hN) cq_obj rfl inX11 8 (by decide) q3_111 rfl rfl dX11_back_90 ?_
        refine j_bipush (v := 12) C dX11_back_93 (by decide) ?_
        refine j_aload_n C dX11_back_95 0 rfl rfl ?_
        refine j_get (v := .int (m_changes τ)) C (Nat.lt_of_lt_of_le (by decide) hN) cq_obj rfl inX11 10 (by decide) q3_113 rfl rfl dX11_back_96 ?_
        refine j_imul C dX11_back_99 ?_
        refine j_iload_n C dX11_back_100 1 rfl rfl ?_
        refine j_iadd C dX11_back_101 ?_
        refine j_zald C hg (Nat.lt_of_lt_of_le (by decide) hN) cq_narrowThen dX11_back_102 (fun hg => ?_)
        refine j_zast C hg (Nat.lt_of_lt_of_le (by decide) hN) cq_narrow dX11_back_103 (fun hg => j_ct cs_narrow ?_)
        refine j_iinc C [(1, .int (v1 + (1 : Int32))), (0, .ref (z + 71))] dX11_back_104 1 rfl rfl (by decide) rfl ?_
        refine j_goto C 78 dX11_back_107 (by decide) ?_
        exact j_re [1, 0] rfl (ih78 (m_narrow_ τ (upd (m_narrow τ) v1.toNatClampNeg (vp_nar .boolean (m_narrowThen τ (((12 : Int32) * (m_changes τ)) + v1).toNatClampNeg)))) (v1 + (1 : Int32)) hg)
  have L_21 : ∀ (n21 : Nat) (τ : MS) (v1 : Int32), lq2 (gX11_back_21 σ) n21 τ v1 = some r → J G p l e ({ frames := 0, cells := 0, slots := 0, locals := 0 } : Room) s m args below meth c z 2 (MQ below (Qd G z (some (.int r.2)) (ctM G z b r.1) N) args s 0 0 (zA z)) (ctM G z b τ) N 0 0 21 [(0, .ref (z + 71)), (1, .int v1)] [] := by
    intro n21
    induction n21 with
    | zero => intro τ v1 hg; cases hg
    | succ n21 ih21 =>
      intro τ v1 hg
      replace hg : gX11_back_21 σ (lq2 (gX11_back_21 σ) n21) τ v1 = some r := hg
      rw [gX11_back_21] at hg
      refine j_iload_n C dX11_back_21 1 rfl rfl ?_
      refine j_sipush (v := 200) C dX11_back_22 (by decide) ?_
      refine j_icmp_ge C 76 hg dX11_back_25 (by decide) (fun hg => ?_) (fun hg => ?_)
      · refine j_iconst (v := 0) C dX11_back_76 (by decide) ?_
        refine j_istore_n C [(1, .int (0 : Int32)), (0, .ref (z + 71))] dX11_back_77 rfl (by decide) rfl ?_
        exact j_re [1, 0] rfl (L_78 220 τ (0 : Int32) hg)
      · refine j_aload_n C dX11_back_28 0 rfl rfl ?_
        refine j_get (v := .ref (z + 72)) C (Nat.lt_of_lt_of_le (by decide) hN) cq_obj rfl inX11 0 (by decide) q3_103 rfl rfl dX11_back_29 ?_
        refine j_iload_n C dX11_back_32 1 rfl rfl ?_
        refine j_aload_n C dX11_back_33 0 rfl rfl ?_
        refine j_get (v := .ref (z + 78)) C (Nat.lt_of_lt_of_le (by decide) hN) cq_obj rfl inX11 6 (by decide) q3_109 rfl rfl dX11_back_34 ?_
        refine j_sipush (v := 200) C dX11_back_37 (by decide) ?_
        refine j_aload_n C dX11_back_40 0 rfl rfl ?_
        refine j_get (v := .int (m_changes τ)) C (Nat.lt_of_lt_of_le (by decide) hN) cq_obj rfl inX11 10 (by decide) q3_113 rfl rfl dX11_back_41 ?_
        refine j_imul C dX11_back_44 ?_
        refine j_iload_n C dX11_back_45 1 rfl rfl ?_
        refine j_iadd C dX11_back_46 ?_
        refine j_dald C hg (Nat.lt_of_lt_of_le (by decide) hN) cq_toldThen dX11_back_47 (fun hg => ?_)
        refine j_dast C hg (Nat.lt_of_lt_of_le (by decide) hN) cq_told dX11_back_48 (fun hg => j_ct cs_told ?_)
        refine j_aload_n C dX11_back_49 0 rfl rfl ?_
        refine j_get (v := .ref (z + 73)) C (Nat.lt_of_lt_of_le (by decide) hN) cq_obj rfl inX11 1 (by decide) q3_104 rfl rfl dX11_back_50 ?_
        refine j_iload_n C dX11_back_53 1 rfl rfl ?_
        refine j_aload_n C dX11_back_54 0 rfl rfl ?_
        refine j_get (v := .ref (z + 79)) C (Nat.lt_of_lt_of_le (by decide) hN) cq_obj rfl inX11 7 (by decide) q3_110 rfl rfl dX11_back_55 ?_
        refine j_sipush (v := 200) C dX11_back_58 (by decide) ?_
        refine j_aload_n C dX11_back_61 0 rfl rfl ?_
        refine j_get (v := .int (m_changes (m_told_ τ (vf_upd (m_told τ) v1.toNatClampNeg (m_toldThen τ (((200 : Int32) * (m_changes τ)) + v1).toNatClampNeg))))) C (Nat.lt_of_lt_of_le (by decide) hN) cq_obj rfl inX11 10 (by decide) q3_113 rfl rfl dX11_back_62 ?_
        refine j_imul C dX11_back_65 ?_
        refine j_iload_n C dX11_back_66 1 rfl rfl ?_
        refine j_iadd C dX11_back_67 ?_
        refine j_zald C hg (Nat.lt_of_lt_of_le (by decide) hN) cq_blankThen dX11_back_68 (fun hg => ?_)
        refine j_zast C hg (Nat.lt_of_lt_of_le (by decide) hN) cq_blank dX11_back_69 (fun hg => j_ct cs_blank ?_)
        refine j_iinc C [(1, .int (v1 + (1 : Int32))), (0, .ref (z + 71))] dX11_back_70 1 rfl rfl (by decide) rfl ?_
        refine j_goto C 21 dX11_back_73 (by decide) ?_
        exact j_re [1, 0] rfl (ih21 (m_blank_ (m_told_ τ (vf_upd (m_told τ) v1.toNatClampNeg (m_toldThen τ (((200 : Int32) * (m_changes τ)) + v1).toNatClampNeg))) (upd (m_blank (m_told_ τ (vf_upd (m_told τ) v1.toNatClampNeg (m_toldThen τ (((200 : Int32) * (m_changes τ)) + v1).toNatClampNeg)))) v1.toNatClampNeg (vp_nar .boolean (m_blankThen (m_told_ τ (vf_upd (m_told τ) v1.toNatClampNeg (m_toldThen τ (((200 : Int32) * (m_changes τ)) + v1).toNatClampNeg))) (((200 : Int32) * (m_changes (m_told_ τ (vf_upd (m_told τ) v1.toNatClampNeg (m_toldThen τ (((200 : Int32) * (m_changes τ)) + v1).toNatClampNeg))))) + v1).toNatClampNeg)))) (v1 + (1 : Int32)) hg)
  rw [gX11_back] at hg
  refine j_aload_n C dX11_back_0 0 rfl rfl ?_
  refine j_get (v := .int (m_changes σ)) C (Nat.lt_of_lt_of_le (by decide) hN) cq_obj rfl inX11 10 (by decide) q3_113 rfl rfl dX11_back_1 ?_
  refine j_if_ne C 9 hg dX11_back_4 (by decide) (fun hg => ?_) (fun hg => ?_)
  · refine j_aload_n C dX11_back_9 0 rfl rfl ?_
    refine j_dup C dX11_back_10 rfl ?_
    refine j_get (v := .int (m_changes σ)) C (Nat.lt_of_lt_of_le (by decide) hN) cq_obj rfl inX11 10 (by decide) q3_113 rfl rfl dX11_back_11 ?_
    refine j_iconst (v := 1) C dX11_back_14 (by decide) ?_
    refine j_isub C dX11_back_15 ?_
    refine j_put (fs := mF z σ) C tyX11 tyX11_ok nmX11 (Nat.lt_of_lt_of_le (by decide) hN) cq_obj rfl inX11 10 (by decide) q3_113 rfl rfl (tyX11_ok 10 (by decide)) rfl rfl (Nat.le_of_ble_eq_true rfl) dX11_back_16 (j_ct cs_changes ?_)
    refine j_iconst (v := 0) C dX11_back_19 (by decide) ?_
    refine j_istore_n C [(1, .int (0 : Int32)), (0, .ref (z + 71))] dX11_back_20 rfl (by decide) rfl ?_
    exact j_re [1, 0] rfl (L_21 220 (m_changes_ σ ((m_changes σ) - (1 : Int32))) (0 : Int32) hg)
  · refine j_iconst (v := (-1)) C dX11_back_7 (by decide) ?_
    exact j_iret C dX11_back_8 (by rw [← Option.some.inj hg]) (by rw [← Option.some.inj hg]) rfl

def gX11_canSet (σ : MS) (x0 : Int32) (x1 : Int32) : Option Int32 := (gX11_isIn x0 (0 : Int32) (11 : Int32)).bind (fun r1 => if r1 = 0 then (some (0 : Int32)) else ((gX11_isIn x1 (0 : Int32) (15 : Int32)).bind (fun r2 => if r2 = 0 then (some (0 : Int32)) else (if ix ((4 : Int32) * x0) 48 then (if 0 ≤ (m_made σ ((4 : Int32) * x0).toNatClampNeg) then (some (0 : Int32)) else (some (1 : Int32))) else none))))
theorem hd_X11_canSet : yX11_canSet.cls ≠ "java/lang/invoke/MethodHandle" ∧ yX11_canSet.cls ≠ "java/lang/invoke/VarHandle" ∧ (parseMethodDescriptor yX11_canSet.desc).map (fun d => d.parameters.length) = some 2 := by decide +kernel
set_option maxHeartbeats 4000000 in
set_option maxRecDepth 100000 in
theorem tX11_canSet {G : GG} {l : Launch} {z N : Nat} {b : Nat → va_E} (hN : 86 ≤ N) (σ : MS) (x0 : Int32) (x1 : Int32) {r : Int32} (hg : gX11_canSet σ x0 x1 = some r) : Ct G l yX11_canSet cX11_canSet 3 (some .boolean) ({ frames := 1, cells := 0, slots := 0, locals := 22 } : Room) [.ref (z + 71), .int x0, .int x1] z (ctM G z b σ) N (some (.int r)) (ctM G z b σ) N := by
  refine Ct.of (lv := [(0, .ref (z + 71)), (1, .int x0), (2, .int x1)]) (by decide +kernel) (Nat.le_of_ble_eq_true rfl) rfl (fun p e s m args below meth c C => ?_)
  rw [gX11_canSet] at hg
  refine j_iload_n C dX11_canSet_0 1 rfl rfl ?_
  refine j_iconst (v := 0) C dX11_canSet_1 (by decide) ?_
  refine j_bipush (v := 11) C dX11_canSet_2 (by decide) ?_
  obtain ⟨r1, hr1, hg⟩ := ob hg
  refine j_callS C [.int x0, .int (0 : Int32), .int (11 : Int32)] (tX11_isIn x0 (0 : Int32) (11 : Int32) hr1) q3_176 q1_6 q3_175 q3_174 hd_X11_isIn rfl dX11_canSet_4 rfl (Nat.le_of_ble_eq_true rfl) ⟨(Nat.le_of_ble_eq_true rfl), (Nat.le_of_ble_eq_true rfl)⟩ ⟨(Nat.le_of_ble_eq_true rfl), (Nat.le_of_ble_eq_true rfl)⟩ ?_
  refine j_if_eq C 35 hg dX11_canSet_7 (by decide) (fun hg => ?_) (fun hg => ?_)
  · refine j_iconst (v := 0) C dX11_canSet_35 (by decide) ?_
    exact j_zret C dX11_canSet_36 (by decide) (by rw [← Option.some.inj hg]) rfl rfl
  · refine j_iload_n C dX11_canSet_10 2 rfl rfl ?_
    refine j_iconst (v := 0) C dX11_canSet_11 (by decide) ?_
    refine j_bipush (v := 15) C dX11_canSet_12 (by decide) ?_
    obtain ⟨r2, hr2, hg⟩ := ob hg
    refine j_callS C [.int x1, .int (0 : Int32), .int (15 : Int32)] (tX11_isIn x1 (0 : Int32) (15 : Int32) hr2) q3_176 q1_6 q3_175 q3_174 hd_X11_isIn rfl dX11_canSet_14 rfl (Nat.le_of_ble_eq_true rfl) ⟨(Nat.le_of_ble_eq_true rfl), (Nat.le_of_ble_eq_true rfl)⟩ ⟨(Nat.le_of_ble_eq_true rfl), (Nat.le_of_ble_eq_true rfl)⟩ ?_
    refine j_if_eq C 35 hg dX11_canSet_17 (by decide) (fun hg => ?_) (fun hg => ?_)
    · refine j_iconst (v := 0) C dX11_canSet_35 (by decide) ?_
      exact j_zret C dX11_canSet_36 (by decide) (by rw [← Option.some.inj hg]) rfl rfl
    · refine j_aload_n C dX11_canSet_20 0 rfl rfl ?_
      refine j_get (v := .ref (z + 75)) C (Nat.lt_of_lt_of_le (by decide) hN) cq_obj rfl inX11 3 (by decide) q3_106 rfl rfl dX11_canSet_21 ?_
      refine j_iconst (v := 4) C dX11_canSet_24 (by decide) ?_
      refine j_iload_n C dX11_canSet_25 1 rfl rfl ?_
      refine j_imul C dX11_canSet_26 ?_
      refine j_iald C hg (Nat.lt_of_lt_of_le (by decide) hN) cq_made dX11_canSet_27 (fun hg => ?_)
      refine j_if_ge C 35 hg dX11_canSet_28 (by decide) (fun hg => ?_) (fun hg => ?_)
      · refine j_iconst (v := 0) C dX11_canSet_35 (by decide) ?_
        exact j_zret C dX11_canSet_36 (by decide) (by rw [← Option.some.inj hg]) rfl rfl
      · refine j_iconst (v := 1) C dX11_canSet_31 (by decide) ?_
        refine j_goto C 36 dX11_canSet_32 (by decide) ?_
        exact j_zret C dX11_canSet_36 (by decide) (by rw [← Option.some.inj hg]) rfl rfl

def gX11_put (σ : MS) (x0 : Int32) (x1 : UInt64) : Option MS := if ix x0 200 then (if ix x0 200 then (some (m_blank_ (m_told_ σ (vf_upd (m_told σ) x0.toNatClampNeg x1)) (upd (m_blank (m_told_ σ (vf_upd (m_told σ) x0.toNatClampNeg x1))) x0.toNatClampNeg (vp_nar .boolean (0 : Int32))))) else none) else none
theorem hd_X11_put : yX11_put.cls ≠ "java/lang/invoke/MethodHandle" ∧ yX11_put.cls ≠ "java/lang/invoke/VarHandle" ∧ (parseMethodDescriptor yX11_put.desc).map (fun d => d.parameters.length) = some 2 := by decide +kernel
set_option maxHeartbeats 4000000 in
set_option maxRecDepth 100000 in
theorem tX11_put {G : GG} {l : Launch} {z N : Nat} {b : Nat → va_E} (hN : 86 ≤ N) (σ : MS) (x0 : Int32) (x1 : UInt64) {r : MS} (hg : gX11_put σ x0 x1 = some r) : Ct G l yX11_put cX11_put 4 none ({ frames := 0, cells := 0, slots := 0, locals := 0 } : Room) [.ref (z + 71), .int x0, .double x1] z (ctM G z b σ) N none (ctM G z b r) N := by
  refine Ct.of (lv := [(0, .ref (z + 71)), (1, .int x0), (2, .double x1)]) (by decide +kernel) (Nat.le_of_ble_eq_true rfl) rfl (fun p e s m args below meth c C => ?_)
  rw [gX11_put] at hg
  refine j_aload_n C dX11_put_0 0 rfl rfl ?_
  refine j_get (v := .ref (z + 72)) C (Nat.lt_of_lt_of_le (by decide) hN) cq_obj rfl inX11 0 (by decide) q3_103 rfl rfl dX11_put_1 ?_
  refine j_iload_n C dX11_put_4 1 rfl rfl ?_
  refine j_dload_n C dX11_put_5 2 rfl rfl ?_
  refine j_dast C hg (Nat.lt_of_lt_of_le (by decide) hN) cq_told dX11_put_6 (fun hg => j_ct cs_told ?_)
  refine j_aload_n C dX11_put_7 0 rfl rfl ?_
  refine j_get (v := .ref (z + 73)) C (Nat.lt_of_lt_of_le (by decide) hN) cq_obj rfl inX11 1 (by decide) q3_104 rfl rfl dX11_put_8 ?_
  refine j_iload_n C dX11_put_11 1 rfl rfl ?_
  refine j_iconst (v := 0) C dX11_put_12 (by decide) ?_
  refine j_zast C hg (Nat.lt_of_lt_of_le (by decide) hN) cq_blank dX11_put_13 (fun hg => j_ct cs_blank ?_)
  exact j_vret C dX11_put_14 rfl (by rw [← Option.some.inj hg]) rfl

def gX11_putSpecial_122 (σ : MS) (x0 : Int32) (x1 : Int32) (x2 : Int32) (τ : MS) (s0 : UInt64) (s1 : Int32) : Option MS := (gX11_put τ s1 s0).bind (fun r5 => some r5)
def gX11_putSpecial_101 (σ : MS) (x0 : Int32) (x1 : Int32) (x2 : Int32) (τ : MS) (s0 : UInt64) (s1 : Int32) : Option MS := (gX11_put τ s1 s0).bind (fun r6 => some r6)
def gX11_putSpecial (σ : MS) (x0 : Int32) (x1 : Int32) (x2 : Int32) : Option MS := if x1 = (0 : Int32) then (if ix x0 200 then (if ix x0 200 then (some (m_blank_ (m_told_ σ (vf_upd (m_told σ) x0.toNatClampNeg FP.dconst0)) (upd (m_blank (m_told_ σ (vf_upd (m_told σ) x0.toNatClampNeg FP.dconst0))) x0.toNatClampNeg (vp_nar .boolean (1 : Int32))))) else none) else none) else (if x1 = (1 : Int32) then ((gX11_put σ x0 (9218868437227405312 : UInt64)).bind (fun r4 => some r4)) else (if x1 = (2 : Int32) then ((gX11_put σ x0 (18442240474082181120 : UInt64)).bind (fun r3 => some r3)) else (if x1 = (3 : Int32) then ((gX11_put σ x0 (9223372036854775808 : UInt64)).bind (fun r2 => some r2)) else (if x1 = (4 : Int32) then (if x2 = 0 then (gX11_putSpecial_101 σ x0 x1 x2 σ (9218868437227405311 : UInt64) x0) else (gX11_putSpecial_101 σ x0 x1 x2 σ (5183643170566569984 : UInt64) x0)) else (if x2 = 0 then (gX11_putSpecial_122 σ x0 x1 x2 σ (1 : UInt64) x0) else (gX11_putSpecial_122 σ x0 x1 x2 σ (3936146074321813504 : UInt64) x0))))))
theorem hd_X11_putSpecial : yX11_putSpecial.cls ≠ "java/lang/invoke/MethodHandle" ∧ yX11_putSpecial.cls ≠ "java/lang/invoke/VarHandle" ∧ (parseMethodDescriptor yX11_putSpecial.desc).map (fun d => d.parameters.length) = some 3 := by decide +kernel
set_option maxHeartbeats 4000000 in
set_option maxRecDepth 100000 in
theorem tX11_putSpecial {G : GG} {l : Launch} {z N : Nat} {b : Nat → va_E} (hN : 86 ≤ N) (σ : MS) (x0 : Int32) (x1 : Int32) (x2 : Int32) {r : MS} (hg : gX11_putSpecial σ x0 x1 x2 = some r) : Ct G l yX11_putSpecial cX11_putSpecial 4 none ({ frames := 1, cells := 0, slots := 0, locals := 23 } : Room) [.ref (z + 71), .int x0, .int x1, .int x2] z (ctM G z b σ) N none (ctM G z b r) N := by
  refine Ct.of (lv := [(0, .ref (z + 71)), (1, .int x0), (2, .int x1), (3, .int x2)]) (by decide +kernel) (Nat.le_of_ble_eq_true rfl) rfl (fun p e s m args below meth c C => ?_)
  have L_122 : ∀ (τ : MS) (s0 : UInt64) (s1 : Int32), gX11_putSpecial_122 σ x0 x1 x2 τ s0 s1 = some r → J G p l e ({ frames := 1, cells := 0, slots := 0, locals := 23 } : Room) s m args below meth c z 4 (MQ below (Qd G z none (ctM G z b r) N) args s 0 0 (zA z)) (ctM G z b τ) N 0 0 122 [] [.double s0, .int s1, .ref (z + 71)] := by
    intro τ s0 s1 hg
    rw [gX11_putSpecial_122] at hg
    obtain ⟨r5, hr5, hg⟩ := ob hg
    refine j_callV C [.int s1, .double s0] (tX11_put hN τ s1 s0 hr5) (Nat.lt_of_lt_of_le (by decide) hN) cq_obj rfl q3_191 q1_6 q3_190 qp_21 q3_188 hd_X11_put rfl dX11_putSpecial_122 rfl (Nat.le_of_ble_eq_true rfl) ⟨(Nat.le_of_ble_eq_true rfl), (Nat.le_of_ble_eq_true rfl)⟩ ⟨(Nat.le_of_ble_eq_true rfl), (Nat.le_of_ble_eq_true rfl)⟩ ?_
    exact j_vret C dX11_putSpecial_125 rfl (by rw [← Option.some.inj hg]) rfl
  have L_101 : ∀ (τ : MS) (s0 : UInt64) (s1 : Int32), gX11_putSpecial_101 σ x0 x1 x2 τ s0 s1 = some r → J G p l e ({ frames := 1, cells := 0, slots := 0, locals := 23 } : Room) s m args below meth c z 4 (MQ below (Qd G z none (ctM G z b r) N) args s 0 0 (zA z)) (ctM G z b τ) N 0 0 101 [] [.double s0, .int s1, .ref (z + 71)] := by
    intro τ s0 s1 hg
    rw [gX11_putSpecial_101] at hg
    obtain ⟨r6, hr6, hg⟩ := ob hg
    refine j_callV C [.int s1, .double s0] (tX11_put hN τ s1 s0 hr6) (Nat.lt_of_lt_of_le (by decide) hN) cq_obj rfl q3_191 q1_6 q3_190 qp_21 q3_188 hd_X11_put rfl dX11_putSpecial_101 rfl (Nat.le_of_ble_eq_true rfl) ⟨(Nat.le_of_ble_eq_true rfl), (Nat.le_of_ble_eq_true rfl)⟩ ⟨(Nat.le_of_ble_eq_true rfl), (Nat.le_of_ble_eq_true rfl)⟩ ?_
    refine j_goto C 125 dX11_putSpecial_104 (by decide) ?_
    exact j_vret C dX11_putSpecial_125 rfl (by rw [← Option.some.inj hg]) rfl
  rw [gX11_putSpecial] at hg
  refine j_iload_n C dX11_putSpecial_0 2 rfl rfl ?_
  by_cases c1_0 : x1 = (0 : Int32)
  · replace hg := (if_pos c1_0).symm.trans hg
    refine j_tableIn (off := 35) C 36 dX11_putSpecial_1 (by rw [c1_0]; decide) (by rw [c1_0]; decide) (by rw [c1_0]; rfl) (by decide) ?_
    refine j_aload_n C dX11_putSpecial_36 0 rfl rfl ?_
    refine j_get (v := .ref (z + 72)) C (Nat.lt_of_lt_of_le (by decide) hN) cq_obj rfl inX11 0 (by decide) q3_103 rfl rfl dX11_putSpecial_37 ?_
    refine j_iload_n C dX11_putSpecial_40 1 rfl rfl ?_
    refine j_dconst0 C dX11_putSpecial_41 ?_
    refine j_dast C hg (Nat.lt_of_lt_of_le (by decide) hN) cq_told dX11_putSpecial_42 (fun hg => j_ct cs_told ?_)
    refine j_aload_n C dX11_putSpecial_43 0 rfl rfl ?_
    refine j_get (v := .ref (z + 73)) C (Nat.lt_of_lt_of_le (by decide) hN) cq_obj rfl inX11 1 (by decide) q3_104 rfl rfl dX11_putSpecial_44 ?_
    refine j_iload_n C dX11_putSpecial_47 1 rfl rfl ?_
    refine j_iconst (v := 1) C dX11_putSpecial_48 (by decide) ?_
    refine j_zast C hg (Nat.lt_of_lt_of_le (by decide) hN) cq_blank dX11_putSpecial_49 (fun hg => j_ct cs_blank ?_)
    refine j_goto C 125 dX11_putSpecial_50 (by decide) ?_
    exact j_vret C dX11_putSpecial_125 rfl (by rw [← Option.some.inj hg]) rfl
  · replace hg := (if_neg c1_0).symm.trans hg
    by_cases c1_1 : x1 = (1 : Int32)
    · replace hg := (if_pos c1_1).symm.trans hg
      refine j_tableIn (off := 52) C 53 dX11_putSpecial_1 (by rw [c1_1]; decide) (by rw [c1_1]; decide) (by rw [c1_1]; rfl) (by decide) ?_
      refine j_aload_n C dX11_putSpecial_53 0 rfl rfl ?_
      refine j_iload_n C dX11_putSpecial_54 1 rfl rfl ?_
      refine j_ldc2d C q3_204 dX11_putSpecial_55 ?_
      obtain ⟨r4, hr4, hg⟩ := ob hg
      refine j_callV C [.int x0, .double (9218868437227405312 : UInt64)] (tX11_put hN σ x0 (9218868437227405312 : UInt64) hr4) (Nat.lt_of_lt_of_le (by decide) hN) cq_obj rfl q3_191 q1_6 q3_190 qp_21 q3_188 hd_X11_put rfl dX11_putSpecial_58 rfl (Nat.le_of_ble_eq_true rfl) ⟨(Nat.le_of_ble_eq_true rfl), (Nat.le_of_ble_eq_true rfl)⟩ ⟨(Nat.le_of_ble_eq_true rfl), (Nat.le_of_ble_eq_true rfl)⟩ ?_
      refine j_goto C 125 dX11_putSpecial_61 (by decide) ?_
      exact j_vret C dX11_putSpecial_125 rfl (by rw [← Option.some.inj hg]) rfl
    · replace hg := (if_neg c1_1).symm.trans hg
      by_cases c1_2 : x1 = (2 : Int32)
      · replace hg := (if_pos c1_2).symm.trans hg
        refine j_tableIn (off := 63) C 64 dX11_putSpecial_1 (by rw [c1_2]; decide) (by rw [c1_2]; decide) (by rw [c1_2]; rfl) (by decide) ?_
        refine j_aload_n C dX11_putSpecial_64 0 rfl rfl ?_
        refine j_iload_n C dX11_putSpecial_65 1 rfl rfl ?_
        refine j_ldc2d C q3_205 dX11_putSpecial_66 ?_
        obtain ⟨r3, hr3, hg⟩ := ob hg
        refine j_callV C [.int x0, .double (18442240474082181120 : UInt64)] (tX11_put hN σ x0 (18442240474082181120 : UInt64) hr3) (Nat.lt_of_lt_of_le (by decide) hN) cq_obj rfl q3_191 q1_6 q3_190 qp_21 q3_188 hd_X11_put rfl dX11_putSpecial_69 rfl (Nat.le_of_ble_eq_true rfl) ⟨(Nat.le_of_ble_eq_true rfl), (Nat.le_of_ble_eq_true rfl)⟩ ⟨(Nat.le_of_ble_eq_true rfl), (Nat.le_of_ble_eq_true rfl)⟩ ?_
        refine j_goto C 125 dX11_putSpecial_72 (by decide) ?_
        exact j_vret C dX11_putSpecial_125 rfl (by rw [← Option.some.inj hg]) rfl
      · replace hg := (if_neg c1_2).symm.trans hg
        by_cases c1_3 : x1 = (3 : Int32)
        · replace hg := (if_pos c1_3).symm.trans hg
          refine j_tableIn (off := 74) C 75 dX11_putSpecial_1 (by rw [c1_3]; decide) (by rw [c1_3]; decide) (by rw [c1_3]; rfl) (by decide) ?_
          refine j_aload_n C dX11_putSpecial_75 0 rfl rfl ?_
          refine j_iload_n C dX11_putSpecial_76 1 rfl rfl ?_
          refine j_ldc2d C q3_206 dX11_putSpecial_77 ?_
          obtain ⟨r2, hr2, hg⟩ := ob hg
          refine j_callV C [.int x0, .double (9223372036854775808 : UInt64)] (tX11_put hN σ x0 (9223372036854775808 : UInt64) hr2) (Nat.lt_of_lt_of_le (by decide) hN) cq_obj rfl q3_191 q1_6 q3_190 qp_21 q3_188 hd_X11_put rfl dX11_putSpecial_80 rfl (Nat.le_of_ble_eq_true rfl) ⟨(Nat.le_of_ble_eq_true rfl), (Nat.le_of_ble_eq_true rfl)⟩ ⟨(Nat.le_of_ble_eq_true rfl), (Nat.le_of_ble_eq_true rfl)⟩ ?_
          refine j_goto C 125 dX11_putSpecial_83 (by decide) ?_
          exact j_vret C dX11_putSpecial_125 rfl (by rw [← Option.some.inj hg]) rfl
        · replace hg := (if_neg c1_3).symm.trans hg
          by_cases c1_4 : x1 = (4 : Int32)
          · replace hg := (if_pos c1_4).symm.trans hg
            refine j_tableIn (off := 85) C 86 dX11_putSpecial_1 (by rw [c1_4]; decide) (by rw [c1_4]; decide) (by rw [c1_4]; rfl) (by decide) ?_
            refine j_aload_n C dX11_putSpecial_86 0 rfl rfl ?_
            refine j_iload_n C dX11_putSpecial_87 1 rfl rfl ?_
            refine j_iload_n C dX11_putSpecial_88 3 rfl rfl ?_
            refine j_if_eq C 98 hg dX11_putSpecial_89 (by decide) (fun hg => ?_) (fun hg => ?_)
            · refine j_ldc2d C q3_208 dX11_putSpecial_98 ?_
              exact j_re [] rfl (L_101 σ (9218868437227405311 : UInt64) x0 hg)
            · refine j_ldc2d C q3_207 dX11_putSpecial_92 ?_
              refine j_goto C 101 dX11_putSpecial_95 (by decide) ?_
              exact j_re [] rfl (L_101 σ (5183643170566569984 : UInt64) x0 hg)
          · replace hg := (if_neg c1_4).symm.trans hg
            have ho : x1.toInt < 0 ∨ 4 < x1.toInt := by
              by_cases ho : x1.toInt < 0 ∨ 4 < x1.toInt
              · exact ho
              · obtain ⟨k, hk, hx⟩ := sw_in ho
                match k, hk, hx with
                | 0, _, hx => exact absurd (Int32.toInt_inj.mp (hx.trans (by decide))) c1_0
                | 1, _, hx => exact absurd (Int32.toInt_inj.mp (hx.trans (by decide))) c1_1
                | 2, _, hx => exact absurd (Int32.toInt_inj.mp (hx.trans (by decide))) c1_2
                | 3, _, hx => exact absurd (Int32.toInt_inj.mp (hx.trans (by decide))) c1_3
                | 4, _, hx => exact absurd (Int32.toInt_inj.mp (hx.trans (by decide))) c1_4
                | k + 5, hk, _ => exact absurd hk (Nat.not_lt.mpr (Nat.le_add_left _ _))
            refine j_tableOut C 107 dX11_putSpecial_1 ho (by decide) ?_
            refine j_aload_n C dX11_putSpecial_107 0 rfl rfl ?_
            refine j_iload_n C dX11_putSpecial_108 1 rfl rfl ?_
            refine j_iload_n C dX11_putSpecial_109 3 rfl rfl ?_
            refine j_if_eq C 119 hg dX11_putSpecial_110 (by decide) (fun hg => ?_) (fun hg => ?_)
            · refine j_ldc2d C q3_210 dX11_putSpecial_119 ?_
              exact j_re [] rfl (L_122 σ (1 : UInt64) x0 hg)
            · refine j_ldc2d C q3_209 dX11_putSpecial_113 ?_
              refine j_goto C 122 dX11_putSpecial_116 (by decide) ?_
              exact j_re [] rfl (L_122 σ (3936146074321813504 : UInt64) x0 hg)

def gX11_set (σ : MS) (x0 : Int32) (x1 : Int32) (x2 : Int32) (x3 : Int32) : Option (MS × Int32) := (gX11_canSet σ x0 x1).bind (fun r1 => if r1 = 0 then (some (σ, (0 : Int32))) else ((gX11_isIn x3 (-1000 : Int32) (900 : Int32)).bind (fun r2 => if r2 = 0 then (some (σ, (0 : Int32))) else ((gX11_picture σ ).bind (fun r3 => (gX11_power x2 x3).bind (fun r4 => if ix x0 12 then ((gX11_brought r4 (m_narrow r3 x0.toNatClampNeg)).bind (fun r5 => (gX11_put r3 (((16 : Int32) * x0) + x1) r5).bind (fun r6 => (gX11_changed r6 ).bind (fun r7 => some (r7.1, r7.2))))) else none))))))
theorem hd_X11_set : yX11_set.cls ≠ "java/lang/invoke/MethodHandle" ∧ yX11_set.cls ≠ "java/lang/invoke/VarHandle" ∧ (parseMethodDescriptor yX11_set.desc).map (fun d => d.parameters.length) = some 4 := by decide +kernel
set_option maxHeartbeats 4000000 in
set_option maxRecDepth 100000 in
theorem tX11_set {G : GG} {l : Launch} {z N : Nat} {b : Nat → va_E} (hN : 86 ≤ N) (σ : MS) (x0 : Int32) (x1 : Int32) (x2 : Int32) (x3 : Int32) {r : MS × Int32} (hg : gX11_set σ x0 x1 x2 x3 = some r) : Ct G l yX11_set cX11_set 5 (some .int) ({ frames := 2, cells := 0, slots := 0, locals := 44 } : Room) [.ref (z + 71), .int x0, .int x1, .int x2, .int x3] z (ctM G z b σ) N (some (.int r.2)) (ctM G z b r.1) N := by
  refine Ct.of (lv := [(0, .ref (z + 71)), (1, .int x0), (2, .int x1), (3, .int x2), (4, .int x3)]) (by decide +kernel) (Nat.le_of_ble_eq_true rfl) rfl (fun p e s m args below meth c C => ?_)
  rw [gX11_set] at hg
  refine j_aload_n C dX11_set_0 0 rfl rfl ?_
  refine j_iload_n C dX11_set_1 1 rfl rfl ?_
  refine j_iload_n C dX11_set_2 2 rfl rfl ?_
  obtain ⟨r1, hr1, hg⟩ := ob hg
  refine j_callV C [.int x0, .int x1] (tX11_canSet hN σ x0 x1 hr1) (Nat.lt_of_lt_of_le (by decide) hN) cq_obj rfl q3_173 q1_6 q3_172 qp_19 q3_170 hd_X11_canSet rfl dX11_set_3 rfl (Nat.le_of_ble_eq_true rfl) ⟨(Nat.le_of_ble_eq_true rfl), (Nat.le_of_ble_eq_true rfl)⟩ ⟨(Nat.le_of_ble_eq_true rfl), (Nat.le_of_ble_eq_true rfl)⟩ ?_
  refine j_if_eq C 23 hg dX11_set_6 (by decide) (fun hg => ?_) (fun hg => ?_)
  · refine j_iconst (v := 0) C dX11_set_23 (by decide) ?_
    exact j_iret C dX11_set_24 (by rw [← Option.some.inj hg]) (by rw [← Option.some.inj hg]) rfl
  · refine j_iload C dX11_set_9 4 rfl ?_
    refine j_sipush (v := (-1000)) C dX11_set_11 (by decide) ?_
    refine j_sipush (v := 900) C dX11_set_14 (by decide) ?_
    obtain ⟨r2, hr2, hg⟩ := ob hg
    refine j_callS C [.int x3, .int (-1000 : Int32), .int (900 : Int32)] (tX11_isIn x3 (-1000 : Int32) (900 : Int32) hr2) q3_176 q1_6 q3_175 q3_174 hd_X11_isIn rfl dX11_set_17 rfl (Nat.le_of_ble_eq_true rfl) ⟨(Nat.le_of_ble_eq_true rfl), (Nat.le_of_ble_eq_true rfl)⟩ ⟨(Nat.le_of_ble_eq_true rfl), (Nat.le_of_ble_eq_true rfl)⟩ ?_
    refine j_if_ne C 25 hg dX11_set_20 (by decide) (fun hg => ?_) (fun hg => ?_)
    · refine j_aload_n C dX11_set_25 0 rfl rfl ?_
      obtain ⟨r3, hr3, hg⟩ := ob hg
      refine j_callV C [] (tX11_picture hN σ  hr3) (Nat.lt_of_lt_of_le (by decide) hN) cq_obj rfl q3_180 q1_6 q3_179 qp_20 q3_177 hd_X11_picture rfl dX11_set_26 rfl (Nat.le_of_ble_eq_true rfl) ⟨(Nat.le_of_ble_eq_true rfl), (Nat.le_of_ble_eq_true rfl)⟩ ⟨(Nat.le_of_ble_eq_true rfl), (Nat.le_of_ble_eq_true rfl)⟩ ?_
      refine j_aload_n C dX11_set_29 0 rfl rfl ?_
      refine j_bipush (v := 16) C dX11_set_30 (by decide) ?_
      refine j_iload_n C dX11_set_32 1 rfl rfl ?_
      refine j_imul C dX11_set_33 ?_
      refine j_iload_n C dX11_set_34 2 rfl rfl ?_
      refine j_iadd C dX11_set_35 ?_
      refine j_iload_n C dX11_set_36 3 rfl rfl ?_
      refine j_iload C dX11_set_37 4 rfl ?_
      obtain ⟨r4, hr4, hg⟩ := ob hg
      refine j_callS C [.int x2, .int x3] (tX11_power x2 x3 hr4) q3_183 q1_6 q3_182 q3_181 hd_X11_power rfl dX11_set_39 rfl (Nat.le_of_ble_eq_true rfl) ⟨(Nat.le_of_ble_eq_true rfl), (Nat.le_of_ble_eq_true rfl)⟩ ⟨(Nat.le_of_ble_eq_true rfl), (Nat.le_of_ble_eq_true rfl)⟩ ?_
      refine j_aload_n C dX11_set_42 0 rfl rfl ?_
      refine j_get (v := .ref (z + 74)) C (Nat.lt_of_lt_of_le (by decide) hN) cq_obj rfl inX11 2 (by decide) q3_105 rfl rfl dX11_set_43 ?_
      refine j_iload_n C dX11_set_46 1 rfl rfl ?_
      refine j_zald C hg (Nat.lt_of_lt_of_le (by decide) hN) cq_narrow dX11_set_47 (fun hg => ?_)
      obtain ⟨r5, hr5, hg⟩ := ob hg
      refine j_callS C [.double r4, .int (m_narrow r3 x0.toNatClampNeg)] (tX11_brought r4 (m_narrow r3 x0.toNatClampNeg) hr5) q3_187 q1_6 q3_186 q3_185 hd_X11_brought rfl dX11_set_48 rfl (Nat.le_of_ble_eq_true rfl) ⟨(Nat.le_of_ble_eq_true rfl), (Nat.le_of_ble_eq_true rfl)⟩ ⟨(Nat.le_of_ble_eq_true rfl), (Nat.le_of_ble_eq_true rfl)⟩ ?_
      obtain ⟨r6, hr6, hg⟩ := ob hg
      refine j_callV C [.int (((16 : Int32) * x0) + x1), .double r5] (tX11_put hN r3 (((16 : Int32) * x0) + x1) r5 hr6) (Nat.lt_of_lt_of_le (by decide) hN) cq_obj rfl q3_191 q1_6 q3_190 qp_21 q3_188 hd_X11_put rfl dX11_set_51 rfl (Nat.le_of_ble_eq_true rfl) ⟨(Nat.le_of_ble_eq_true rfl), (Nat.le_of_ble_eq_true rfl)⟩ ⟨(Nat.le_of_ble_eq_true rfl), (Nat.le_of_ble_eq_true rfl)⟩ ?_
      refine j_aload_n C dX11_set_54 0 rfl rfl ?_
      obtain ⟨r7, hr7, hg⟩ := ob hg
      refine j_callV C [] (tX11_changed hN r6  hr7) (Nat.lt_of_lt_of_le (by decide) hN) cq_obj rfl q3_195 q1_6 q3_194 qp_22 q3_192 hd_X11_changed rfl dX11_set_55 rfl (Nat.le_of_ble_eq_true rfl) ⟨(Nat.le_of_ble_eq_true rfl), (Nat.le_of_ble_eq_true rfl)⟩ ⟨(Nat.le_of_ble_eq_true rfl), (Nat.le_of_ble_eq_true rfl)⟩ ?_
      exact j_iret C dX11_set_58 (by rw [← Option.some.inj hg]) (by rw [← Option.some.inj hg]) rfl
    · refine j_iconst (v := 0) C dX11_set_23 (by decide) ?_
      exact j_iret C dX11_set_24 (by rw [← Option.some.inj hg]) (by rw [← Option.some.inj hg]) rfl

def gX11_special (σ : MS) (x0 : Int32) (x1 : Int32) (x2 : Int32) : Option (MS × Int32) := (gX11_canSet σ x0 x1).bind (fun r1 => if r1 = 0 then (some (σ, (0 : Int32))) else ((gX11_isIn x2 (0 : Int32) (5 : Int32)).bind (fun r2 => if r2 = 0 then (some (σ, (0 : Int32))) else ((gX11_picture σ ).bind (fun r3 => if ix x0 12 then ((gX11_putSpecial r3 (((16 : Int32) * x0) + x1) x2 (m_narrow r3 x0.toNatClampNeg)).bind (fun r4 => (gX11_changed r4 ).bind (fun r5 => some (r5.1, r5.2)))) else none)))))
theorem hd_X11_special : yX11_special.cls ≠ "java/lang/invoke/MethodHandle" ∧ yX11_special.cls ≠ "java/lang/invoke/VarHandle" ∧ (parseMethodDescriptor yX11_special.desc).map (fun d => d.parameters.length) = some 3 := by decide +kernel
set_option maxHeartbeats 4000000 in
set_option maxRecDepth 100000 in
theorem tX11_special {G : GG} {l : Launch} {z N : Nat} {b : Nat → va_E} (hN : 86 ≤ N) (σ : MS) (x0 : Int32) (x1 : Int32) (x2 : Int32) {r : MS × Int32} (hg : gX11_special σ x0 x1 x2 = some r) : Ct G l yX11_special cX11_special 4 (some .int) ({ frames := 2, cells := 0, slots := 0, locals := 46 } : Room) [.ref (z + 71), .int x0, .int x1, .int x2] z (ctM G z b σ) N (some (.int r.2)) (ctM G z b r.1) N := by
  refine Ct.of (lv := [(0, .ref (z + 71)), (1, .int x0), (2, .int x1), (3, .int x2)]) (by decide +kernel) (Nat.le_of_ble_eq_true rfl) rfl (fun p e s m args below meth c C => ?_)
  rw [gX11_special] at hg
  refine j_aload_n C dX11_special_0 0 rfl rfl ?_
  refine j_iload_n C dX11_special_1 1 rfl rfl ?_
  refine j_iload_n C dX11_special_2 2 rfl rfl ?_
  obtain ⟨r1, hr1, hg⟩ := ob hg
  refine j_callV C [.int x0, .int x1] (tX11_canSet hN σ x0 x1 hr1) (Nat.lt_of_lt_of_le (by decide) hN) cq_obj rfl q3_173 q1_6 q3_172 qp_19 q3_170 hd_X11_canSet rfl dX11_special_3 rfl (Nat.le_of_ble_eq_true rfl) ⟨(Nat.le_of_ble_eq_true rfl), (Nat.le_of_ble_eq_true rfl)⟩ ⟨(Nat.le_of_ble_eq_true rfl), (Nat.le_of_ble_eq_true rfl)⟩ ?_
  refine j_if_eq C 18 hg dX11_special_6 (by decide) (fun hg => ?_) (fun hg => ?_)
  · refine j_iconst (v := 0) C dX11_special_18 (by decide) ?_
    exact j_iret C dX11_special_19 (by rw [← Option.some.inj hg]) (by rw [← Option.some.inj hg]) rfl
  · refine j_iload_n C dX11_special_9 3 rfl rfl ?_
    refine j_iconst (v := 0) C dX11_special_10 (by decide) ?_
    refine j_iconst (v := 5) C dX11_special_11 (by decide) ?_
    obtain ⟨r2, hr2, hg⟩ := ob hg
    refine j_callS C [.int x2, .int (0 : Int32), .int (5 : Int32)] (tX11_isIn x2 (0 : Int32) (5 : Int32) hr2) q3_176 q1_6 q3_175 q3_174 hd_X11_isIn rfl dX11_special_12 rfl (Nat.le_of_ble_eq_true rfl) ⟨(Nat.le_of_ble_eq_true rfl), (Nat.le_of_ble_eq_true rfl)⟩ ⟨(Nat.le_of_ble_eq_true rfl), (Nat.le_of_ble_eq_true rfl)⟩ ?_
    refine j_if_ne C 20 hg dX11_special_15 (by decide) (fun hg => ?_) (fun hg => ?_)
    · refine j_aload_n C dX11_special_20 0 rfl rfl ?_
      obtain ⟨r3, hr3, hg⟩ := ob hg
      refine j_callV C [] (tX11_picture hN σ  hr3) (Nat.lt_of_lt_of_le (by decide) hN) cq_obj rfl q3_180 q1_6 q3_179 qp_20 q3_177 hd_X11_picture rfl dX11_special_21 rfl (Nat.le_of_ble_eq_true rfl) ⟨(Nat.le_of_ble_eq_true rfl), (Nat.le_of_ble_eq_true rfl)⟩ ⟨(Nat.le_of_ble_eq_true rfl), (Nat.le_of_ble_eq_true rfl)⟩ ?_
      refine j_aload_n C dX11_special_24 0 rfl rfl ?_
      refine j_bipush (v := 16) C dX11_special_25 (by decide) ?_
      refine j_iload_n C dX11_special_27 1 rfl rfl ?_
      refine j_imul C dX11_special_28 ?_
      refine j_iload_n C dX11_special_29 2 rfl rfl ?_
      refine j_iadd C dX11_special_30 ?_
      refine j_iload_n C dX11_special_31 3 rfl rfl ?_
      refine j_aload_n C dX11_special_32 0 rfl rfl ?_
      refine j_get (v := .ref (z + 74)) C (Nat.lt_of_lt_of_le (by decide) hN) cq_obj rfl inX11 2 (by decide) q3_105 rfl rfl dX11_special_33 ?_
      refine j_iload_n C dX11_special_36 1 rfl rfl ?_
      refine j_zald C hg (Nat.lt_of_lt_of_le (by decide) hN) cq_narrow dX11_special_37 (fun hg => ?_)
      obtain ⟨r4, hr4, hg⟩ := ob hg
      refine j_callV C [.int (((16 : Int32) * x0) + x1), .int x2, .int (m_narrow r3 x0.toNatClampNeg)] (tX11_putSpecial hN r3 (((16 : Int32) * x0) + x1) x2 (m_narrow r3 x0.toNatClampNeg) hr4) (Nat.lt_of_lt_of_le (by decide) hN) cq_obj rfl q3_203 q1_6 q3_202 qp_23 q3_200 hd_X11_putSpecial rfl dX11_special_38 rfl (Nat.le_of_ble_eq_true rfl) ⟨(Nat.le_of_ble_eq_true rfl), (Nat.le_of_ble_eq_true rfl)⟩ ⟨(Nat.le_of_ble_eq_true rfl), (Nat.le_of_ble_eq_true rfl)⟩ ?_
      refine j_aload_n C dX11_special_41 0 rfl rfl ?_
      obtain ⟨r5, hr5, hg⟩ := ob hg
      refine j_callV C [] (tX11_changed hN r4  hr5) (Nat.lt_of_lt_of_le (by decide) hN) cq_obj rfl q3_195 q1_6 q3_194 qp_22 q3_192 hd_X11_changed rfl dX11_special_42 rfl (Nat.le_of_ble_eq_true rfl) ⟨(Nat.le_of_ble_eq_true rfl), (Nat.le_of_ble_eq_true rfl)⟩ ⟨(Nat.le_of_ble_eq_true rfl), (Nat.le_of_ble_eq_true rfl)⟩ ?_
      exact j_iret C dX11_special_45 (by rw [← Option.some.inj hg]) (by rw [← Option.some.inj hg]) rfl
    · refine j_iconst (v := 0) C dX11_special_18 (by decide) ?_
      exact j_iret C dX11_special_19 (by rw [← Option.some.inj hg]) (by rw [← Option.some.inj hg]) rfl

def gX11_constant (σ : MS) (x0 : Int32) (x1 : Int32) (x2 : Int32) : Option (MS × Int32) := (gX11_isIn x0 (0 : Int32) (7 : Int32)).bind (fun r1 => if r1 = 0 then (some (σ, (0 : Int32))) else ((gX11_isIn x2 (-1000 : Int32) (900 : Int32)).bind (fun r2 => if r2 = 0 then (some (σ, (0 : Int32))) else ((gX11_picture σ ).bind (fun r3 => (gX11_power x1 x2).bind (fun r4 => (gX11_put r3 ((192 : Int32) + x0) r4).bind (fun r5 => (gX11_changed r5 ).bind (fun r6 => some (r6.1, r6.2)))))))))
theorem hd_X11_constant : yX11_constant.cls ≠ "java/lang/invoke/MethodHandle" ∧ yX11_constant.cls ≠ "java/lang/invoke/VarHandle" ∧ (parseMethodDescriptor yX11_constant.desc).map (fun d => d.parameters.length) = some 3 := by decide +kernel
set_option maxHeartbeats 4000000 in
set_option maxRecDepth 100000 in
theorem tX11_constant {G : GG} {l : Launch} {z N : Nat} {b : Nat → va_E} (hN : 86 ≤ N) (σ : MS) (x0 : Int32) (x1 : Int32) (x2 : Int32) {r : MS × Int32} (hg : gX11_constant σ x0 x1 x2 = some r) : Ct G l yX11_constant cX11_constant 4 (some .int) ({ frames := 1, cells := 0, slots := 0, locals := 24 } : Room) [.ref (z + 71), .int x0, .int x1, .int x2] z (ctM G z b σ) N (some (.int r.2)) (ctM G z b r.1) N := by
  refine Ct.of (lv := [(0, .ref (z + 71)), (1, .int x0), (2, .int x1), (3, .int x2)]) (by decide +kernel) (Nat.le_of_ble_eq_true rfl) rfl (fun p e s m args below meth c C => ?_)
  rw [gX11_constant] at hg
  refine j_iload_n C dX11_constant_0 1 rfl rfl ?_
  refine j_iconst (v := 0) C dX11_constant_1 (by decide) ?_
  refine j_bipush (v := 7) C dX11_constant_2 (by decide) ?_
  obtain ⟨r1, hr1, hg⟩ := ob hg
  refine j_callS C [.int x0, .int (0 : Int32), .int (7 : Int32)] (tX11_isIn x0 (0 : Int32) (7 : Int32) hr1) q3_176 q1_6 q3_175 q3_174 hd_X11_isIn rfl dX11_constant_4 rfl (Nat.le_of_ble_eq_true rfl) ⟨(Nat.le_of_ble_eq_true rfl), (Nat.le_of_ble_eq_true rfl)⟩ ⟨(Nat.le_of_ble_eq_true rfl), (Nat.le_of_ble_eq_true rfl)⟩ ?_
  refine j_if_eq C 23 hg dX11_constant_7 (by decide) (fun hg => ?_) (fun hg => ?_)
  · refine j_iconst (v := 0) C dX11_constant_23 (by decide) ?_
    exact j_iret C dX11_constant_24 (by rw [← Option.some.inj hg]) (by rw [← Option.some.inj hg]) rfl
  · refine j_iload_n C dX11_constant_10 3 rfl rfl ?_
    refine j_sipush (v := (-1000)) C dX11_constant_11 (by decide) ?_
    refine j_sipush (v := 900) C dX11_constant_14 (by decide) ?_
    obtain ⟨r2, hr2, hg⟩ := ob hg
    refine j_callS C [.int x2, .int (-1000 : Int32), .int (900 : Int32)] (tX11_isIn x2 (-1000 : Int32) (900 : Int32) hr2) q3_176 q1_6 q3_175 q3_174 hd_X11_isIn rfl dX11_constant_17 rfl (Nat.le_of_ble_eq_true rfl) ⟨(Nat.le_of_ble_eq_true rfl), (Nat.le_of_ble_eq_true rfl)⟩ ⟨(Nat.le_of_ble_eq_true rfl), (Nat.le_of_ble_eq_true rfl)⟩ ?_
    refine j_if_ne C 25 hg dX11_constant_20 (by decide) (fun hg => ?_) (fun hg => ?_)
    · refine j_aload_n C dX11_constant_25 0 rfl rfl ?_
      obtain ⟨r3, hr3, hg⟩ := ob hg
      refine j_callV C [] (tX11_picture hN σ  hr3) (Nat.lt_of_lt_of_le (by decide) hN) cq_obj rfl q3_180 q1_6 q3_179 qp_20 q3_177 hd_X11_picture rfl dX11_constant_26 rfl (Nat.le_of_ble_eq_true rfl) ⟨(Nat.le_of_ble_eq_true rfl), (Nat.le_of_ble_eq_true rfl)⟩ ⟨(Nat.le_of_ble_eq_true rfl), (Nat.le_of_ble_eq_true rfl)⟩ ?_
      refine j_aload_n C dX11_constant_29 0 rfl rfl ?_
      refine j_sipush (v := 192) C dX11_constant_30 (by decide) ?_
      refine j_iload_n C dX11_constant_33 1 rfl rfl ?_
      refine j_iadd C dX11_constant_34 ?_
      refine j_iload_n C dX11_constant_35 2 rfl rfl ?_
      refine j_iload_n C dX11_constant_36 3 rfl rfl ?_
      obtain ⟨r4, hr4, hg⟩ := ob hg
      refine j_callS C [.int x1, .int x2] (tX11_power x1 x2 hr4) q3_183 q1_6 q3_182 q3_181 hd_X11_power rfl dX11_constant_37 rfl (Nat.le_of_ble_eq_true rfl) ⟨(Nat.le_of_ble_eq_true rfl), (Nat.le_of_ble_eq_true rfl)⟩ ⟨(Nat.le_of_ble_eq_true rfl), (Nat.le_of_ble_eq_true rfl)⟩ ?_
      obtain ⟨r5, hr5, hg⟩ := ob hg
      refine j_callV C [.int ((192 : Int32) + x0), .double r4] (tX11_put hN r3 ((192 : Int32) + x0) r4 hr5) (Nat.lt_of_lt_of_le (by decide) hN) cq_obj rfl q3_191 q1_6 q3_190 qp_21 q3_188 hd_X11_put rfl dX11_constant_40 rfl (Nat.le_of_ble_eq_true rfl) ⟨(Nat.le_of_ble_eq_true rfl), (Nat.le_of_ble_eq_true rfl)⟩ ⟨(Nat.le_of_ble_eq_true rfl), (Nat.le_of_ble_eq_true rfl)⟩ ?_
      refine j_aload_n C dX11_constant_43 0 rfl rfl ?_
      obtain ⟨r6, hr6, hg⟩ := ob hg
      refine j_callV C [] (tX11_changed hN r5  hr6) (Nat.lt_of_lt_of_le (by decide) hN) cq_obj rfl q3_195 q1_6 q3_194 qp_22 q3_192 hd_X11_changed rfl dX11_constant_44 rfl (Nat.le_of_ble_eq_true rfl) ⟨(Nat.le_of_ble_eq_true rfl), (Nat.le_of_ble_eq_true rfl)⟩ ⟨(Nat.le_of_ble_eq_true rfl), (Nat.le_of_ble_eq_true rfl)⟩ ?_
      exact j_iret C dX11_constant_47 (by rw [← Option.some.inj hg]) (by rw [← Option.some.inj hg]) rfl
    · refine j_iconst (v := 0) C dX11_constant_23 (by decide) ?_
      exact j_iret C dX11_constant_24 (by rw [← Option.some.inj hg]) (by rw [← Option.some.inj hg]) rfl

def gX11_constantSpecial (σ : MS) (x0 : Int32) (x1 : Int32) : Option (MS × Int32) := (gX11_isIn x0 (0 : Int32) (7 : Int32)).bind (fun r1 => if r1 = 0 then (some (σ, (0 : Int32))) else ((gX11_isIn x1 (0 : Int32) (5 : Int32)).bind (fun r2 => if r2 = 0 then (some (σ, (0 : Int32))) else ((gX11_picture σ ).bind (fun r3 => (gX11_putSpecial r3 ((192 : Int32) + x0) x1 (0 : Int32)).bind (fun r4 => (gX11_changed r4 ).bind (fun r5 => some (r5.1, r5.2))))))))
theorem hd_X11_constantSpecial : yX11_constantSpecial.cls ≠ "java/lang/invoke/MethodHandle" ∧ yX11_constantSpecial.cls ≠ "java/lang/invoke/VarHandle" ∧ (parseMethodDescriptor yX11_constantSpecial.desc).map (fun d => d.parameters.length) = some 2 := by decide +kernel
set_option maxHeartbeats 4000000 in
set_option maxRecDepth 100000 in
theorem tX11_constantSpecial {G : GG} {l : Launch} {z N : Nat} {b : Nat → va_E} (hN : 86 ≤ N) (σ : MS) (x0 : Int32) (x1 : Int32) {r : MS × Int32} (hg : gX11_constantSpecial σ x0 x1 = some r) : Ct G l yX11_constantSpecial cX11_constantSpecial 3 (some .int) ({ frames := 2, cells := 0, slots := 0, locals := 46 } : Room) [.ref (z + 71), .int x0, .int x1] z (ctM G z b σ) N (some (.int r.2)) (ctM G z b r.1) N := by
  refine Ct.of (lv := [(0, .ref (z + 71)), (1, .int x0), (2, .int x1)]) (by decide +kernel) (Nat.le_of_ble_eq_true rfl) rfl (fun p e s m args below meth c C => ?_)
  rw [gX11_constantSpecial] at hg
  refine j_iload_n C dX11_constantSpecial_0 1 rfl rfl ?_
  refine j_iconst (v := 0) C dX11_constantSpecial_1 (by decide) ?_
  refine j_bipush (v := 7) C dX11_constantSpecial_2 (by decide) ?_
  obtain ⟨r1, hr1, hg⟩ := ob hg
  refine j_callS C [.int x0, .int (0 : Int32), .int (7 : Int32)] (tX11_isIn x0 (0 : Int32) (7 : Int32) hr1) q3_176 q1_6 q3_175 q3_174 hd_X11_isIn rfl dX11_constantSpecial_4 rfl (Nat.le_of_ble_eq_true rfl) ⟨(Nat.le_of_ble_eq_true rfl), (Nat.le_of_ble_eq_true rfl)⟩ ⟨(Nat.le_of_ble_eq_true rfl), (Nat.le_of_ble_eq_true rfl)⟩ ?_
  refine j_if_eq C 19 hg dX11_constantSpecial_7 (by decide) (fun hg => ?_) (fun hg => ?_)
  · refine j_iconst (v := 0) C dX11_constantSpecial_19 (by decide) ?_
    exact j_iret C dX11_constantSpecial_20 (by rw [← Option.some.inj hg]) (by rw [← Option.some.inj hg]) rfl
  · refine j_iload_n C dX11_constantSpecial_10 2 rfl rfl ?_
    refine j_iconst (v := 0) C dX11_constantSpecial_11 (by decide) ?_
    refine j_iconst (v := 5) C dX11_constantSpecial_12 (by decide) ?_
    obtain ⟨r2, hr2, hg⟩ := ob hg
    refine j_callS C [.int x1, .int (0 : Int32), .int (5 : Int32)] (tX11_isIn x1 (0 : Int32) (5 : Int32) hr2) q3_176 q1_6 q3_175 q3_174 hd_X11_isIn rfl dX11_constantSpecial_13 rfl (Nat.le_of_ble_eq_true rfl) ⟨(Nat.le_of_ble_eq_true rfl), (Nat.le_of_ble_eq_true rfl)⟩ ⟨(Nat.le_of_ble_eq_true rfl), (Nat.le_of_ble_eq_true rfl)⟩ ?_
    refine j_if_ne C 21 hg dX11_constantSpecial_16 (by decide) (fun hg => ?_) (fun hg => ?_)
    · refine j_aload_n C dX11_constantSpecial_21 0 rfl rfl ?_
      obtain ⟨r3, hr3, hg⟩ := ob hg
      refine j_callV C [] (tX11_picture hN σ  hr3) (Nat.lt_of_lt_of_le (by decide) hN) cq_obj rfl q3_180 q1_6 q3_179 qp_20 q3_177 hd_X11_picture rfl dX11_constantSpecial_22 rfl (Nat.le_of_ble_eq_true rfl) ⟨(Nat.le_of_ble_eq_true rfl), (Nat.le_of_ble_eq_true rfl)⟩ ⟨(Nat.le_of_ble_eq_true rfl), (Nat.le_of_ble_eq_true rfl)⟩ ?_
      refine j_aload_n C dX11_constantSpecial_25 0 rfl rfl ?_
      refine j_sipush (v := 192) C dX11_constantSpecial_26 (by decide) ?_
      refine j_iload_n C dX11_constantSpecial_29 1 rfl rfl ?_
      refine j_iadd C dX11_constantSpecial_30 ?_
      refine j_iload_n C dX11_constantSpecial_31 2 rfl rfl ?_
      refine j_iconst (v := 0) C dX11_constantSpecial_32 (by decide) ?_
      obtain ⟨r4, hr4, hg⟩ := ob hg
      refine j_callV C [.int ((192 : Int32) + x0), .int x1, .int (0 : Int32)] (tX11_putSpecial hN r3 ((192 : Int32) + x0) x1 (0 : Int32) hr4) (Nat.lt_of_lt_of_le (by decide) hN) cq_obj rfl q3_203 q1_6 q3_202 qp_23 q3_200 hd_X11_putSpecial rfl dX11_constantSpecial_33 rfl (Nat.le_of_ble_eq_true rfl) ⟨(Nat.le_of_ble_eq_true rfl), (Nat.le_of_ble_eq_true rfl)⟩ ⟨(Nat.le_of_ble_eq_true rfl), (Nat.le_of_ble_eq_true rfl)⟩ ?_
      refine j_aload_n C dX11_constantSpecial_36 0 rfl rfl ?_
      obtain ⟨r5, hr5, hg⟩ := ob hg
      refine j_callV C [] (tX11_changed hN r4  hr5) (Nat.lt_of_lt_of_le (by decide) hN) cq_obj rfl q3_195 q1_6 q3_194 qp_22 q3_192 hd_X11_changed rfl dX11_constantSpecial_37 rfl (Nat.le_of_ble_eq_true rfl) ⟨(Nat.le_of_ble_eq_true rfl), (Nat.le_of_ble_eq_true rfl)⟩ ⟨(Nat.le_of_ble_eq_true rfl), (Nat.le_of_ble_eq_true rfl)⟩ ?_
      exact j_iret C dX11_constantSpecial_40 (by rw [← Option.some.inj hg]) (by rw [← Option.some.inj hg]) rfl
    · refine j_iconst (v := 0) C dX11_constantSpecial_19 (by decide) ?_
      exact j_iret C dX11_constantSpecial_20 (by rw [← Option.some.inj hg]) (by rw [← Option.some.inj hg]) rfl

def gX11_formula_71 (σ : MS) (x0 : Int32) (x1 : Int32) (x2 : Int32) (x3 : Int32) (x4 : Int32) (τ : MS) (s0 : Int32) : Option (MS × Int32) := if s0 = 0 then (some (τ, (0 : Int32))) else ((gX11_picture τ ).bind (fun r7 => if ix ((4 : Int32) * x0) 48 then (if ix (((4 : Int32) * x0) + (1 : Int32)) 48 then (if ix (((4 : Int32) * x0) + (2 : Int32)) 48 then (if ix (((4 : Int32) * x0) + (3 : Int32)) 48 then ((gX11_changed (m_made_ (m_made_ (m_made_ (m_made_ r7 (upd (m_made r7) ((4 : Int32) * x0).toNatClampNeg x1)) (upd (m_made (m_made_ r7 (upd (m_made r7) ((4 : Int32) * x0).toNatClampNeg x1))) (((4 : Int32) * x0) + (1 : Int32)).toNatClampNeg x2)) (upd (m_made (m_made_ (m_made_ r7 (upd (m_made r7) ((4 : Int32) * x0).toNatClampNeg x1)) (upd (m_made (m_made_ r7 (upd (m_made r7) ((4 : Int32) * x0).toNatClampNeg x1))) (((4 : Int32) * x0) + (1 : Int32)).toNatClampNeg x2))) (((4 : Int32) * x0) + (2 : Int32)).toNatClampNeg x3)) (upd (m_made (m_made_ (m_made_ (m_made_ r7 (upd (m_made r7) ((4 : Int32) * x0).toNatClampNeg x1)) (upd (m_made (m_made_ r7 (upd (m_made r7) ((4 : Int32) * x0).toNatClampNeg x1))) (((4 : Int32) * x0) + (1 : Int32)).toNatClampNeg x2)) (upd (m_made (m_made_ (m_made_ r7 (upd (m_made r7) ((4 : Int32) * x0).toNatClampNeg x1)) (upd (m_made (m_made_ r7 (upd (m_made r7) ((4 : Int32) * x0).toNatClampNeg x1))) (((4 : Int32) * x0) + (1 : Int32)).toNatClampNeg x2))) (((4 : Int32) * x0) + (2 : Int32)).toNatClampNeg x3))) (((4 : Int32) * x0) + (3 : Int32)).toNatClampNeg x4)) ).bind (fun r8 => some (r8.1, r8.2))) else none) else none) else none) else none))
def gX11_formula_70 (σ : MS) (x0 : Int32) (x1 : Int32) (x2 : Int32) (x3 : Int32) (x4 : Int32) (τ : MS) : Option (MS × Int32) := gX11_formula_71 σ x0 x1 x2 x3 x4 τ (0 : Int32)
def gX11_formula_55 (σ : MS) (x0 : Int32) (x1 : Int32) (x2 : Int32) (x3 : Int32) (x4 : Int32) (τ : MS) : Option (MS × Int32) := (gX11_isIn x4 (0 : Int32) (11 : Int32)).bind (fun r6 => if r6 = 0 then (gX11_formula_70 σ x0 x1 x2 x3 x4 τ) else (gX11_formula_71 σ x0 x1 x2 x3 x4 τ (1 : Int32)))
def gX11_formula (σ : MS) (x0 : Int32) (x1 : Int32) (x2 : Int32) (x3 : Int32) (x4 : Int32) : Option (MS × Int32) := (gX11_isIn x0 (0 : Int32) (11 : Int32)).bind (fun r1 => if r1 = 0 then (gX11_formula_70 σ x0 x1 x2 x3 x4 σ) else ((gX11_isIn x1 (0 : Int32) (26 : Int32)).bind (fun r2 => if r2 = 0 then (gX11_formula_70 σ x0 x1 x2 x3 x4 σ) else ((gX11_isIn x2 (0 : Int32) (x0 - (1 : Int32))).bind (fun r3 => if r3 = 0 then (gX11_formula_70 σ x0 x1 x2 x3 x4 σ) else ((gX11_isIn x3 (0 : Int32) (x0 - (1 : Int32))).bind (fun r4 => if r4 = 0 then ((gX11_isIn x3 (16 : Int32) (23 : Int32)).bind (fun r5 => if r5 = 0 then (gX11_formula_70 σ x0 x1 x2 x3 x4 σ) else (gX11_formula_55 σ x0 x1 x2 x3 x4 σ))) else (gX11_formula_55 σ x0 x1 x2 x3 x4 σ))))))))
theorem hd_X11_formula : yX11_formula.cls ≠ "java/lang/invoke/MethodHandle" ∧ yX11_formula.cls ≠ "java/lang/invoke/VarHandle" ∧ (parseMethodDescriptor yX11_formula.desc).map (fun d => d.parameters.length) = some 5 := by decide +kernel
set_option maxHeartbeats 4000000 in
set_option maxRecDepth 100000 in
theorem tX11_formula {G : GG} {l : Launch} {z N : Nat} {b : Nat → va_E} (hN : 86 ≤ N) (σ : MS) (x0 : Int32) (x1 : Int32) (x2 : Int32) (x3 : Int32) (x4 : Int32) {r : MS × Int32} (hg : gX11_formula σ x0 x1 x2 x3 x4 = some r) : Ct G l yX11_formula cX11_formula 7 (some .int) ({ frames := 1, cells := 0, slots := 0, locals := 22 } : Room) [.ref (z + 71), .int x0, .int x1, .int x2, .int x3, .int x4] z (ctM G z b σ) N (some (.int r.2)) (ctM G z b r.1) N := by
  refine Ct.of (lv := [(0, .ref (z + 71)), (1, .int x0), (2, .int x1), (3, .int x2), (4, .int x3), (5, .int x4)]) (by decide +kernel) (Nat.le_of_ble_eq_true rfl) rfl (fun p e s m args below meth c C => ?_)
  have L_71 : ∀ (τ : MS) (s0 : Int32), gX11_formula_71 σ x0 x1 x2 x3 x4 τ s0 = some r → J G p l e ({ frames := 1, cells := 0, slots := 0, locals := 22 } : Room) s m args below meth c z 7 (MQ below (Qd G z (some (.int r.2)) (ctM G z b r.1) N) args s 0 0 (zA z)) (ctM G z b τ) N 0 0 71 [(0, .ref (z + 71)), (1, .int x0), (2, .int x1), (3, .int x2), (4, .int x3), (5, .int x4)] [.int s0] := by
    intro τ s0 hg
    rw [gX11_formula_71] at hg
    refine j_istore C [(6, .int s0), (0, .ref (z + 71)), (1, .int x0), (2, .int x1), (3, .int x2), (4, .int x3), (5, .int x4)] dX11_formula_71 (by decide) rfl ?_
    refine j_iload C dX11_formula_73 0 rfl ?_
    refine j_if_ne C 80 hg dX11_formula_75 (by decide) (fun hg => ?_) (fun hg => ?_)
    · refine j_aload_n C dX11_formula_80 1 rfl rfl ?_
      obtain ⟨r7, hr7, hg⟩ := ob hg
      refine j_callV C [] (tX11_picture hN τ  hr7) (Nat.lt_of_lt_of_le (by decide) hN) cq_obj rfl q3_180 q1_6 q3_179 qp_20 q3_177 hd_X11_picture rfl dX11_formula_81 rfl (Nat.le_of_ble_eq_true rfl) ⟨(Nat.le_of_ble_eq_true rfl), (Nat.le_of_ble_eq_true rfl)⟩ ⟨(Nat.le_of_ble_eq_true rfl), (Nat.le_of_ble_eq_true rfl)⟩ ?_
      refine j_aload_n C dX11_formula_84 1 rfl rfl ?_
      refine j_get (v := .ref (z + 75)) C (Nat.lt_of_lt_of_le (by decide) hN) cq_obj rfl inX11 3 (by decide) q3_106 rfl rfl dX11_formula_85 ?_
      refine j_iconst (v := 4) C dX11_formula_88 (by decide) ?_
      refine j_iload_n C dX11_formula_89 2 rfl rfl ?_
      refine j_imul C dX11_formula_90 ?_
      refine j_iload_n C dX11_formula_91 3 rfl rfl ?_
      refine j_iast C hg (Nat.lt_of_lt_of_le (by decide) hN) cq_made dX11_formula_92 (fun hg => j_ct cs_made ?_)
      refine j_aload_n C dX11_formula_93 1 rfl rfl ?_
      refine j_get (v := .ref (z + 75)) C (Nat.lt_of_lt_of_le (by decide) hN) cq_obj rfl inX11 3 (by decide) q3_106 rfl rfl dX11_formula_94 ?_
      refine j_iconst (v := 4) C dX11_formula_97 (by decide) ?_
      refine j_iload_n C dX11_formula_98 2 rfl rfl ?_
      refine j_imul C dX11_formula_99 ?_
      refine j_iconst (v := 1) C dX11_formula_100 (by decide) ?_
      refine j_iadd C dX11_formula_101 ?_
      refine j_iload_n C dX11_formula_102 4 rfl rfl ?_
      refine j_iast C hg (Nat.lt_of_lt_of_le (by decide) hN) cq_made dX11_formula_103 (fun hg => j_ct cs_made ?_)
      refine j_aload_n C dX11_formula_104 1 rfl rfl ?_
      refine j_get (v := .ref (z + 75)) C (Nat.lt_of_lt_of_le (by decide) hN) cq_obj rfl inX11 3 (by decide) q3_106 rfl rfl dX11_formula_105 ?_
      refine j_iconst (v := 4) C dX11_formula_108 (by decide) ?_
      refine j_iload_n C dX11_formula_109 2 rfl rfl ?_
      refine j_imul C dX11_formula_110 ?_
      refine j_iconst (v := 2) C dX11_formula_111 (by decide) ?_
      refine j_iadd C dX11_formula_112 ?_
      refine j_iload C dX11_formula_113 5 rfl ?_
      refine j_iast C hg (Nat.lt_of_lt_of_le (by decide) hN) cq_made dX11_formula_115 (fun hg => j_ct cs_made ?_)
      refine j_aload_n C dX11_formula_116 1 rfl rfl ?_
      refine j_get (v := .ref (z + 75)) C (Nat.lt_of_lt_of_le (by decide) hN) cq_obj rfl inX11 3 (by decide) q3_106 rfl rfl dX11_formula_117 ?_
      refine j_iconst (v := 4) C dX11_formula_120 (by decide) ?_
      refine j_iload_n C dX11_formula_121 2 rfl rfl ?_
      refine j_imul C dX11_formula_122 ?_
      refine j_iconst (v := 3) C dX11_formula_123 (by decide) ?_
      refine j_iadd C dX11_formula_124 ?_
      refine j_iload C dX11_formula_125 6 rfl ?_
      refine j_iast C hg (Nat.lt_of_lt_of_le (by decide) hN) cq_made dX11_formula_127 (fun hg => j_ct cs_made ?_)
      refine j_aload_n C dX11_formula_128 1 rfl rfl ?_
      obtain ⟨r8, hr8, hg⟩ := ob hg
      refine j_callV C [] (tX11_changed hN (m_made_ (m_made_ (m_made_ (m_made_ r7 (upd (m_made r7) ((4 : Int32) * x0).toNatClampNeg x1)) (upd (m_made (m_made_ r7 (upd (m_made r7) ((4 : Int32) * x0).toNatClampNeg x1))) (((4 : Int32) * x0) + (1 : Int32)).toNatClampNeg x2)) (upd (m_made (m_made_ (m_made_ r7 (upd (m_made r7) ((4 : Int32) * x0).toNatClampNeg x1)) (upd (m_made (m_made_ r7 (upd (m_made r7) ((4 : Int32) * x0).toNatClampNeg x1))) (((4 : Int32) * x0) + (1 : Int32)).toNatClampNeg x2))) (((4 : Int32) * x0) + (2 : Int32)).toNatClampNeg x3)) (upd (m_made (m_made_ (m_made_ (m_made_ r7 (upd (m_made r7) ((4 : Int32) * x0).toNatClampNeg x1)) (upd (m_made (m_made_ r7 (upd (m_made r7) ((4 : Int32) * x0).toNatClampNeg x1))) (((4 : Int32) * x0) + (1 : Int32)).toNatClampNeg x2)) (upd (m_made (m_made_ (m_made_ r7 (upd (m_made r7) ((4 : Int32) * x0).toNatClampNeg x1)) (upd (m_made (m_made_ r7 (upd (m_made r7) ((4 : Int32) * x0).toNatClampNeg x1))) (((4 : Int32) * x0) + (1 : Int32)).toNatClampNeg x2))) (((4 : Int32) * x0) + (2 : Int32)).toNatClampNeg x3))) (((4 : Int32) * x0) + (3 : Int32)).toNatClampNeg x4))  hr8) (Nat.lt_of_lt_of_le (by decide) hN) cq_obj rfl q3_195 q1_6 q3_194 qp_22 q3_192 hd_X11_changed rfl dX11_formula_129 rfl (Nat.le_of_ble_eq_true rfl) ⟨(Nat.le_of_ble_eq_true rfl), (Nat.le_of_ble_eq_true rfl)⟩ ⟨(Nat.le_of_ble_eq_true rfl), (Nat.le_of_ble_eq_true rfl)⟩ ?_
      exact j_iret C dX11_formula_132 (by rw [← Option.some.inj hg]) (by rw [← Option.some.inj hg]) rfl
    · refine j_iconst (v := 0) C dX11_formula_78 (by decide) ?_
      exact j_iret C dX11_formula_79 (by rw [← Option.some.inj hg]) (by rw [← Option.some.inj hg]) rfl
  have L_70 : ∀ (τ : MS), gX11_formula_70 σ x0 x1 x2 x3 x4 τ = some r → J G p l e ({ frames := 1, cells := 0, slots := 0, locals := 22 } : Room) s m args below meth c z 7 (MQ below (Qd G z (some (.int r.2)) (ctM G z b r.1) N) args s 0 0 (zA z)) (ctM G z b τ) N 0 0 70 [(0, .ref (z + 71)), (1, .int x0), (2, .int x1), (3, .int x2), (4, .int x3), (5, .int x4)] [] := by
    intro τ hg
    rw [gX11_formula_70] at hg
    refine j_iconst (v := 0) C dX11_formula_70 (by decide) ?_
    exact L_71 τ (0 : Int32) hg
  have L_55 : ∀ (τ : MS), gX11_formula_55 σ x0 x1 x2 x3 x4 τ = some r → J G p l e ({ frames := 1, cells := 0, slots := 0, locals := 22 } : Room) s m args below meth c z 7 (MQ below (Qd G z (some (.int r.2)) (ctM G z b r.1) N) args s 0 0 (zA z)) (ctM G z b τ) N 0 0 55 [(0, .ref (z + 71)), (1, .int x0), (2, .int x1), (3, .int x2), (4, .int x3), (5, .int x4)] [] := by
    intro τ hg
    rw [gX11_formula_55] at hg
    refine j_iload C dX11_formula_55 5 rfl ?_
    refine j_iconst (v := 0) C dX11_formula_57 (by decide) ?_
    refine j_bipush (v := 11) C dX11_formula_58 (by decide) ?_
    obtain ⟨r6, hr6, hg⟩ := ob hg
    refine j_callS C [.int x4, .int (0 : Int32), .int (11 : Int32)] (tX11_isIn x4 (0 : Int32) (11 : Int32) hr6) q3_176 q1_6 q3_175 q3_174 hd_X11_isIn rfl dX11_formula_60 rfl (Nat.le_of_ble_eq_true rfl) ⟨(Nat.le_of_ble_eq_true rfl), (Nat.le_of_ble_eq_true rfl)⟩ ⟨(Nat.le_of_ble_eq_true rfl), (Nat.le_of_ble_eq_true rfl)⟩ ?_
    refine j_if_eq C 70 hg dX11_formula_63 (by decide) (fun hg => ?_) (fun hg => ?_)
    · exact L_70 τ hg
    · refine j_iconst (v := 1) C dX11_formula_66 (by decide) ?_
      refine j_goto C 71 dX11_formula_67 (by decide) ?_
      exact L_71 τ (1 : Int32) hg
  rw [gX11_formula] at hg
  refine j_iload_n C dX11_formula_0 1 rfl rfl ?_
  refine j_iconst (v := 0) C dX11_formula_1 (by decide) ?_
  refine j_bipush (v := 11) C dX11_formula_2 (by decide) ?_
  obtain ⟨r1, hr1, hg⟩ := ob hg
  refine j_callS C [.int x0, .int (0 : Int32), .int (11 : Int32)] (tX11_isIn x0 (0 : Int32) (11 : Int32) hr1) q3_176 q1_6 q3_175 q3_174 hd_X11_isIn rfl dX11_formula_4 rfl (Nat.le_of_ble_eq_true rfl) ⟨(Nat.le_of_ble_eq_true rfl), (Nat.le_of_ble_eq_true rfl)⟩ ⟨(Nat.le_of_ble_eq_true rfl), (Nat.le_of_ble_eq_true rfl)⟩ ?_
  refine j_if_eq C 70 hg dX11_formula_7 (by decide) (fun hg => ?_) (fun hg => ?_)
  · exact L_70 σ hg
  · refine j_iload_n C dX11_formula_10 2 rfl rfl ?_
    refine j_iconst (v := 0) C dX11_formula_11 (by decide) ?_
    refine j_bipush (v := 26) C dX11_formula_12 (by decide) ?_
    obtain ⟨r2, hr2, hg⟩ := ob hg
    refine j_callS C [.int x1, .int (0 : Int32), .int (26 : Int32)] (tX11_isIn x1 (0 : Int32) (26 : Int32) hr2) q3_176 q1_6 q3_175 q3_174 hd_X11_isIn rfl dX11_formula_14 rfl (Nat.le_of_ble_eq_true rfl) ⟨(Nat.le_of_ble_eq_true rfl), (Nat.le_of_ble_eq_true rfl)⟩ ⟨(Nat.le_of_ble_eq_true rfl), (Nat.le_of_ble_eq_true rfl)⟩ ?_
    refine j_if_eq C 70 hg dX11_formula_17 (by decide) (fun hg => ?_) (fun hg => ?_)
    · exact L_70 σ hg
    · refine j_iload_n C dX11_formula_20 3 rfl rfl ?_
      refine j_iconst (v := 0) C dX11_formula_21 (by decide) ?_
      refine j_iload_n C dX11_formula_22 1 rfl rfl ?_
      refine j_iconst (v := 1) C dX11_formula_23 (by decide) ?_
      refine j_isub C dX11_formula_24 ?_
      obtain ⟨r3, hr3, hg⟩ := ob hg
      refine j_callS C [.int x2, .int (0 : Int32), .int (x0 - (1 : Int32))] (tX11_isIn x2 (0 : Int32) (x0 - (1 : Int32)) hr3) q3_176 q1_6 q3_175 q3_174 hd_X11_isIn rfl dX11_formula_25 rfl (Nat.le_of_ble_eq_true rfl) ⟨(Nat.le_of_ble_eq_true rfl), (Nat.le_of_ble_eq_true rfl)⟩ ⟨(Nat.le_of_ble_eq_true rfl), (Nat.le_of_ble_eq_true rfl)⟩ ?_
      refine j_if_eq C 70 hg dX11_formula_28 (by decide) (fun hg => ?_) (fun hg => ?_)
      · exact L_70 σ hg
      · refine j_iload C dX11_formula_31 4 rfl ?_
        refine j_iconst (v := 0) C dX11_formula_33 (by decide) ?_
        refine j_iload_n C dX11_formula_34 1 rfl rfl ?_
        refine j_iconst (v := 1) C dX11_formula_35 (by decide) ?_
        refine j_isub C dX11_formula_36 ?_
        obtain ⟨r4, hr4, hg⟩ := ob hg
        refine j_callS C [.int x3, .int (0 : Int32), .int (x0 - (1 : Int32))] (tX11_isIn x3 (0 : Int32) (x0 - (1 : Int32)) hr4) q3_176 q1_6 q3_175 q3_174 hd_X11_isIn rfl dX11_formula_37 rfl (Nat.le_of_ble_eq_true rfl) ⟨(Nat.le_of_ble_eq_true rfl), (Nat.le_of_ble_eq_true rfl)⟩ ⟨(Nat.le_of_ble_eq_true rfl), (Nat.le_of_ble_eq_true rfl)⟩ ?_
        refine j_if_ne C 55 hg dX11_formula_40 (by decide) (fun hg => ?_) (fun hg => ?_)
        · exact L_55 σ hg
        · refine j_iload C dX11_formula_43 4 rfl ?_
          refine j_bipush (v := 16) C dX11_formula_45 (by decide) ?_
          refine j_bipush (v := 23) C dX11_formula_47 (by decide) ?_
          obtain ⟨r5, hr5, hg⟩ := ob hg
          refine j_callS C [.int x3, .int (16 : Int32), .int (23 : Int32)] (tX11_isIn x3 (16 : Int32) (23 : Int32) hr5) q3_176 q1_6 q3_175 q3_174 hd_X11_isIn rfl dX11_formula_49 rfl (Nat.le_of_ble_eq_true rfl) ⟨(Nat.le_of_ble_eq_true rfl), (Nat.le_of_ble_eq_true rfl)⟩ ⟨(Nat.le_of_ble_eq_true rfl), (Nat.le_of_ble_eq_true rfl)⟩ ?_
          refine j_if_eq C 70 hg dX11_formula_52 (by decide) (fun hg => ?_) (fun hg => ?_)
          · exact L_70 σ hg
          · exact L_55 σ hg

def gX11_input_36 (σ : MS) (x0 : Int32) (k36 : MS → Int32 → Option (MS × Int32)) (τ : MS) (v2 : Int32) : Option (MS × Int32) := if (((16 : Int32) * x0) + (16 : Int32)) ≤ v2 then (if ix ((4 : Int32) * x0) 48 then ((gX11_changed (m_made_ τ (upd (m_made τ) ((4 : Int32) * x0).toNatClampNeg (-1 : Int32))) ).bind (fun r4 => some (r4.1, r4.2))) else none) else (if ix v2 200 then (if ix v2 200 then (if ix v2 200 then (if ix v2 200 then (k36 (m_blank_ (m_told_ τ (vf_upd (m_told τ) v2.toNatClampNeg (m_now τ v2.toNatClampNeg))) (upd (m_blank (m_told_ τ (vf_upd (m_told τ) v2.toNatClampNeg (m_now τ v2.toNatClampNeg)))) v2.toNatClampNeg (vp_nar .boolean (m_none (m_told_ τ (vf_upd (m_told τ) v2.toNatClampNeg (m_now τ v2.toNatClampNeg))) v2.toNatClampNeg)))) (v2 + (1 : Int32))) else none) else none) else none) else none)
def gX11_input (σ : MS) (x0 : Int32) : Option (MS × Int32) := (gX11_isIn x0 (0 : Int32) (11 : Int32)).bind (fun r1 => if r1 = 0 then (some (σ, (0 : Int32))) else (if ix ((4 : Int32) * x0) 48 then (if 0 ≤ (m_made σ ((4 : Int32) * x0).toNatClampNeg) then ((gX11_picture σ ).bind (fun r2 => (gX11_reckonAll r2 ).bind (fun r3 => lq2 (gX11_input_36 σ x0) 20 r3 ((16 : Int32) * x0)))) else (some (σ, (0 : Int32)))) else none))
theorem hd_X11_input : yX11_input.cls ≠ "java/lang/invoke/MethodHandle" ∧ yX11_input.cls ≠ "java/lang/invoke/VarHandle" ∧ (parseMethodDescriptor yX11_input.desc).map (fun d => d.parameters.length) = some 1 := by decide +kernel
set_option maxHeartbeats 4000000 in
set_option maxRecDepth 100000 in
theorem tX11_input {G : GG} {l : Launch} {z N : Nat} {b : Nat → va_E} (hN : 86 ≤ N) (σ : MS) (x0 : Int32) {r : MS × Int32} (hg : gX11_input σ x0 = some r) : Ct G l yX11_input cX11_input 3 (some .int) ({ frames := 7, cells := 0, slots := 0, locals := 168 } : Room) [.ref (z + 71), .int x0] z (ctM G z b σ) N (some (.int r.2)) (ctM G z b r.1) N := by
  refine Ct.of (lv := [(0, .ref (z + 71)), (1, .int x0)]) (by decide +kernel) (Nat.le_of_ble_eq_true rfl) rfl (fun p e s m args below meth c C => ?_)
  have L_36 : ∀ (n36 : Nat) (τ : MS) (v2 : Int32), lq2 (gX11_input_36 σ x0) n36 τ v2 = some r → J G p l e ({ frames := 7, cells := 0, slots := 0, locals := 168 } : Room) s m args below meth c z 3 (MQ below (Qd G z (some (.int r.2)) (ctM G z b r.1) N) args s 0 0 (zA z)) (ctM G z b τ) N 0 0 36 [(0, .ref (z + 71)), (1, .int x0), (2, .int v2)] [] := by
    intro n36
    induction n36 with
    | zero => intro τ v2 hg; cases hg
    | succ n36 ih36 =>
      intro τ v2 hg
      replace hg : gX11_input_36 σ x0 (lq2 (gX11_input_36 σ x0) n36) τ v2 = some r := hg
      rw [gX11_input_36] at hg
      refine j_iload_n C dX11_input_36 2 rfl rfl ?_
      refine j_bipush (v := 16) C dX11_input_37 (by decide) ?_
      refine j_iload_n C dX11_input_39 1 rfl rfl ?_
      refine j_imul C dX11_input_40 ?_
      refine j_bipush (v := 16) C dX11_input_41 (by decide) ?_
      refine j_iadd C dX11_input_43 ?_
      refine j_icmp_ge C 77 hg dX11_input_44 (by decide) (fun hg => ?_) (fun hg => ?_)
      · refine j_aload_n C dX11_input_77 0 rfl rfl ?_
        refine j_get (v := .ref (z + 75)) C (Nat.lt_of_lt_of_le (by decide) hN) cq_obj rfl inX11 3 (by decide) q3_106 rfl rfl dX11_input_78 ?_
        refine j_iconst (v := 4) C dX11_input_81 (by decide) ?_
        refine j_iload_n C dX11_input_82 1 rfl rfl ?_
        refine j_imul C dX11_input_83 ?_
        refine j_iconst (v := (-1)) C dX11_input_84 (by decide) ?_
        refine j_iast C hg (Nat.lt_of_lt_of_le (by decide) hN) cq_made dX11_input_85 (fun hg => j_ct cs_made ?_)
        refine j_aload_n C dX11_input_86 0 rfl rfl ?_
        obtain ⟨r4, hr4, hg⟩ := ob hg
        refine j_callV C [] (tX11_changed hN (m_made_ τ (upd (m_made τ) ((4 : Int32) * x0).toNatClampNeg (-1 : Int32)))  hr4) (Nat.lt_of_lt_of_le (by decide) hN) cq_obj rfl q3_195 q1_6 q3_194 qp_22 q3_192 hd_X11_changed rfl dX11_input_87 rfl (Nat.le_of_ble_eq_true rfl) ⟨(Nat.le_of_ble_eq_true rfl), (Nat.le_of_ble_eq_true rfl)⟩ ⟨(Nat.le_of_ble_eq_true rfl), (Nat.le_of_ble_eq_true rfl)⟩ ?_
        exact j_iret C dX11_input_90 (by rw [← Option.some.inj hg]) (by rw [← Option.some.inj hg]) rfl
      · refine j_aload_n C dX11_input_47 0 rfl rfl ?_
        refine j_get (v := .ref (z + 72)) C (Nat.lt_of_lt_of_le (by decide) hN) cq_obj rfl inX11 0 (by decide) q3_103 rfl rfl dX11_input_48 ?_
        refine j_iload_n C dX11_input_51 2 rfl rfl ?_
        refine j_aload_n C dX11_input_52 0 rfl rfl ?_
        refine j_get (v := .ref (z + 76)) C (Nat.lt_of_lt_of_le (by decide) hN) cq_obj rfl inX11 4 (by decide) q3_107 rfl rfl dX11_input_53 ?_
        refine j_iload_n C dX11_input_56 2 rfl rfl ?_
        refine j_dald C hg (Nat.lt_of_lt_of_le (by decide) hN) cq_now dX11_input_57 (fun hg => ?_)
        refine j_dast C hg (Nat.lt_of_lt_of_le (by decide) hN) cq_told dX11_input_58 (fun hg => j_ct cs_told ?_)
        refine j_aload_n C dX11_input_59 0 rfl rfl ?_
        refine j_get (v := .ref (z + 73)) C (Nat.lt_of_lt_of_le (by decide) hN) cq_obj rfl inX11 1 (by decide) q3_104 rfl rfl dX11_input_60 ?_
        refine j_iload_n C dX11_input_63 2 rfl rfl ?_
        refine j_aload_n C dX11_input_64 0 rfl rfl ?_
        refine j_get (v := .ref (z + 77)) C (Nat.lt_of_lt_of_le (by decide) hN) cq_obj rfl inX11 5 (by decide) q3_108 rfl rfl dX11_input_65 ?_
        refine j_iload_n C dX11_input_68 2 rfl rfl ?_
        refine j_zald C hg (Nat.lt_of_lt_of_le (by decide) hN) cq_none dX11_input_69 (fun hg => ?_)
        refine j_zast C hg (Nat.lt_of_lt_of_le (by decide) hN) cq_blank dX11_input_70 (fun hg => j_ct cs_blank ?_)
        refine j_iinc C [(2, .int (v2 + (1 : Int32))), (0, .ref (z + 71)), (1, .int x0)] dX11_input_71 2 rfl rfl (by decide) rfl ?_
        refine j_goto C 36 dX11_input_74 (by decide) ?_
        exact j_re [1, 2, 0] rfl (ih36 (m_blank_ (m_told_ τ (vf_upd (m_told τ) v2.toNatClampNeg (m_now τ v2.toNatClampNeg))) (upd (m_blank (m_told_ τ (vf_upd (m_told τ) v2.toNatClampNeg (m_now τ v2.toNatClampNeg)))) v2.toNatClampNeg (vp_nar .boolean (m_none (m_told_ τ (vf_upd (m_told τ) v2.toNatClampNeg (m_now τ v2.toNatClampNeg))) v2.toNatClampNeg)))) (v2 + (1 : Int32)) hg)
  rw [gX11_input] at hg
  refine j_iload_n C dX11_input_0 1 rfl rfl ?_
  refine j_iconst (v := 0) C dX11_input_1 (by decide) ?_
  refine j_bipush (v := 11) C dX11_input_2 (by decide) ?_
  obtain ⟨r1, hr1, hg⟩ := ob hg
  refine j_callS C [.int x0, .int (0 : Int32), .int (11 : Int32)] (tX11_isIn x0 (0 : Int32) (11 : Int32) hr1) q3_176 q1_6 q3_175 q3_174 hd_X11_isIn rfl dX11_input_4 rfl (Nat.le_of_ble_eq_true rfl) ⟨(Nat.le_of_ble_eq_true rfl), (Nat.le_of_ble_eq_true rfl)⟩ ⟨(Nat.le_of_ble_eq_true rfl), (Nat.le_of_ble_eq_true rfl)⟩ ?_
  refine j_if_eq C 21 hg dX11_input_7 (by decide) (fun hg => ?_) (fun hg => ?_)
  · refine j_iconst (v := 0) C dX11_input_21 (by decide) ?_
    exact j_iret C dX11_input_22 (by rw [← Option.some.inj hg]) (by rw [← Option.some.inj hg]) rfl
  · refine j_aload_n C dX11_input_10 0 rfl rfl ?_
    refine j_get (v := .ref (z + 75)) C (Nat.lt_of_lt_of_le (by decide) hN) cq_obj rfl inX11 3 (by decide) q3_106 rfl rfl dX11_input_11 ?_
    refine j_iconst (v := 4) C dX11_input_14 (by decide) ?_
    refine j_iload_n C dX11_input_15 1 rfl rfl ?_
    refine j_imul C dX11_input_16 ?_
    refine j_iald C hg (Nat.lt_of_lt_of_le (by decide) hN) cq_made dX11_input_17 (fun hg => ?_)
    refine j_if_ge C 23 hg dX11_input_18 (by decide) (fun hg => ?_) (fun hg => ?_)
    · refine j_aload_n C dX11_input_23 0 rfl rfl ?_
      obtain ⟨r2, hr2, hg⟩ := ob hg
      refine j_callV C [] (tX11_picture hN σ  hr2) (Nat.lt_of_lt_of_le (by decide) hN) cq_obj rfl q3_180 q1_6 q3_179 qp_20 q3_177 hd_X11_picture rfl dX11_input_24 rfl (Nat.le_of_ble_eq_true rfl) ⟨(Nat.le_of_ble_eq_true rfl), (Nat.le_of_ble_eq_true rfl)⟩ ⟨(Nat.le_of_ble_eq_true rfl), (Nat.le_of_ble_eq_true rfl)⟩ ?_
      refine j_aload_n C dX11_input_27 0 rfl rfl ?_
      obtain ⟨r3, hr3, hg⟩ := ob hg
      refine j_callV C [] (tX11_reckonAll hN r2  hr3) (Nat.lt_of_lt_of_le (by decide) hN) cq_obj rfl q3_230 q1_6 q3_229 qp_24 q3_227 hd_X11_reckonAll rfl dX11_input_28 rfl (Nat.le_of_ble_eq_true rfl) ⟨(Nat.le_of_ble_eq_true rfl), (Nat.le_of_ble_eq_true rfl)⟩ ⟨(Nat.le_of_ble_eq_true rfl), (Nat.le_of_ble_eq_true rfl)⟩ ?_
      refine j_bipush (v := 16) C dX11_input_31 (by decide) ?_
      refine j_iload_n C dX11_input_33 1 rfl rfl ?_
      refine j_imul C dX11_input_34 ?_
      refine j_istore_n C [(2, .int ((16 : Int32) * x0)), (0, .ref (z + 71)), (1, .int x0)] dX11_input_35 rfl (by decide) rfl ?_
      exact j_re [1, 2, 0] rfl (L_36 20 r3 ((16 : Int32) * x0) hg)
    · refine j_iconst (v := 0) C dX11_input_21 (by decide) ?_
      exact j_iret C dX11_input_22 (by rw [← Option.some.inj hg]) (by rw [← Option.some.inj hg]) rfl

def gX11_width_38 (σ : MS) (x0 : Int32) (x1 : Int32) (k38 : MS → Int32 → Option (MS × Int32)) (τ : MS) (v3 : Int32) : Option (MS × Int32) := if (((16 : Int32) * x0) + (16 : Int32)) ≤ v3 then ((gX11_changed τ ).bind (fun r3 => some (r3.1, r3.2))) else (if ix v3 200 then ((gX11_brought (m_told τ v3.toNatClampNeg) x1).bind (fun r4 => if ix v3 200 then (k38 (m_told_ τ (vf_upd (m_told τ) v3.toNatClampNeg r4)) (v3 + (1 : Int32))) else none)) else none)
def gX11_width (σ : MS) (x0 : Int32) (x1 : Int32) : Option (MS × Int32) := (gX11_isIn x0 (0 : Int32) (11 : Int32)).bind (fun r1 => if r1 = 0 then (some (σ, (0 : Int32))) else (if ix x0 12 then (if (m_narrow σ x0.toNatClampNeg) = x1 then (some (σ, (0 : Int32))) else ((gX11_picture σ ).bind (fun r2 => if ix x0 12 then (lq2 (gX11_width_38 σ x0 x1) 20 (m_narrow_ r2 (upd (m_narrow r2) x0.toNatClampNeg (vp_nar .boolean x1))) ((16 : Int32) * x0)) else none))) else none))
theorem hd_X11_width : yX11_width.cls ≠ "java/lang/invoke/MethodHandle" ∧ yX11_width.cls ≠ "java/lang/invoke/VarHandle" ∧ (parseMethodDescriptor yX11_width.desc).map (fun d => d.parameters.length) = some 2 := by decide +kernel
set_option maxHeartbeats 4000000 in
set_option maxRecDepth 100000 in
theorem tX11_width {G : GG} {l : Launch} {z N : Nat} {b : Nat → va_E} (hN : 86 ≤ N) (σ : MS) (x0 : Int32) (x1 : Int32) {r : MS × Int32} (hg : gX11_width σ x0 x1 = some r) : Ct G l yX11_width cX11_width 4 (some .int) ({ frames := 1, cells := 0, slots := 0, locals := 22 } : Room) [.ref (z + 71), .int x0, .int x1] z (ctM G z b σ) N (some (.int r.2)) (ctM G z b r.1) N := by
  refine Ct.of (lv := [(0, .ref (z + 71)), (1, .int x0), (2, .int x1)]) (by decide +kernel) (Nat.le_of_ble_eq_true rfl) rfl (fun p e s m args below meth c C => ?_)
  have L_38 : ∀ (n38 : Nat) (τ : MS) (v3 : Int32), lq2 (gX11_width_38 σ x0 x1) n38 τ v3 = some r → J G p l e ({ frames := 1, cells := 0, slots := 0, locals := 22 } : Room) s m args below meth c z 4 (MQ below (Qd G z (some (.int r.2)) (ctM G z b r.1) N) args s 0 0 (zA z)) (ctM G z b τ) N 0 0 38 [(0, .ref (z + 71)), (1, .int x0), (2, .int x1), (3, .int v3)] [] := by
    intro n38
    induction n38 with
    | zero => intro τ v3 hg; cases hg
    | succ n38 ih38 =>
      intro τ v3 hg
      replace hg : gX11_width_38 σ x0 x1 (lq2 (gX11_width_38 σ x0 x1) n38) τ v3 = some r := hg
      rw [gX11_width_38] at hg
      refine j_iload_n C dX11_width_38 3 rfl rfl ?_
      refine j_bipush (v := 16) C dX11_width_39 (by decide) ?_
      refine j_iload_n C dX11_width_41 1 rfl rfl ?_
      refine j_imul C dX11_width_42 ?_
      refine j_bipush (v := 16) C dX11_width_43 (by decide) ?_
      refine j_iadd C dX11_width_45 ?_
      refine j_icmp_ge C 71 hg dX11_width_46 (by decide) (fun hg => ?_) (fun hg => ?_)
      · refine j_aload_n C dX11_width_71 0 rfl rfl ?_
        obtain ⟨r3, hr3, hg⟩ := ob hg
        refine j_callV C [] (tX11_changed hN τ  hr3) (Nat.lt_of_lt_of_le (by decide) hN) cq_obj rfl q3_195 q1_6 q3_194 qp_22 q3_192 hd_X11_changed rfl dX11_width_72 rfl (Nat.le_of_ble_eq_true rfl) ⟨(Nat.le_of_ble_eq_true rfl), (Nat.le_of_ble_eq_true rfl)⟩ ⟨(Nat.le_of_ble_eq_true rfl), (Nat.le_of_ble_eq_true rfl)⟩ ?_
        exact j_iret C dX11_width_75 (by rw [← Option.some.inj hg]) (by rw [← Option.some.inj hg]) rfl
      · refine j_aload_n C dX11_width_49 0 rfl rfl ?_
        refine j_get (v := .ref (z + 72)) C (Nat.lt_of_lt_of_le (by decide) hN) cq_obj rfl inX11 0 (by decide) q3_103 rfl rfl dX11_width_50 ?_
        refine j_iload_n C dX11_width_53 3 rfl rfl ?_
        refine j_aload_n C dX11_width_54 0 rfl rfl ?_
        refine j_get (v := .ref (z + 72)) C (Nat.lt_of_lt_of_le (by decide) hN) cq_obj rfl inX11 0 (by decide) q3_103 rfl rfl dX11_width_55 ?_
        refine j_iload_n C dX11_width_58 3 rfl rfl ?_
        refine j_dald C hg (Nat.lt_of_lt_of_le (by decide) hN) cq_told dX11_width_59 (fun hg => ?_)
        refine j_iload_n C dX11_width_60 2 rfl rfl ?_
        obtain ⟨r4, hr4, hg⟩ := ob hg
        refine j_callS C [.double (m_told τ v3.toNatClampNeg), .int x1] (tX11_brought (m_told τ v3.toNatClampNeg) x1 hr4) q3_187 q1_6 q3_186 q3_185 hd_X11_brought rfl dX11_width_61 rfl (Nat.le_of_ble_eq_true rfl) ⟨(Nat.le_of_ble_eq_true rfl), (Nat.le_of_ble_eq_true rfl)⟩ ⟨(Nat.le_of_ble_eq_true rfl), (Nat.le_of_ble_eq_true rfl)⟩ ?_
        refine j_dast C hg (Nat.lt_of_lt_of_le (by decide) hN) cq_told dX11_width_64 (fun hg => j_ct cs_told ?_)
        refine j_iinc C [(3, .int (v3 + (1 : Int32))), (0, .ref (z + 71)), (1, .int x0), (2, .int x1)] dX11_width_65 3 rfl rfl (by decide) rfl ?_
        refine j_goto C 38 dX11_width_68 (by decide) ?_
        exact j_re [1, 2, 3, 0] rfl (ih38 (m_told_ τ (vf_upd (m_told τ) v3.toNatClampNeg r4)) (v3 + (1 : Int32)) hg)
  rw [gX11_width] at hg
  refine j_iload_n C dX11_width_0 1 rfl rfl ?_
  refine j_iconst (v := 0) C dX11_width_1 (by decide) ?_
  refine j_bipush (v := 11) C dX11_width_2 (by decide) ?_
  obtain ⟨r1, hr1, hg⟩ := ob hg
  refine j_callS C [.int x0, .int (0 : Int32), .int (11 : Int32)] (tX11_isIn x0 (0 : Int32) (11 : Int32) hr1) q3_176 q1_6 q3_175 q3_174 hd_X11_isIn rfl dX11_width_4 rfl (Nat.le_of_ble_eq_true rfl) ⟨(Nat.le_of_ble_eq_true rfl), (Nat.le_of_ble_eq_true rfl)⟩ ⟨(Nat.le_of_ble_eq_true rfl), (Nat.le_of_ble_eq_true rfl)⟩ ?_
  refine j_if_eq C 20 hg dX11_width_7 (by decide) (fun hg => ?_) (fun hg => ?_)
  · refine j_iconst (v := 0) C dX11_width_20 (by decide) ?_
    exact j_iret C dX11_width_21 (by rw [← Option.some.inj hg]) (by rw [← Option.some.inj hg]) rfl
  · refine j_aload_n C dX11_width_10 0 rfl rfl ?_
    refine j_get (v := .ref (z + 74)) C (Nat.lt_of_lt_of_le (by decide) hN) cq_obj rfl inX11 2 (by decide) q3_105 rfl rfl dX11_width_11 ?_
    refine j_iload_n C dX11_width_14 1 rfl rfl ?_
    refine j_zald C hg (Nat.lt_of_lt_of_le (by decide) hN) cq_narrow dX11_width_15 (fun hg => ?_)
    refine j_iload_n C dX11_width_16 2 rfl rfl ?_
    refine j_icmp_ne C 22 hg dX11_width_17 (by decide) (fun hg => ?_) (fun hg => ?_)
    · refine j_aload_n C dX11_width_22 0 rfl rfl ?_
      obtain ⟨r2, hr2, hg⟩ := ob hg
      refine j_callV C [] (tX11_picture hN σ  hr2) (Nat.lt_of_lt_of_le (by decide) hN) cq_obj rfl q3_180 q1_6 q3_179 qp_20 q3_177 hd_X11_picture rfl dX11_width_23 rfl (Nat.le_of_ble_eq_true rfl) ⟨(Nat.le_of_ble_eq_true rfl), (Nat.le_of_ble_eq_true rfl)⟩ ⟨(Nat.le_of_ble_eq_true rfl), (Nat.le_of_ble_eq_true rfl)⟩ ?_
      refine j_aload_n C dX11_width_26 0 rfl rfl ?_
      refine j_get (v := .ref (z + 74)) C (Nat.lt_of_lt_of_le (by decide) hN) cq_obj rfl inX11 2 (by decide) q3_105 rfl rfl dX11_width_27 ?_
      refine j_iload_n C dX11_width_30 1 rfl rfl ?_
      refine j_iload_n C dX11_width_31 2 rfl rfl ?_
      refine j_zast C hg (Nat.lt_of_lt_of_le (by decide) hN) cq_narrow dX11_width_32 (fun hg => j_ct cs_narrow ?_)
      refine j_bipush (v := 16) C dX11_width_33 (by decide) ?_
      refine j_iload_n C dX11_width_35 1 rfl rfl ?_
      refine j_imul C dX11_width_36 ?_
      refine j_istore_n C [(3, .int ((16 : Int32) * x0)), (0, .ref (z + 71)), (1, .int x0), (2, .int x1)] dX11_width_37 rfl (by decide) rfl ?_
      exact j_re [1, 2, 3, 0] rfl (L_38 20 (m_narrow_ r2 (upd (m_narrow r2) x0.toNatClampNeg (vp_nar .boolean x1))) ((16 : Int32) * x0) hg)
    · refine j_iconst (v := 0) C dX11_width_20 (by decide) ?_
      exact j_iret C dX11_width_21 (by rw [← Option.some.inj hg]) (by rw [← Option.some.inj hg]) rfl
