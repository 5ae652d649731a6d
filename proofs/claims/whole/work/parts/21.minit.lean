theorem un9_1 {α : Type} {f : Nat → α} {a1 a2 a3 a4 a5 a6 a7 a8 a9 : Nat} {x1 x2 x3 x4 x5 x6 x7 x8 x9 y : α} (h2 : a1 ≠ a2) (h3 : a1 ≠ a3) (h4 : a1 ≠ a4) (h5 : a1 ≠ a5) (h6 : a1 ≠ a6) (h7 : a1 ≠ a7) (h8 : a1 ≠ a8) (h9 : a1 ≠ a9) : va_up (va_up (va_up (va_up (va_up (va_up (va_up (va_up (va_up (va_up f a1 x1) a2 x2) a3 x3) a4 x4) a5 x5) a6 x6) a7 x7) a8 x8) a9 x9) a1 y = va_up (va_up (va_up (va_up (va_up (va_up (va_up (va_up (va_up f a1 y) a2 x2) a3 x3) a4 x4) a5 x5) a6 x6) a7 x7) a8 x8) a9 x9 := by rw [upsw _ (Ne.symm h9), un8_1 h2 h3 h4 h5 h6 h7 h8]
theorem un10_1 {α : Type} {f : Nat → α} {a1 a2 a3 a4 a5 a6 a7 a8 a9 a10 : Nat} {x1 x2 x3 x4 x5 x6 x7 x8 x9 x10 y : α} (h2 : a1 ≠ a2) (h3 : a1 ≠ a3) (h4 : a1 ≠ a4) (h5 : a1 ≠ a5) (h6 : a1 ≠ a6) (h7 : a1 ≠ a7) (h8 : a1 ≠ a8) (h9 : a1 ≠ a9) (h10 : a1 ≠ a10) : va_up (va_up (va_up (va_up (va_up (va_up (va_up (va_up (va_up (va_up (va_up f a1 x1) a2 x2) a3 x3) a4 x4) a5 x5) a6 x6) a7 x7) a8 x8) a9 x9) a10 x10) a1 y = va_up (va_up (va_up (va_up (va_up (va_up (va_up (va_up (va_up (va_up f a1 y) a2 x2) a3 x3) a4 x4) a5 x5) a6 x6) a7 x7) a8 x8) a9 x9) a10 x10 := by rw [upsw _ (Ne.symm h10), un9_1 h2 h3 h4 h5 h6 h7 h8 h9]
theorem un11_1 {α : Type} {f : Nat → α} {a1 a2 a3 a4 a5 a6 a7 a8 a9 a10 a11 : Nat} {x1 x2 x3 x4 x5 x6 x7 x8 x9 x10 x11 y : α} (h2 : a1 ≠ a2) (h3 : a1 ≠ a3) (h4 : a1 ≠ a4) (h5 : a1 ≠ a5) (h6 : a1 ≠ a6) (h7 : a1 ≠ a7) (h8 : a1 ≠ a8) (h9 : a1 ≠ a9) (h10 : a1 ≠ a10) (h11 : a1 ≠ a11) : va_up (va_up (va_up (va_up (va_up (va_up (va_up (va_up (va_up (va_up (va_up (va_up f a1 x1) a2 x2) a3 x3) a4 x4) a5 x5) a6 x6) a7 x7) a8 x8) a9 x9) a10 x10) a11 x11) a1 y = va_up (va_up (va_up (va_up (va_up (va_up (va_up (va_up (va_up (va_up (va_up f a1 y) a2 x2) a3 x3) a4 x4) a5 x5) a6 x6) a7 x7) a8 x8) a9 x9) a10 x10) a11 x11 := by rw [upsw _ (Ne.symm h11), un10_1 h2 h3 h4 h5 h6 h7 h8 h9 h10]
theorem un12_1 {α : Type} {f : Nat → α} {a1 a2 a3 a4 a5 a6 a7 a8 a9 a10 a11 a12 : Nat} {x1 x2 x3 x4 x5 x6 x7 x8 x9 x10 x11 x12 y : α} (h2 : a1 ≠ a2) (h3 : a1 ≠ a3) (h4 : a1 ≠ a4) (h5 : a1 ≠ a5) (h6 : a1 ≠ a6) (h7 : a1 ≠ a7) (h8 : a1 ≠ a8) (h9 : a1 ≠ a9) (h10 : a1 ≠ a10) (h11 : a1 ≠ a11) (h12 : a1 ≠ a12) : va_up (va_up (va_up (va_up (va_up (va_up (va_up (va_up (va_up (va_up (va_up (va_up (va_up f a1 x1) a2 x2) a3 x3) a4 x4) a5 x5) a6 x6) a7 x7) a8 x8) a9 x9) a10 x10) a11 x11) a12 x12) a1 y = va_up (va_up (va_up (va_up (va_up (va_up (va_up (va_up (va_up (va_up (va_up (va_up f a1 y) a2 x2) a3 x3) a4 x4) a5 x5) a6 x6) a7 x7) a8 x8) a9 x9) a10 x10) a11 x11) a12 x12 := by rw [upsw _ (Ne.symm h12), un11_1 h2 h3 h4 h5 h6 h7 h8 h9 h10 h11]
theorem un13_1 {α : Type} {f : Nat → α} {a1 a2 a3 a4 a5 a6 a7 a8 a9 a10 a11 a12 a13 : Nat} {x1 x2 x3 x4 x5 x6 x7 x8 x9 x10 x11 x12 x13 y : α} (h2 : a1 ≠ a2) (h3 : a1 ≠ a3) (h4 : a1 ≠ a4) (h5 : a1 ≠ a5) (h6 : a1 ≠ a6) (h7 : a1 ≠ a7) (h8 : a1 ≠ a8) (h9 : a1 ≠ a9) (h10 : a1 ≠ a10) (h11 : a1 ≠ a11) (h12 : a1 ≠ a12) (h13 : a1 ≠ a13) : va_up (va_up (va_up (va_up (va_up (va_up (va_up (va_up (va_up (va_up (va_up (va_up (va_up (va_up f a1 x1) a2 x2) a3 x3) a4 x4) a5 x5) a6 x6) a7 x7) a8 x8) a9 x9) a10 x10) a11 x11) a12 x12) a13 x13) a1 y = va_up (va_up (va_up (va_up (va_up (va_up (va_up (va_up (va_up (va_up (va_up (va_up (va_up f a1 y) a2 x2) a3 x3) a4 x4) a5 x5) a6 x6) a7 x7) a8 x8) a9 x9) a10 x10) a11 x11) a12 x12) a13 x13 := by rw [upsw _ (Ne.symm h13), un12_1 h2 h3 h4 h5 h6 h7 h8 h9 h10 h11 h12]
theorem un14_1 {α : Type} {f : Nat → α} {a1 a2 a3 a4 a5 a6 a7 a8 a9 a10 a11 a12 a13 a14 : Nat} {x1 x2 x3 x4 x5 x6 x7 x8 x9 x10 x11 x12 x13 x14 y : α} (h2 : a1 ≠ a2) (h3 : a1 ≠ a3) (h4 : a1 ≠ a4) (h5 : a1 ≠ a5) (h6 : a1 ≠ a6) (h7 : a1 ≠ a7) (h8 : a1 ≠ a8) (h9 : a1 ≠ a9) (h10 : a1 ≠ a10) (h11 : a1 ≠ a11) (h12 : a1 ≠ a12) (h13 : a1 ≠ a13) (h14 : a1 ≠ a14) : va_up (va_up (va_up (va_up (va_up (va_up (va_up (va_up (va_up (va_up (va_up (va_up (va_up (va_up (va_up f a1 x1) a2 x2) a3 x3) a4 x4) a5 x5) a6 x6) a7 x7) a8 x8) a9 x9) a10 x10) a11 x11) a12 x12) a13 x13) a14 x14) a1 y = va_up (va_up (va_up (va_up (va_up (va_up (va_up (va_up (va_up (va_up (va_up (va_up (va_up (va_up f a1 y) a2 x2) a3 x3) a4 x4) a5 x5) a6 x6) a7 x7) a8 x8) a9 x9) a10 x10) a11 x11) a12 x12) a13 x13) a14 x14 := by rw [upsw _ (Ne.symm h14), un13_1 h2 h3 h4 h5 h6 h7 h8 h9 h10 h11 h12 h13]
theorem un15_1 {α : Type} {f : Nat → α} {a1 a2 a3 a4 a5 a6 a7 a8 a9 a10 a11 a12 a13 a14 a15 : Nat} {x1 x2 x3 x4 x5 x6 x7 x8 x9 x10 x11 x12 x13 x14 x15 y : α} (h2 : a1 ≠ a2) (h3 : a1 ≠ a3) (h4 : a1 ≠ a4) (h5 : a1 ≠ a5) (h6 : a1 ≠ a6) (h7 : a1 ≠ a7) (h8 : a1 ≠ a8) (h9 : a1 ≠ a9) (h10 : a1 ≠ a10) (h11 : a1 ≠ a11) (h12 : a1 ≠ a12) (h13 : a1 ≠ a13) (h14 : a1 ≠ a14) (h15 : a1 ≠ a15) : va_up (va_up (va_up (va_up (va_up (va_up (va_up (va_up (va_up (va_up (va_up (va_up (va_up (va_up (va_up (va_up f a1 x1) a2 x2) a3 x3) a4 x4) a5 x5) a6 x6) a7 x7) a8 x8) a9 x9) a10 x10) a11 x11) a12 x12) a13 x13) a14 x14) a15 x15) a1 y = va_up (va_up (va_up (va_up (va_up (va_up (va_up (va_up (va_up (va_up (va_up (va_up (va_up (va_up (va_up f a1 y) a2 x2) a3 x3) a4 x4) a5 x5) a6 x6) a7 x7) a8 x8) a9 x9) a10 x10) a11 x11) a12 x12) a13 x13) a14 x14) a15 x15 := by rw [upsw _ (Ne.symm h15), un14_1 h2 h3 h4 h5 h6 h7 h8 h9 h10 h11 h12 h13 h14]
def m_0 : MS := (fun _ => 0, fun _ => 0, fun _ => 0, fun _ => 0, fun _ => 0, fun _ => 0, fun _ => 0, fun _ => 0, fun _ => 0, fun _ => 0, 0, fun _ => 0, fun _ => 0, fun _ => 0, fun _ => 0, 0, 0, 0, 0)
theorem mi_eq {G : GG} {z : Nat} {ct : Nat → va_E} : va_up (va_up (va_up (va_up (va_up (va_up (va_up (va_up (va_up (va_up (va_up (va_up (va_up (va_up (va_up ct 71 (.inr (7, [.ref (z + 72), .ref (z + 73), .ref (z + 74), .ref (z + 75), .ref (z + 76), .ref (z + 77), .ref (z + 78), .ref (z + 79), .ref (z + 80), .ref (z + 81), .int 0, .ref (z + 82), .ref (z + 83), .ref (z + 84), .ref (z + 85), .int 0, .int 0, .double 0, .int 0]))) 72 (cD G 200 (fun _ => 0))) 73 (cZ G 200 (fun _ => 0))) 74 (cZ G 12 (fun _ => 0))) 75 (cI G 48 (fun _ => 0))) 76 (cD G 200 (fun _ => 0))) 77 (cZ G 200 (fun _ => 0))) 78 (cD G 102400 (fun _ => 0))) 79 (cZ G 102400 (fun _ => 0))) 80 (cZ G 6144 (fun _ => 0))) 81 (cI G 24576 (fun _ => 0))) 82 (cI G 30 (fun _ => 0))) 83 (cI G 10 (fun _ => 0))) 84 (cI G 10 (fun _ => 0))) 85 (cZ G 10 (fun _ => 0)) = ctM G z ct m_0 := by
  funext k
  by_cases h85 : k = 85
  · subst h85; rfl
  rw [va_up_ne _ _ h85]
  by_cases h84 : k = 84
  · subst h84; rfl
  rw [va_up_ne _ _ h84]
  by_cases h83 : k = 83
  · subst h83; rfl
  rw [va_up_ne _ _ h83]
  by_cases h82 : k = 82
  · subst h82; rfl
  rw [va_up_ne _ _ h82]
  by_cases h81 : k = 81
  · subst h81; rfl
  rw [va_up_ne _ _ h81]
  by_cases h80 : k = 80
  · subst h80; rfl
  rw [va_up_ne _ _ h80]
  by_cases h79 : k = 79
  · subst h79; rfl
  rw [va_up_ne _ _ h79]
  by_cases h78 : k = 78
  · subst h78; rfl
  rw [va_up_ne _ _ h78]
  by_cases h77 : k = 77
  · subst h77; rfl
  rw [va_up_ne _ _ h77]
  by_cases h76 : k = 76
  · subst h76; rfl
  rw [va_up_ne _ _ h76]
  by_cases h75 : k = 75
  · subst h75; rfl
  rw [va_up_ne _ _ h75]
  by_cases h74 : k = 74
  · subst h74; rfl
  rw [va_up_ne _ _ h74]
  by_cases h73 : k = 73
  · subst h73; rfl
  rw [va_up_ne _ _ h73]
  by_cases h72 : k = 72
  · subst h72; rfl
  rw [va_up_ne _ _ h72]
  by_cases h71 : k = 71
  · subst h71; rfl
  rw [va_up_ne _ _ h71]
  unfold ctM
  simp only [if_neg h71, if_neg h72, if_neg h73, if_neg h74, if_neg h75, if_neg h76, if_neg h77, if_neg h78, if_neg h79, if_neg h80, if_neg h81, if_neg h82, if_neg h83, if_neg h84, if_neg h85]
def gX11_init_146 (k146 : MS → Int32 → Option MS) (τ : MS) (v1 : Int32) : Option MS := if (12 : Int32) ≤ v1 then (some τ) else (if ix ((4 : Int32) * v1) 48 then (k146 (m_made_ τ (upd (m_made τ) ((4 : Int32) * v1).toNatClampNeg (-1 : Int32))) (v1 + (1 : Int32))) else none)
def gX11_init_124 (k124 : MS → Int32 → Option MS) (τ : MS) (v1 : Int32) : Option MS := if (200 : Int32) ≤ v1 then (lq2 (gX11_init_146) 300 τ (0 : Int32)) else (if ix v1 200 then (k124 (m_blank_ τ (upd (m_blank τ) v1.toNatClampNeg (vp_nar .boolean (1 : Int32)))) (v1 + (1 : Int32))) else none)
def gX11_init : Option MS := lq2 (gX11_init_124) 300 m_0 (0 : Int32)
theorem hd_X11_init : yX11_init.cls ≠ "java/lang/invoke/MethodHandle" ∧ yX11_init.cls ≠ "java/lang/invoke/VarHandle" ∧ (parseMethodDescriptor yX11_init.desc).map (fun d => d.parameters.length) = some 0 := by decide +kernel
set_option maxHeartbeats 4000000 in
set_option maxRecDepth 100000 in
theorem tX11_init {G : GG} {l : Launch} {z : Nat} {ct : Nat → va_E} {r : MS} (hg : gX11_init = some r) : Ct G l yX11_init cX11_init 2 none ({ frames := 1, cells := 14, slots := 236440, locals := 20 } : Room) [.ref (z + 71)] z (va_up ct 71 (.inr (7, [.null, .null, .null, .null, .null, .null, .null, .null, .null, .null, .int (0 : Int32), .null, .null, .null, .null, .int (0 : Int32), .int (0 : Int32), .double (0 : UInt64), .int (0 : Int32)]))) 72 none (ctM G z ct r) 86 := by
  have hN : 86 ≤ 86 := Nat.le_refl _
  refine Ct.of (lv := [(0, .ref (z + 71))]) (by decide +kernel) (Nat.le_of_ble_eq_true rfl) rfl (fun p e s m args below meth c C => ?_)
  have L_146 : ∀ (n146 : Nat) (τ : MS) (v1 : Int32), lq2 (gX11_init_146) n146 τ v1 = some r → J G p l e ({ frames := 1, cells := 14, slots := 236440, locals := 20 } : Room) s m args below meth c z 2 (MQ below (Qd G z none (ctM G z ct r) 86) args s 14 236440 (zA z)) (ctM G z ct τ) 86 14 236440 146 [(0, .ref (z + 71)), (1, .int v1)] [] := by
    intro n146
    induction n146 with
    | zero => intro τ v1 hg; cases hg
    | succ n146 ih146 =>
      intro τ v1 hg
      replace hg : gX11_init_146 (lq2 (gX11_init_146) n146) τ v1 = some r := hg
      rw [gX11_init_146] at hg
      refine j_iload_n C dX11_init_146 1 rfl rfl ?_
      refine j_bipush (v := 12) C dX11_init_147 (by decide) ?_
      refine j_icmp_ge C 167 hg dX11_init_149 (by decide) (fun hg => ?_) (fun hg => ?_)
      · exact j_vret C dX11_init_167 rfl (by rw [← Option.some.inj hg]) rfl
      · refine j_aload_n C dX11_init_152 0 rfl rfl ?_
        refine j_get (v := .ref (z + 75)) C (Nat.lt_of_lt_of_le (by decide) hN) cq_obj rfl inX11 3 (by decide) q3_106 rfl rfl dX11_init_153 ?_
        refine j_iconst (v := 4) C dX11_init_156 (by decide) ?_
        refine j_iload_n C dX11_init_157 1 rfl rfl ?_
        refine j_imul C dX11_init_158 ?_
        refine j_iconst (v := (-1)) C dX11_init_159 (by decide) ?_
        refine j_iast C hg (Nat.lt_of_lt_of_le (by decide) hN) cq_made dX11_init_160 (fun hg => j_ct cs_made ?_)
        refine j_iinc C [(1, .int (v1 + (1 : Int32))), (0, .ref (z + 71))] dX11_init_161 1 rfl rfl (by decide) rfl ?_
        refine j_goto C 146 dX11_init_164 (by decide) ?_
        exact j_re [1, 0] rfl (ih146 (m_made_ τ (upd (m_made τ) ((4 : Int32) * v1).toNatClampNeg (-1 : Int32))) (v1 + (1 : Int32)) hg)
  have L_124 : ∀ (n124 : Nat) (τ : MS) (v1 : Int32), lq2 (gX11_init_124) n124 τ v1 = some r → J G p l e ({ frames := 1, cells := 14, slots := 236440, locals := 20 } : Room) s m args below meth c z 2 (MQ below (Qd G z none (ctM G z ct r) 86) args s 14 236440 (zA z)) (ctM G z ct τ) 86 14 236440 124 [(0, .ref (z + 71)), (1, .int v1)] [] := by
    intro n124
    induction n124 with
    | zero => intro τ v1 hg; cases hg
    | succ n124 ih124 =>
      intro τ v1 hg
      replace hg : gX11_init_124 (lq2 (gX11_init_124) n124) τ v1 = some r := hg
      rw [gX11_init_124] at hg
      refine j_iload_n C dX11_init_124 1 rfl rfl ?_
      refine j_sipush (v := 200) C dX11_init_125 (by decide) ?_
      refine j_icmp_ge C 144 hg dX11_init_128 (by decide) (fun hg => ?_) (fun hg => ?_)
      · refine j_iconst (v := 0) C dX11_init_144 (by decide) ?_
        refine j_istore_n C [(1, .int (0 : Int32)), (0, .ref (z + 71))] dX11_init_145 rfl (by decide) rfl ?_
        exact j_re [1, 0] rfl (L_146 300 τ (0 : Int32) hg)
      · refine j_aload_n C dX11_init_131 0 rfl rfl ?_
        refine j_get (v := .ref (z + 73)) C (Nat.lt_of_lt_of_le (by decide) hN) cq_obj rfl inX11 1 (by decide) q3_104 rfl rfl dX11_init_132 ?_
        refine j_iload_n C dX11_init_135 1 rfl rfl ?_
        refine j_iconst (v := 1) C dX11_init_136 (by decide) ?_
        refine j_zast C hg (Nat.lt_of_lt_of_le (by decide) hN) cq_blank dX11_init_137 (fun hg => j_ct cs_blank ?_)
        refine j_iinc C [(1, .int (v1 + (1 : Int32))), (0, .ref (z + 71))] dX11_init_138 1 rfl rfl (by decide) rfl ?_
        refine j_goto C 124 dX11_init_141 (by decide) ?_
        exact j_re [1, 0] rfl (ih124 (m_blank_ τ (upd (m_blank τ) v1.toNatClampNeg (vp_nar .boolean (1 : Int32)))) (v1 + (1 : Int32)) hg)
  rw [gX11_init] at hg
  refine j_aload_n C dX11_init_0 0 rfl rfl ?_
  refine j_objInit C q3_101 q1_21 q1_22 dX11_init_1 (Nat.le_of_ble_eq_true rfl) (Nat.le_of_ble_eq_true rfl) ?_
  refine j_aload_n C dX11_init_4 0 rfl rfl ?_
  refine j_sipush (v := 200) C dX11_init_5 (by decide) ?_
  refine j_newD C 200 q1_38 (by decide) (by decide) (by decide) ⟨(Nat.le_of_ble_eq_true rfl), (Nat.le_of_ble_eq_true rfl)⟩ dX11_init_8 ?_
  refine j_putF (fs := [.null, .null, .null, .null, .null, .null, .null, .null, .null, .null, .int (0 : Int32), .null, .null, .null, .null, .int (0 : Int32), .int (0 : Int32), .double (0 : UInt64), .int (0 : Int32)]) C tyX11 tyX11_ok nmX11 (by omega) ((va_up_ne _ _ (by omega)).trans (va_up_self _ _ _)) rfl inX11 0 (by decide) q3_103 rfl rfl rfl (tyX11_ok 0 (by decide)) rfl rfl (Nat.le_of_ble_eq_true rfl) dX11_init_10 (j_ct (un2_1 (by omega)) ?_)
  refine j_aload_n C dX11_init_13 0 rfl rfl ?_
  refine j_sipush (v := 200) C dX11_init_14 (by decide) ?_
  refine j_newZ C 200 q1_39 (by decide) (by decide) (by decide) ⟨(Nat.le_of_ble_eq_true rfl), (Nat.le_of_ble_eq_true rfl)⟩ dX11_init_17 ?_
  refine j_putF (fs := [.ref (z + 72), .null, .null, .null, .null, .null, .null, .null, .null, .null, .int (0 : Int32), .null, .null, .null, .null, .int (0 : Int32), .int (0 : Int32), .double (0 : UInt64), .int (0 : Int32)]) C tyX11 tyX11_ok nmX11 (by omega) ((va_up_ne _ _ (by omega)).trans ((va_up_ne _ _ (by omega)).trans (va_up_self _ _ _))) rfl inX11 1 (by decide) q3_104 rfl rfl rfl (tyX11_ok 1 (by decide)) rfl rfl (Nat.le_of_ble_eq_true rfl) dX11_init_19 (j_ct (un3_1 (by omega) (by omega)) ?_)
  refine j_aload_n C dX11_init_22 0 rfl rfl ?_
  refine j_bipush (v := 12) C dX11_init_23 (by decide) ?_
  refine j_newZ C 12 q1_39 (by decide) (by decide) (by decide) ⟨(Nat.le_of_ble_eq_true rfl), (Nat.le_of_ble_eq_true rfl)⟩ dX11_init_25 ?_
  refine j_putF (fs := [.ref (z + 72), .ref (z + 73), .null, .null, .null, .null, .null, .null, .null, .null, .int (0 : Int32), .null, .null, .null, .null, .int (0 : Int32), .int (0 : Int32), .double (0 : UInt64), .int (0 : Int32)]) C tyX11 tyX11_ok nmX11 (by omega) ((va_up_ne _ _ (by omega)).trans ((va_up_ne _ _ (by omega)).trans ((va_up_ne _ _ (by omega)).trans (va_up_self _ _ _)))) rfl inX11 2 (by decide) q3_105 rfl rfl rfl (tyX11_ok 2 (by decide)) rfl rfl (Nat.le_of_ble_eq_true rfl) dX11_init_27 (j_ct (un4_1 (by omega) (by omega) (by omega)) ?_)
  refine j_aload_n C dX11_init_30 0 rfl rfl ?_
  refine j_bipush (v := 48) C dX11_init_31 (by decide) ?_
  refine j_newI C 48 q3_161 (by decide) (by decide) (by decide) ⟨(Nat.le_of_ble_eq_true rfl), (Nat.le_of_ble_eq_true rfl)⟩ dX11_init_33 ?_
  refine j_putF (fs := [.ref (z + 72), .ref (z + 73), .ref (z + 74), .null, .null, .null, .null, .null, .null, .null, .int (0 : Int32), .null, .null, .null, .null, .int (0 : Int32), .int (0 : Int32), .double (0 : UInt64), .int (0 : Int32)]) C tyX11 tyX11_ok nmX11 (by omega) ((va_up_ne _ _ (by omega)).trans ((va_up_ne _ _ (by omega)).trans ((va_up_ne _ _ (by omega)).trans ((va_up_ne _ _ (by omega)).trans (va_up_self _ _ _))))) rfl inX11 3 (by decide) q3_106 rfl rfl rfl (tyX11_ok 3 (by decide)) rfl rfl (Nat.le_of_ble_eq_true rfl) dX11_init_35 (j_ct (un5_1 (by omega) (by omega) (by omega) (by omega)) ?_)
  refine j_aload_n C dX11_init_38 0 rfl rfl ?_
  refine j_sipush (v := 200) C dX11_init_39 (by decide) ?_
  refine j_newD C 200 q1_38 (by decide) (by decide) (by decide) ⟨(Nat.le_of_ble_eq_true rfl), (Nat.le_of_ble_eq_true rfl)⟩ dX11_init_42 ?_
  refine j_putF (fs := [.ref (z + 72), .ref (z + 73), .ref (z + 74), .ref (z + 75), .null, .null, .null, .null, .null, .null, .int (0 : Int32), .null, .null, .null, .null, .int (0 : Int32), .int (0 : Int32), .double (0 : UInt64), .int (0 : Int32)]) C tyX11 tyX11_ok nmX11 (by omega) ((va_up_ne _ _ (by omega)).trans ((va_up_ne _ _ (by omega)).trans ((va_up_ne _ _ (by omega)).trans ((va_up_ne _ _ (by omega)).trans ((va_up_ne _ _ (by omega)).trans (va_up_self _ _ _)))))) rfl inX11 4 (by decide) q3_107 rfl rfl rfl (tyX11_ok 4 (by decide)) rfl rfl (Nat.le_of_ble_eq_true rfl) dX11_init_44 (j_ct (un6_1 (by omega) (by omega) (by omega) (by omega) (by omega)) ?_)
  refine j_aload_n C dX11_init_47 0 rfl rfl ?_
  refine j_sipush (v := 200) C dX11_init_48 (by decide) ?_
  refine j_newZ C 200 q1_39 (by decide) (by decide) (by decide) ⟨(Nat.le_of_ble_eq_true rfl), (Nat.le_of_ble_eq_true rfl)⟩ dX11_init_51 ?_
  refine j_putF (fs := [.ref (z + 72), .ref (z + 73), .ref (z + 74), .ref (z + 75), .ref (z + 76), .null, .null, .null, .null, .null, .int (0 : Int32), .null, .null, .null, .null, .int (0 : Int32), .int (0 : Int32), .double (0 : UInt64), .int (0 : Int32)]) C tyX11 tyX11_ok nmX11 (by omega) ((va_up_ne _ _ (by omega)).trans ((va_up_ne _ _ (by omega)).trans ((va_up_ne _ _ (by omega)).trans ((va_up_ne _ _ (by omega)).trans ((va_up_ne _ _ (by omega)).trans ((va_up_ne _ _ (by omega)).trans (va_up_self _ _ _))))))) rfl inX11 5 (by decide) q3_108 rfl rfl rfl (tyX11_ok 5 (by decide)) rfl rfl (Nat.le_of_ble_eq_true rfl) dX11_init_53 (j_ct (un7_1 (by omega) (by omega) (by omega) (by omega) (by omega) (by omega)) ?_)
  refine j_aload_n C dX11_init_56 0 rfl rfl ?_
  refine j_ldc C q3_102 dX11_init_57 ?_
  refine j_newD C 102400 q1_38 (by decide) (by decide) (by decide) ⟨(Nat.le_of_ble_eq_true rfl), (Nat.le_of_ble_eq_true rfl)⟩ dX11_init_59 ?_
  refine j_putF (fs := [.ref (z + 72), .ref (z + 73), .ref (z + 74), .ref (z + 75), .ref (z + 76), .ref (z + 77), .null, .null, .null, .null, .int (0 : Int32), .null, .null, .null, .null, .int (0 : Int32), .int (0 : Int32), .double (0 : UInt64), .int (0 : Int32)]) C tyX11 tyX11_ok nmX11 (by omega) ((va_up_ne _ _ (by omega)).trans ((va_up_ne _ _ (by omega)).trans ((va_up_ne _ _ (by omega)).trans ((va_up_ne _ _ (by omega)).trans ((va_up_ne _ _ (by omega)).trans ((va_up_ne _ _ (by omega)).trans ((va_up_ne _ _ (by omega)).trans (va_up_self _ _ _)))))))) rfl inX11 6 (by decide) q3_109 rfl rfl rfl (tyX11_ok 6 (by decide)) rfl rfl (Nat.le_of_ble_eq_true rfl) dX11_init_61 (j_ct (un8_1 (by omega) (by omega) (by omega) (by omega) (by omega) (by omega) (by omega)) ?_)
  refine j_aload_n C dX11_init_64 0 rfl rfl ?_
  refine j_ldc C q3_102 dX11_init_65 ?_
  refine j_newZ C 102400 q1_39 (by decide) (by decide) (by decide) ⟨(Nat.le_of_ble_eq_true rfl), (Nat.le_of_ble_eq_true rfl)⟩ dX11_init_67 ?_
  refine j_putF (fs := [.ref (z + 72), .ref (z + 73), .ref (z + 74), .ref (z + 75), .ref (z + 76), .ref (z + 77), .ref (z + 78), .null, .null, .null, .int (0 : Int32), .null, .null, .null, .null, .int (0 : Int32), .int (0 : Int32), .double (0 : UInt64), .int (0 : Int32)]) C tyX11 tyX11_ok nmX11 (by omega) ((va_up_ne _ _ (by omega)).trans ((va_up_ne _ _ (by omega)).trans ((va_up_ne _ _ (by omega)).trans ((va_up_ne _ _ (by omega)).trans ((va_up_ne _ _ (by omega)).trans ((va_up_ne _ _ (by omega)).trans ((va_up_ne _ _ (by omega)).trans ((va_up_ne _ _ (by omega)).trans (va_up_self _ _ _))))))))) rfl inX11 7 (by decide) q3_110 rfl rfl rfl (tyX11_ok 7 (by decide)) rfl rfl (Nat.le_of_ble_eq_true rfl) dX11_init_69 (j_ct (un9_1 (by omega) (by omega) (by omega) (by omega) (by omega) (by omega) (by omega) (by omega)) ?_)
  refine j_aload_n C dX11_init_72 0 rfl rfl ?_
  refine j_sipush (v := 6144) C dX11_init_73 (by decide) ?_
  refine j_newZ C 6144 q1_39 (by decide) (by decide) (by decide) ⟨(Nat.le_of_ble_eq_true rfl), (Nat.le_of_ble_eq_true rfl)⟩ dX11_init_76 ?_
  refine j_putF (fs := [.ref (z + 72), .ref (z + 73), .ref (z + 74), .ref (z + 75), .ref (z + 76), .ref (z + 77), .ref (z + 78), .ref (z + 79), .null, .null, .int (0 : Int32), .null, .null, .null, .null, .int (0 : Int32), .int (0 : Int32), .double (0 : UInt64), .int (0 : Int32)]) C tyX11 tyX11_ok nmX11 (by omega) ((va_up_ne _ _ (by omega)).trans ((va_up_ne _ _ (by omega)).trans ((va_up_ne _ _ (by omega)).trans ((va_up_ne _ _ (by omega)).trans ((va_up_ne _ _ (by omega)).trans ((va_up_ne _ _ (by omega)).trans ((va_up_ne _ _ (by omega)).trans ((va_up_ne _ _ (by omega)).trans ((va_up_ne _ _ (by omega)).trans (va_up_self _ _ _)))))))))) rfl inX11 8 (by decide) q3_111 rfl rfl rfl (tyX11_ok 8 (by decide)) rfl rfl (Nat.le_of_ble_eq_true rfl) dX11_init_78 (j_ct (un10_1 (by omega) (by omega) (by omega) (by omega) (by omega) (by omega) (by omega) (by omega) (by omega)) ?_)
  refine j_aload_n C dX11_init_81 0 rfl rfl ?_
  refine j_sipush (v := 24576) C dX11_init_82 (by decide) ?_
  refine j_newI C 24576 q3_161 (by decide) (by decide) (by decide) ⟨(Nat.le_of_ble_eq_true rfl), (Nat.le_of_ble_eq_true rfl)⟩ dX11_init_85 ?_
  refine j_putF (fs := [.ref (z + 72), .ref (z + 73), .ref (z + 74), .ref (z + 75), .ref (z + 76), .ref (z + 77), .ref (z + 78), .ref (z + 79), .ref (z + 80), .null, .int (0 : Int32), .null, .null, .null, .null, .int (0 : Int32), .int (0 : Int32), .double (0 : UInt64), .int (0 : Int32)]) C tyX11 tyX11_ok nmX11 (by omega) ((va_up_ne _ _ (by omega)).trans ((va_up_ne _ _ (by omega)).trans ((va_up_ne _ _ (by omega)).trans ((va_up_ne _ _ (by omega)).trans ((va_up_ne _ _ (by omega)).trans ((va_up_ne _ _ (by omega)).trans ((va_up_ne _ _ (by omega)).trans ((va_up_ne _ _ (by omega)).trans ((va_up_ne _ _ (by omega)).trans ((va_up_ne _ _ (by omega)).trans (va_up_self _ _ _))))))))))) rfl inX11 9 (by decide) q3_112 rfl rfl rfl (tyX11_ok 9 (by decide)) rfl rfl (Nat.le_of_ble_eq_true rfl) dX11_init_87 (j_ct (un11_1 (by omega) (by omega) (by omega) (by omega) (by omega) (by omega) (by omega) (by omega) (by omega) (by omega)) ?_)
  refine j_aload_n C dX11_init_90 0 rfl rfl ?_
  refine j_bipush (v := 30) C dX11_init_91 (by decide) ?_
  refine j_newI C 30 q3_161 (by decide) (by decide) (by decide) ⟨(Nat.le_of_ble_eq_true rfl), (Nat.le_of_ble_eq_true rfl)⟩ dX11_init_93 ?_
  refine j_putF (fs := [.ref (z + 72), .ref (z + 73), .ref (z + 74), .ref (z + 75), .ref (z + 76), .ref (z + 77), .ref (z + 78), .ref (z + 79), .ref (z + 80), .ref (z + 81), .int (0 : Int32), .null, .null, .null, .null, .int (0 : Int32), .int (0 : Int32), .double (0 : UInt64), .int (0 : Int32)]) C tyX11 tyX11_ok nmX11 (by omega) ((va_up_ne _ _ (by omega)).trans ((va_up_ne _ _ (by omega)).trans ((va_up_ne _ _ (by omega)).trans ((va_up_ne _ _ (by omega)).trans ((va_up_ne _ _ (by omega)).trans ((va_up_ne _ _ (by omega)).trans ((va_up_ne _ _ (by omega)).trans ((va_up_ne _ _ (by omega)).trans ((va_up_ne _ _ (by omega)).trans ((va_up_ne _ _ (by omega)).trans ((va_up_ne _ _ (by omega)).trans (va_up_self _ _ _)))))))))))) rfl inX11 11 (by decide) q3_114 rfl rfl rfl (tyX11_ok 11 (by decide)) rfl rfl (Nat.le_of_ble_eq_true rfl) dX11_init_95 (j_ct (un12_1 (by omega) (by omega) (by omega) (by omega) (by omega) (by omega) (by omega) (by omega) (by omega) (by omega) (by omega)) ?_)
  refine j_aload_n C dX11_init_98 0 rfl rfl ?_
  refine j_bipush (v := 10) C dX11_init_99 (by decide) ?_
  refine j_newI C 10 q3_161 (by decide) (by decide) (by decide) ⟨(Nat.le_of_ble_eq_true rfl), (Nat.le_of_ble_eq_true rfl)⟩ dX11_init_101 ?_
  refine j_putF (fs := [.ref (z + 72), .ref (z + 73), .ref (z + 74), .ref (z + 75), .ref (z + 76), .ref (z + 77), .ref (z + 78), .ref (z + 79), .ref (z + 80), .ref (z + 81), .int (0 : Int32), .ref (z + 82), .null, .null, .null, .int (0 : Int32), .int (0 : Int32), .double (0 : UInt64), .int (0 : Int32)]) C tyX11 tyX11_ok nmX11 (by omega) ((va_up_ne _ _ (by omega)).trans ((va_up_ne _ _ (by omega)).trans ((va_up_ne _ _ (by omega)).trans ((va_up_ne _ _ (by omega)).trans ((va_up_ne _ _ (by omega)).trans ((va_up_ne _ _ (by omega)).trans ((va_up_ne _ _ (by omega)).trans ((va_up_ne _ _ (by omega)).trans ((va_up_ne _ _ (by omega)).trans ((va_up_ne _ _ (by omega)).trans ((va_up_ne _ _ (by omega)).trans ((va_up_ne _ _ (by omega)).trans (va_up_self _ _ _))))))))))))) rfl inX11 12 (by decide) q3_115 rfl rfl rfl (tyX11_ok 12 (by decide)) rfl rfl (Nat.le_of_ble_eq_true rfl) dX11_init_103 (j_ct (un13_1 (by omega) (by omega) (by omega) (by omega) (by omega) (by omega) (by omega) (by omega) (by omega) (by omega) (by omega) (by omega)) ?_)
  refine j_aload_n C dX11_init_106 0 rfl rfl ?_
  refine j_bipush (v := 10) C dX11_init_107 (by decide) ?_
  refine j_newI C 10 q3_161 (by decide) (by decide) (by decide) ⟨(Nat.le_of_ble_eq_true rfl), (Nat.le_of_ble_eq_true rfl)⟩ dX11_init_109 ?_
  refine j_putF (fs := [.ref (z + 72), .ref (z + 73), .ref (z + 74), .ref (z + 75), .ref (z + 76), .ref (z + 77), .ref (z + 78), .ref (z + 79), .ref (z + 80), .ref (z + 81), .int (0 : Int32), .ref (z + 82), .ref (z + 83), .null, .null, .int (0 : Int32), .int (0 : Int32), .double (0 : UInt64), .int (0 : Int32)]) C tyX11 tyX11_ok nmX11 (by omega) ((va_up_ne _ _ (by omega)).trans ((va_up_ne _ _ (by omega)).trans ((va_up_ne _ _ (by omega)).trans ((va_up_ne _ _ (by omega)).trans ((va_up_ne _ _ (by omega)).trans ((va_up_ne _ _ (by omega)).trans ((va_up_ne _ _ (by omega)).trans ((va_up_ne _ _ (by omega)).trans ((va_up_ne _ _ (by omega)).trans ((va_up_ne _ _ (by omega)).trans ((va_up_ne _ _ (by omega)).trans ((va_up_ne _ _ (by omega)).trans ((va_up_ne _ _ (by omega)).trans (va_up_self _ _ _)))))))))))))) rfl inX11 13 (by decide) q3_116 rfl rfl rfl (tyX11_ok 13 (by decide)) rfl rfl (Nat.le_of_ble_eq_true rfl) dX11_init_111 (j_ct (un14_1 (by omega) (by omega) (by omega) (by omega) (by omega) (by omega) (by omega) (by omega) (by omega) (by omega) (by omega) (by omega) (by omega)) ?_)
  refine j_aload_n C dX11_init_114 0 rfl rfl ?_
  refine j_bipush (v := 10) C dX11_init_115 (by decide) ?_
  refine j_newZ C 10 q1_39 (by decide) (by decide) (by decide) ⟨(Nat.le_of_ble_eq_true rfl), (Nat.le_of_ble_eq_true rfl)⟩ dX11_init_117 ?_
  refine j_putF (fs := [.ref (z + 72), .ref (z + 73), .ref (z + 74), .ref (z + 75), .ref (z + 76), .ref (z + 77), .ref (z + 78), .ref (z + 79), .ref (z + 80), .ref (z + 81), .int (0 : Int32), .ref (z + 82), .ref (z + 83), .ref (z + 84), .null, .int (0 : Int32), .int (0 : Int32), .double (0 : UInt64), .int (0 : Int32)]) C tyX11 tyX11_ok nmX11 (by omega) ((va_up_ne _ _ (by omega)).trans ((va_up_ne _ _ (by omega)).trans ((va_up_ne _ _ (by omega)).trans ((va_up_ne _ _ (by omega)).trans ((va_up_ne _ _ (by omega)).trans ((va_up_ne _ _ (by omega)).trans ((va_up_ne _ _ (by omega)).trans ((va_up_ne _ _ (by omega)).trans ((va_up_ne _ _ (by omega)).trans ((va_up_ne _ _ (by omega)).trans ((va_up_ne _ _ (by omega)).trans ((va_up_ne _ _ (by omega)).trans ((va_up_ne _ _ (by omega)).trans ((va_up_ne _ _ (by omega)).trans (va_up_self _ _ _))))))))))))))) rfl inX11 14 (by decide) q3_117 rfl rfl rfl (tyX11_ok 14 (by decide)) rfl rfl (Nat.le_of_ble_eq_true rfl) dX11_init_119 (j_ct (un15_1 (by omega) (by omega) (by omega) (by omega) (by omega) (by omega) (by omega) (by omega) (by omega) (by omega) (by omega) (by omega) (by omega) (by omega)) ?_)
  refine j_iconst (v := 0) C dX11_init_122 (by decide) ?_
  refine j_istore_n C [(1, .int (0 : Int32)), (0, .ref (z + 71))] dX11_init_123 rfl (by decide) rfl ?_
  refine j_ct mi_eq ?_
  exact j_re [1, 0] rfl (L_124 300 m_0 (0 : Int32) hg)
