def b_0 (B8 : Nat → Int32) (B9 : (Nat → Int32) × (Nat → Int32)) (B3 : Nat → Int32) : BS := (fun _ => 0, fun _ => (-1), fun _ => 0, fun _ => 0, fun _ => 0, fun _ _ => 0, fun _ => B3, fun _ => 0, B8, fun _ => 0, B9.1, fun _ => 0, B9.2, fun _ => 0, fun _ => 0, fun _ => 0, fun _ => 0, fun _ => 0, fun _ => 0, 0, 0, .null, 0, 12)
theorem j_eqv {G : GG} {p : Program} {l : Launch} {e : Env} {R : Room} {s : State} {m : MethodId} {args : Array Value} {below : List Frame} {meth : Method} {c : Code} {nL z : Nat} {Q : State → Prop} {ct : Nat → va_E} {N cells slots pc : Nat} {lv : List (Nat × Value)} {st : List Value} {ct' : Nat → va_E} (h : ∀ k, k < N → ∀ H : Heap, va_at G.1 vwCl (z + k, ct k) H → va_at G.1 vwCl (z + k, ct' k) H) (k : J G p l e R s m args below meth c z nL Q ct' N cells slots pc lv st) : J G p l e R s m args below meth c z nL Q ct N cells slots pc lv st := fun H locs ls hP hS hl => k H locs ls ⟨hP.1, fun j hj => h j hj H (hP.2 j hj)⟩ hS hl
theorem q_ext (cA : ClassId) (n : Nat) (f f' : Nat → Option Nat) (h : ∀ j, j < n → f j = f' j) : vp_cell cA (n, .inr (.inr (.inr (.inr f)))) = vp_cell cA (n, .inr (.inr (.inr (.inr f')))) := by
  rw [vp_cell_q, vp_cell_q]
  unfold arrV
  congr 2
  funext j
  show va_rf (f j.val) = va_rf (f' j.val)
  rw [h j.val j.isLt]
theorem nI_ix {i n : Nat} (h : i < n) (hn : n < 2 ^ 31) : ix (nI i) n := by
  have e1 := nI_toInt (n := i) (by omega)
  exact ⟨by rw [e1]; omega, by rw [e1]; omega⟩
theorem icmp_t {c : Prop} [Decidable c] (h : c) : (if c then some () else none) = some () := if_pos h
theorem icmp_f {c : Prop} [Decidable c] (h : ¬ c) : (if c then none else some ()) = some () := if_neg h
theorem c1_step {G : GG} {z : Nat} {β : BS} {b : Nat → va_E} {i : Nat} (hi : i < 12) {F : Nat → Int32} (h0 : b_nar β i = 0) (h1 : b_ff β i = -1) (h2 : b_fa β i = 0) (h3 : b_fb β i = 0) (h4 : b_fc β i = 0) (h5 : b_num β i = fun _ => 0) (h6 : b_bl β i = F) : ∀ k, k < 13 + 4 * i + 4 → (va_up (va_up (va_up (va_up (va_up (va_up (va_up (ctB G z β b) 12 (cQA G 10 (fun j => if j < 0 then some (z + (61 + j)) else none))) 1 (cQC G 12 (fun j => if j < i then some (z + (13 + 4 * j)) else none))) (13 + 4 * i) (.inr (1, [.ref (z + (13 + 4 * i + 1)), .int 0, .int (-1), .int 0, .int 0, .int 0]))) (13 + 4 * i + 1) (rdO z (13 + 4 * i + 1))) (13 + 4 * i + 2) (cD G 16 (fun _ => 0))) (13 + 4 * i + 3) (cZ G 16 F)) 1 (cQC G 12 (va_up (fun j => if j < i then some (z + (13 + 4 * j)) else none) (nI i).toNatClampNeg (some (z + (13 + 4 * i)))))) k = (va_up (va_up (ctB G z β b) 12 (cQA G 10 (fun j => if j < 0 then some (z + (61 + j)) else none))) 1 (cQC G 12 (fun j => if j < i + 1 then some (z + (13 + 4 * j)) else none))) k := by
  intro k hk
  by_cases e1 : k = 1
  · subst e1
    rw [va_up_self, va_up_self, nI_clamp (by omega)]
    have e9 : va_up (fun j => if j < i then some (z + (13 + 4 * j)) else none) i (some (z + (13 + 4 * i))) = (fun j => if j < i + 1 then some (z + (13 + 4 * j)) else none) := by
      funext j
      by_cases hj : j = i
      · subst hj; rw [va_up_self, if_pos (by omega)]
      · rw [va_up_ne _ _ hj]
        by_cases h9 : j < i
        · rw [if_pos h9, if_pos (by omega)]
        · rw [if_neg h9, if_neg (by omega)]
    rw [e9]
  · rw [va_up_ne _ _ e1, va_up_ne _ _ e1]
    by_cases e5 : k = 13 + 4 * i + 3
    · subst e5; rw [va_up_self, va_up_ne _ _ (show _ ≠ 12 by omega), cb_bl hi, h6]
    · rw [va_up_ne _ _ e5]
      by_cases e4 : k = 13 + 4 * i + 2
      · subst e4; rw [va_up_self, va_up_ne _ _ (show _ ≠ 12 by omega), cb_num hi, h5]
      · rw [va_up_ne _ _ e4]
        by_cases e3 : k = 13 + 4 * i + 1
        · subst e3; rw [va_up_self, va_up_ne _ _ (show _ ≠ 12 by omega), cb_rd hi]
        · rw [va_up_ne _ _ e3]
          by_cases e2 : k = 13 + 4 * i
          · subst e2; rw [va_up_self, va_up_ne _ _ (show _ ≠ 12 by omega), cb_col hi, h0, h1, h2, h3, h4]
          · rw [va_up_ne _ _ e2, va_up_ne _ _ e1]
theorem a1_step {G : GG} {z : Nat} {β : BS} {b : Nat → va_E} {i : Nat} (hi : i < 10) (h1 : b_a1 β i = 0) (h2 : b_a2 β i = 0) (h3 : b_a3 β i = 0) (h4 : b_a4 β i = 0) (h5 : b_a5 β i = 0) (h6 : b_a6 β i = 0) : ∀ k, k < 61 + i + 1 → (va_up (va_up (va_up (ctB G z β b) 12 (cQA G 10 (fun j => if j < i then some (z + (61 + j)) else none))) (61 + i) (.inr (0, [.int 0, .int 0, .int 0, .int 0, .int 0, .int 0]))) 12 (cQA G 10 (va_up (fun j => if j < i then some (z + (61 + j)) else none) (nI i).toNatClampNeg (some (z + (61 + i)))))) k = (va_up (ctB G z β b) 12 (cQA G 10 (fun j => if j < i + 1 then some (z + (61 + j)) else none))) k := by
  intro k hk
  by_cases e1 : k = 12
  · subst e1
    rw [va_up_self, va_up_self, nI_clamp (by omega)]
    have e9 : va_up (fun j => if j < i then some (z + (61 + j)) else none) i (some (z + (61 + i))) = (fun j => if j < i + 1 then some (z + (61 + j)) else none) := by
      funext j
      by_cases hj : j = i
      · subst hj; rw [va_up_self, if_pos (by omega)]
      · rw [va_up_ne _ _ hj]
        by_cases h9 : j < i
        · rw [if_pos h9, if_pos (by omega)]
        · rw [if_neg h9, if_neg (by omega)]
    rw [e9]
  · rw [va_up_ne _ _ e1, va_up_ne _ _ e1]
    by_cases e2 : k = 61 + i
    · subst e2; rw [va_up_self, cb_al hi, h1, h2, h3, h4, h5, h6]
    · rw [va_up_ne _ _ e2, va_up_ne _ _ e1]
theorem bi_eq {G : GG} {z : Nat} {ct b : Nat → va_E} {B8 : Nat → Int32} {B9 : (Nat → Int32) × (Nat → Int32)} {B3 : Nat → Int32} : ∀ k, k < 13 → (va_up (va_up (va_up (va_up (va_up (va_up (va_up (va_up (va_up (va_up (va_up (va_up (va_up ct 0 (.inr (6, [.ref (z + 1), .ref (z + 2), .ref (z + 5), .ref (z + 12), .int (0 : Int32), .int (0 : Int32), .null, .int (0 : Int32), .int (12 : Int32)]))) 1 (cQC G 12 (fun _ => none))) 2 (.inr (4, [.ref (z + 3), .ref (z + 4)]))) 3 (cD G 8 (fun _ => 0))) 4 (cZ G 8 B8)) 5 (.inr (5, [.ref (z + 6), .ref (z + 9)]))) 6 (.inr (4, [.ref (z + 7), .ref (z + 8)]))) 7 (cD G 16 (fun _ => 0))) 8 (cZ G 16 B9.1)) 9 (.inr (4, [.ref (z + 10), .ref (z + 11)]))) 10 (cD G 16 (fun _ => 0))) 11 (cZ G 16 B9.2)) 12 (cQA G 10 (fun _ => none))) k = (va_up (va_up (ctB G z (b_0 B8 B9 B3) b) 12 (cQA G 10 (fun j => if j < 0 then some (z + (61 + j)) else none))) 1 (cQC G 12 (fun j => if j < 0 then some (z + (13 + 4 * j)) else none))) k := by
  intro k hk
  rcases (show k = 0 ∨ k = 1 ∨ k = 2 ∨ k = 3 ∨ k = 4 ∨ k = 5 ∨ k = 6 ∨ k = 7 ∨ k = 8 ∨ k = 9 ∨ k = 10 ∨ k = 11 ∨ k = 12 by omega) with rfl | rfl | rfl | rfl | rfl | rfl | rfl | rfl | rfl | rfl | rfl | rfl | rfl <;> rfl
theorem hd_X10_init : yX10_init.cls ≠ "java/lang/invoke/MethodHandle" ∧ yX10_init.cls ≠ "java/lang/invoke/VarHandle" ∧ (parseMethodDescriptor yX10_init.desc).map (fun d => d.parameters.length) = some 0 := by decide +kernel
set_option maxHeartbeats 4000000 in
set_option maxRecDepth 100000 in
theorem tX10_init {G : GG} {l : Launch} {z : Nat} {ct b : Nat → va_E} {B8 : Nat → Int32} {B9 : (Nat → Int32) × (Nat → Int32)} {B3 : Nat → Int32} (h8 : gX8_init8 = some B8) (h9 : gX9_init = some B9) (h3 : gX3_init = some B3) : Ct G l yX10_init cX10_init 2 none ({ frames := 3, cells := 70, slots := 650, locals := 62 } : Room) [.ref (z + 0)] z (va_up ct 0 (.inr (6, [.null, .null, .null, .null, .int (0 : Int32), .int (0 : Int32), .null, .int (0 : Int32), .int (0 : Int32)]))) 1 none (ctB G z (b_0 B8 B9 B3) b) 71 := by
  refine Ct.of (lv := [(0, .ref (z + 0))]) (by decide +kernel) (Nat.le_of_ble_eq_true rfl) rfl (fun p e s m args below meth c C => ?_)
  have L2 : ∀ (n i : Nat), i ≤ 10 → 10 ≤ i + n → J G p l e ({ frames := 3, cells := 70, slots := 650, locals := 62 } : Room) s m args below meth c z 2 (MQ below (Qd G z none (ctB G z (b_0 B8 B9 B3) b) 71) args s 70 650 (zA z)) (va_up (ctB G z (b_0 B8 B9 B3) b) 12 (cQA G 10 (fun j => if j < i then some (z + (61 + j)) else none))) (61 + i) (60 + i) (590 + 6 * i) 101 [(0, .ref (z + 0)), (1, .int (nI i))] [] := by
    intro n
    induction n with
    | zero =>
      intro i h1 h2
      have hi : i = 10 := by omega
      subst hi
      refine j_iload_n C dX10_init_101 1 rfl rfl ?_
      refine j_bipush (v := 10) C dX10_init_102 (by decide) ?_
      refine j_icmp_ge C 126 (icmp_t (by decide)) dX10_init_104 (by decide) (fun _ => ?_) (fun h => by cases h)
      refine j_eqv (ct' := ctB G z (b_0 B8 B9 B3) b) (fun k hk H h => ?_) ?_
      · by_cases e : k = 12
        · subst e
          rw [va_up_self] at h
          rw [cb_12]
          exact (show H[z + 12]? = _ from h).trans (congrArg some (q_ext _ _ _ _ (fun j hj => if_pos hj)))
        · rw [va_up_ne _ _ e] at h
          exact h
      exact j_vret C dX10_init_126 rfl rfl rfl
    | succ n ih =>
      intro i h1 h2
      by_cases hi : i = 10
      · exact ih i h1 (by omega)
      have hi : i < 10 := by omega
      refine j_iload_n C dX10_init_101 1 rfl rfl ?_
      refine j_bipush (v := 10) C dX10_init_102 (by decide) ?_
      refine j_icmp_ge C 126 (icmp_f (nI_ge (b := 10) hi (by decide))) dX10_init_104 (by decide) (fun h => by cases h) (fun _ => ?_)
      refine j_aload_n C dX10_init_107 0 rfl rfl ?_
      refine j_get (fs := [.ref (z + 1), .ref (z + 2), .ref (z + 5), .ref (z + 12), .int 0, .int 0, .null, .int 0, .int 12]) (v := .ref (z + 12)) C (by omega) ((va_up_ne _ _ (by decide)).trans cb_0) rfl inX10 3 (by decide) q1_127 rfl rfl dX10_init_108 ?_
      refine j_iload_n C dX10_init_111 1 rfl rfl ?_
      refine j_new C tyX0 tyX0_ok (ci := 0) rfl inX0 q1_57 q1_95 q1_5 [.int (0 : Int32), .int (0 : Int32), .int (0 : Int32), .int (0 : Int32), .int (0 : Int32), .int (0 : Int32)] (fun j hj => by rcases (show j = 0 ∨ j = 1 ∨ j = 2 ∨ j = 3 ∨ j = 4 ∨ j = 5 by omega) with rfl | rfl | rfl | rfl | rfl | rfl <;> rfl) ⟨(by show _ ≤ 70; omega), (by show _ ≤ 650; omega)⟩ dX10_init_112 ?_
      refine j_dup C dX10_init_115 rfl ?_
      refine j_callN C [] (tX0_init (t := 61 + i) (r := ()) (by omega) rfl) q1_98 q1_5 q1_97 eq1_96 rfl hd_X0_init rfl dX10_init_116 rfl (Nat.le_of_ble_eq_true rfl) ⟨(Nat.le_of_ble_eq_true rfl), (Nat.le_of_ble_eq_true rfl)⟩ ⟨(by show 60 + i + 1 + 0 ≤ 70; omega), (by show 590 + 6 * i + 6 + 0 ≤ 650; omega)⟩ ?_
      refine j_aastA C (vp_in_nI hi (by decide)) (by omega) ((va_up_ne _ _ (by omega)).trans (va_up_self _ _ _)) (by omega) (va_up_self _ _ _) dX10_init_119 ?_
      refine j_lt (a1_step hi rfl rfl rfl rfl rfl rfl) ?_
      refine j_iinc C [(1, .int (nI (i + 1))), (0, .ref (z + 0))] dX10_init_120 1 rfl (nI_1 i) (by decide) rfl ?_
      refine j_goto C 101 dX10_init_123 (by decide) ?_
      exact j_re [1, 0] rfl (ih (i + 1) (by omega) (by omega))
  have L1 : ∀ (n i : Nat), i ≤ 12 → 12 ≤ i + n → J G p l e ({ frames := 3, cells := 70, slots := 650, locals := 62 } : Room) s m args below meth c z 2 (MQ below (Qd G z none (ctB G z (b_0 B8 B9 B3) b) 71) args s 70 650 (zA z)) (va_up (va_up (ctB G z (b_0 B8 B9 B3) b) 12 (cQA G 10 (fun j => if j < 0 then some (z + (61 + j)) else none))) 1 (cQC G 12 (fun j => if j < i then some (z + (13 + 4 * j)) else none))) (13 + 4 * i) (12 + 4 * i) (110 + 40 * i) 74 [(0, .ref (z + 0)), (1, .int (nI i))] [] := by
    intro n
    induction n with
    | zero =>
      intro i h1 h2
      have hi : i = 12 := by omega
      subst hi
      refine j_iload_n C dX10_init_74 1 rfl rfl ?_
      refine j_bipush (v := 12) C dX10_init_75 (by decide) ?_
      refine j_icmp_ge C 99 (icmp_t (by decide)) dX10_init_77 (by decide) (fun _ => ?_) (fun h => by cases h)
      refine j_iconst (v := 0) C dX10_init_99 (by decide) ?_
      refine j_istore_n C [(1, .int 0), (0, .ref (z + 0))] dX10_init_100 rfl (by decide) rfl ?_
      refine j_eqv (ct' := (va_up (ctB G z (b_0 B8 B9 B3) b) 12 (cQA G 10 (fun j => if j < 0 then some (z + (61 + j)) else none)))) (fun k hk H h => ?_) (j_re [1, 0] rfl (L2 10 0 (by decide) (by decide)))
      by_cases e : k = 1
      · subst e
        rw [va_up_self] at h
        rw [va_up_ne _ _ (by decide), cb_1]
        exact (show H[z + 1]? = _ from h).trans (congrArg some (q_ext _ _ _ _ (fun j hj => if_pos hj)))
      · rw [va_up_ne _ _ e] at h
        by_cases e2 : k = 12
        · subst e2; exact h
        · exact h
    | succ n ih =>
      intro i h1 h2
      by_cases hi : i = 12
      · exact ih i h1 (by omega)
      have hi : i < 12 := by omega
      refine j_iload_n C dX10_init_74 1 rfl rfl ?_
      refine j_bipush (v := 12) C dX10_init_75 (by decide) ?_
      refine j_icmp_ge C 99 (icmp_f (nI_ge (b := 12) hi (by decide))) dX10_init_77 (by decide) (fun h => by cases h) (fun _ => ?_)
      refine j_aload_n C dX10_init_80 0 rfl rfl ?_
      refine j_get (fs := [.ref (z + 1), .ref (z + 2), .ref (z + 5), .ref (z + 12), .int 0, .int 0, .null, .int 0, .int 12]) (v := .ref (z + 1)) C (by omega) ((va_up_ne _ _ (by decide)).trans ((va_up_ne _ _ (by decide)).trans cb_0)) rfl inX10 0 (by decide) q1_124 rfl rfl dX10_init_81 ?_
      refine j_iload_n C dX10_init_84 1 rfl rfl ?_
      refine j_new C tyX3 tyX3_ok (ci := 1) rfl inX3 q1_23 q1_59 q1_4 [.null, .int (0 : Int32), .int (0 : Int32), .int (0 : Int32), .int (0 : Int32), .int (0 : Int32)] (fun j hj => by rcases (show j = 0 ∨ j = 1 ∨ j = 2 ∨ j = 3 ∨ j = 4 ∨ j = 5 by omega) with rfl | rfl | rfl | rfl | rfl | rfl <;> rfl) ⟨(by show _ ≤ 70; omega), (by show _ ≤ 650; omega)⟩ dX10_init_85 ?_
      refine j_dup C dX10_init_88 rfl ?_
      refine j_callN C [] (tX3_init (t := 13 + 4 * i) h3) q1_62 q1_4 q1_61 eq1_60 rfl hd_X3_init rfl dX10_init_89 rfl (Nat.le_of_ble_eq_true rfl) ⟨(Nat.le_of_ble_eq_true rfl), (Nat.le_of_ble_eq_true rfl)⟩ ⟨(by show 12 + 4 * i + 1 + 3 ≤ 70; omega), (by show 110 + 40 * i + 6 + 34 ≤ 650; omega)⟩ ?_
      refine j_aastC C (vp_in_nI hi (by decide)) (by omega) ((va_up_ne _ _ (by omega)).trans ((va_up_ne _ _ (by omega)).trans ((va_up_ne _ _ (by omega)).trans ((va_up_ne _ _ (by omega)).trans (va_up_self _ _ _))))) (by omega) ((va_up_ne _ _ (by omega)).trans ((va_up_ne _ _ (by omega)).trans ((va_up_ne _ _ (by omega)).trans (va_up_self _ _ _)))) dX10_init_92 ?_
      refine j_lt (c1_step hi rfl rfl rfl rfl rfl rfl rfl) ?_
      refine j_iinc C [(1, .int (nI (i + 1))), (0, .ref (z + 0))] dX10_init_93 1 rfl (nI_1 i) (by decide) rfl ?_
      refine j_goto C 74 dX10_init_96 (by decide) ?_
      exact j_re [1, 0] rfl (ih (i + 1) (by omega) (by omega))
  refine j_aload_n C dX10_init_0 0 rfl rfl ?_
  refine j_objInit C q1_20 q1_21 q1_22 dX10_init_1 (Nat.le_of_ble_eq_true rfl) (Nat.le_of_ble_eq_true rfl) ?_
  refine j_aload_n C dX10_init_4 0 rfl rfl ?_
  refine j_bipush (v := 12) C dX10_init_5 (by decide) ?_
  refine j_newqC C 12 q1_23 eq1_24 (by decide) (by decide) (by decide) ⟨(Nat.le_of_ble_eq_true rfl), (Nat.le_of_ble_eq_true rfl)⟩ dX10_init_7 ?_
  refine j_putF (fs := [.null, .null, .null, .null, .int (0 : Int32), .int (0 : Int32), .null, .int (0 : Int32), .int (0 : Int32)]) C tyX10 tyX10_ok nmX10 (by omega) ((va_up_ne _ _ (by omega)).trans (va_up_self _ _ _)) rfl inX10 0 (by decide) q1_124 rfl rfl rfl (tyX10_ok 0 (by decide)) rfl rfl (Nat.le_of_ble_eq_true rfl) dX10_init_10 (j_ct (un2_1 (by omega)) ?_)
  refine j_aload_n C dX10_init_13 0 rfl rfl ?_
  refine j_new C tyX8 tyX8_ok (ci := 4) rfl inX8 q1_25 q1_26 q1_2 [.null, .null] (fun j hj => by rcases (show j = 0 ∨ j = 1 by omega) with rfl | rfl <;> rfl) ⟨(Nat.le_of_ble_eq_true rfl), (Nat.le_of_ble_eq_true rfl)⟩ dX10_init_14 ?_
  refine j_dup C dX10_init_17 rfl ?_
  refine j_bipush (v := 8) C dX10_init_18 (by decide) ?_
  refine j_callI C [.int (8 : Int32)] (tX8_init8 (t := 2) h8) q1_29 q1_2 q1_28 q1_27 rfl hd_X8_init rfl dX10_init_20 rfl (Nat.le_of_ble_eq_true rfl) ⟨(Nat.le_of_ble_eq_true rfl), (Nat.le_of_ble_eq_true rfl)⟩ ⟨(Nat.le_of_ble_eq_true rfl), (Nat.le_of_ble_eq_true rfl)⟩ ?_
  refine j_putF (fs := [.ref (z + 1), .null, .null, .null, .int (0 : Int32), .int (0 : Int32), .null, .int (0 : Int32), .int (0 : Int32)]) C tyX10 tyX10_ok nmX10 (by omega) ((va_up_ne _ _ (by omega)).trans ((va_up_ne _ _ (by omega)).trans ((va_up_ne _ _ (by omega)).trans ((va_up_ne _ _ (by omega)).trans (va_up_self _ _ _))))) rfl inX10 1 (by decide) q1_125 rfl rfl rfl (tyX10_ok 1 (by decide)) rfl rfl (Nat.le_of_ble_eq_true rfl) dX10_init_23 (j_ct (un5_1 (by omega) (by omega) (by omega) (by omega)) ?_)
  refine j_aload_n C dX10_init_26 0 rfl rfl ?_
  refine j_new C tyX9 tyX9_ok (ci := 5) rfl inX9 q1_40 q1_41 q1_3 [.null, .null] (fun j hj => by rcases (show j = 0 ∨ j = 1 by omega) with rfl | rfl <;> rfl) ⟨(Nat.le_of_ble_eq_true rfl), (Nat.le_of_ble_eq_true rfl)⟩ dX10_init_27 ?_
  refine j_dup C dX10_init_30 rfl ?_
  refine j_callN C [] (tX9_init (t := 5) h9) q1_44 q1_3 q1_43 eq1_42 rfl hd_X9_init rfl dX10_init_31 rfl (Nat.le_of_ble_eq_true rfl) ⟨(Nat.le_of_ble_eq_true rfl), (Nat.le_of_ble_eq_true rfl)⟩ ⟨(Nat.le_of_ble_eq_true rfl), (Nat.le_of_ble_eq_true rfl)⟩ ?_
  refine j_putF (fs := [.ref (z + 1), .ref (z + 2), .null, .null, .int (0 : Int32), .int (0 : Int32), .null, .int (0 : Int32), .int (0 : Int32)]) C tyX10 tyX10_ok nmX10 (by omega) ((va_up_ne _ _ (by omega)).trans ((va_up_ne _ _ (by omega)).trans ((va_up_ne _ _ (by omega)).trans ((va_up_ne _ _ (by omega)).trans ((va_up_ne _ _ (by omega)).trans ((va_up_ne _ _ (by omega)).trans ((va_up_ne _ _ (by omega)).trans ((va_up_ne _ _ (by omega)).trans ((va_up_ne _ _ (by omega)).trans ((va_up_ne _ _ (by omega)).trans ((va_up_ne _ _ (by omega)).trans (va_up_self _ _ _)))))))))))) rfl inX10 2 (by decide) q1_126 rfl rfl rfl (tyX10_ok 2 (by decide)) rfl rfl (Nat.le_of_ble_eq_true rfl) dX10_init_34 (j_ct (un12_1 (by omega) (by omega) (by omega) (by omega) (by omega) (by omega) (by omega) (by omega) (by omega) (by omega) (by omega)) ?_)
  refine j_aload_n C dX10_init_37 0 rfl rfl ?_
  refine j_bipush (v := 10) C dX10_init_38 (by decide) ?_
  refine j_newqA C 10 q1_57 eq1_58 (by decide) (by decide) (by decide) ⟨(Nat.le_of_ble_eq_true rfl), (Nat.le_of_ble_eq_true rfl)⟩ dX10_init_40 ?_
  refine j_putF (fs := [.ref (z + 1), .ref (z + 2), .ref (z + 5), .null, .int (0 : Int32), .int (0 : Int32), .null, .int (0 : Int32), .int (0 : Int32)]) C tyX10 tyX10_ok nmX10 (by omega) ((va_up_ne _ _ (by omega)).trans ((va_up_ne _ _ (by omega)).trans ((va_up_ne _ _ (by omega)).trans ((va_up_ne _ _ (by omega)).trans ((va_up_ne _ _ (by omega)).trans ((va_up_ne _ _ (by omega)).trans ((va_up_ne _ _ (by omega)).trans ((va_up_ne _ _ (by omega)).trans ((va_up_ne _ _ (by omega)).trans ((va_up_ne _ _ (by omega)).trans ((va_up_ne _ _ (by omega)).trans ((va_up_ne _ _ (by omega)).trans (va_up_self _ _ _))))))))))))) rfl inX10 3 (by decide) q1_127 rfl rfl rfl (tyX10_ok 3 (by decide)) rfl rfl (Nat.le_of_ble_eq_true rfl) dX10_init_43 (j_ct (un13_1 (by omega) (by omega) (by omega) (by omega) (by omega) (by omega) (by omega) (by omega) (by omega) (by omega) (by omega) (by omega)) ?_)
  refine j_aload_n C dX10_init_46 0 rfl rfl ?_
  refine j_iconst (v := 0) C dX10_init_47 (by decide) ?_
  refine j_put (fs := [.ref (z + 1), .ref (z + 2), .ref (z + 5), .ref (z + 12), .int (0 : Int32), .int (0 : Int32), .null, .int (0 : Int32), .int (0 : Int32)]) C tyX10 tyX10_ok nmX10 (by omega) ((va_up_ne _ _ (by omega)).trans ((va_up_ne _ _ (by omega)).trans ((va_up_ne _ _ (by omega)).trans ((va_up_ne _ _ (by omega)).trans ((va_up_ne _ _ (by omega)).trans ((va_up_ne _ _ (by omega)).trans ((va_up_ne _ _ (by omega)).trans ((va_up_ne _ _ (by omega)).trans ((va_up_ne _ _ (by omega)).trans ((va_up_ne _ _ (by omega)).trans ((va_up_ne _ _ (by omega)).trans ((va_up_ne _ _ (by omega)).trans (va_up_self _ _ _))))))))))))) rfl inX10 4 (by decide) q1_128 rfl rfl (tyX10_ok 4 (by decide)) rfl rfl (Nat.le_of_ble_eq_true rfl) dX10_init_48 (j_ct (un13_1 (by omega) (by omega) (by omega) (by omega) (by omega) (by omega) (by omega) (by omega) (by omega) (by omega) (by omega) (by omega)) ?_)
  refine j_aload_n C dX10_init_51 0 rfl rfl ?_
  refine j_iconst (v := 0) C dX10_init_52 (by decide) ?_
  refine j_put (fs := [.ref (z + 1), .ref (z + 2), .ref (z + 5), .ref (z + 12), .int (0 : Int32), .int (0 : Int32), .null, .int (0 : Int32), .int (0 : Int32)]) C tyX10 tyX10_ok nmX10 (by omega) ((va_up_ne _ _ (by omega)).trans ((va_up_ne _ _ (by omega)).trans ((va_up_ne _ _ (by omega)).trans ((va_up_ne _ _ (by omega)).trans ((va_up_ne _ _ (by omega)).trans ((va_up_ne _ _ (by omega)).trans ((va_up_ne _ _ (by omega)).trans ((va_up_ne _ _ (by omega)).trans ((va_up_ne _ _ (by omega)).trans ((va_up_ne _ _ (by omega)).trans ((va_up_ne _ _ (by omega)).trans ((va_up_ne _ _ (by omega)).trans (va_up_self _ _ _))))))))))))) rfl inX10 5 (by decide) q1_129 rfl rfl (tyX10_ok 5 (by decide)) rfl rfl (Nat.le_of_ble_eq_true rfl) dX10_init_53 (j_ct (un13_1 (by omega) (by omega) (by omega) (by omega) (by omega) (by omega) (by omega) (by omega) (by omega) (by omega) (by omega) (by omega)) ?_)
  refine j_aload_n C dX10_init_56 0 rfl rfl ?_
  refine j_null C dX10_init_57 ?_
  refine j_put (fs := [.ref (z + 1), .ref (z + 2), .ref (z + 5), .ref (z + 12), .int (0 : Int32), .int (0 : Int32), .null, .int (0 : Int32), .int (0 : Int32)]) C tyX10 tyX10_ok nmX10 (by omega) ((va_up_ne _ _ (by omega)).trans ((va_up_ne _ _ (by omega)).trans ((va_up_ne _ _ (by omega)).trans ((va_up_ne _ _ (by omega)).trans ((va_up_ne _ _ (by omega)).trans ((va_up_ne _ _ (by omega)).trans ((va_up_ne _ _ (by omega)).trans ((va_up_ne _ _ (by omega)).trans ((va_up_ne _ _ (by omega)).trans ((va_up_ne _ _ (by omega)).trans ((va_up_ne _ _ (by omega)).trans ((va_up_ne _ _ (by omega)).trans (va_up_self _ _ _))))))))))))) rfl inX10 6 (by decide) q1_130 rfl rfl (tyX10_ok 6 (by decide)) rfl rfl (Nat.le_of_ble_eq_true rfl) dX10_init_58 (j_ct (un13_1 (by omega) (by omega) (by omega) (by omega) (by omega) (by omega) (by omega) (by omega) (by omega) (by omega) (by omega) (by omega)) ?_)
  refine j_aload_n C dX10_init_61 0 rfl rfl ?_
  refine j_iconst (v := 0) C dX10_init_62 (by decide) ?_
  refine j_put (fs := [.ref (z + 1), .ref (z + 2), .ref (z + 5), .ref (z + 12), .int (0 : Int32), .int (0 : Int32), .null, .int (0 : Int32), .int (0 : Int32)]) C tyX10 tyX10_ok nmX10 (by omega) ((va_up_ne _ _ (by omega)).trans ((va_up_ne _ _ (by omega)).trans ((va_up_ne _ _ (by omega)).trans ((va_up_ne _ _ (by omega)).trans ((va_up_ne _ _ (by omega)).trans ((va_up_ne _ _ (by omega)).trans ((va_up_ne _ _ (by omega)).trans ((va_up_ne _ _ (by omega)).trans ((va_up_ne _ _ (by omega)).trans ((va_up_ne _ _ (by omega)).trans ((va_up_ne _ _ (by omega)).trans ((va_up_ne _ _ (by omega)).trans (va_up_self _ _ _))))))))))))) rfl inX10 7 (by decide) q1_131 rfl rfl (tyX10_ok 7 (by decide)) rfl rfl (Nat.le_of_ble_eq_true rfl) dX10_init_63 (j_ct (un13_1 (by omega) (by omega) (by omega) (by omega) (by omega) (by omega) (by omega) (by omega) (by omega) (by omega) (by omega) (by omega)) ?_)
  refine j_aload_n C dX10_init_66 0 rfl rfl ?_
  refine j_bipush (v := 12) C dX10_init_67 (by decide) ?_
  refine j_put (fs := [.ref (z + 1), .ref (z + 2), .ref (z + 5), .ref (z + 12), .int (0 : Int32), .int (0 : Int32), .null, .int (0 : Int32), .int (0 : Int32)]) C tyX10 tyX10_ok nmX10 (by omega) ((va_up_ne _ _ (by omega)).trans ((va_up_ne _ _ (by omega)).trans ((va_up_ne _ _ (by omega)).trans ((va_up_ne _ _ (by omega)).trans ((va_up_ne _ _ (by omega)).trans ((va_up_ne _ _ (by omega)).trans ((va_up_ne _ _ (by omega)).trans ((va_up_ne _ _ (by omega)).trans ((va_up_ne _ _ (by omega)).trans ((va_up_ne _ _ (by omega)).trans ((va_up_ne _ _ (by omega)).trans ((va_up_ne _ _ (by omega)).trans (va_up_self _ _ _))))))))))))) rfl inX10 8 (by decide) q1_132 rfl rfl (tyX10_ok 8 (by decide)) rfl rfl (Nat.le_of_ble_eq_true rfl) dX10_init_69 (j_ct (un13_1 (by omega) (by omega) (by omega) (by omega) (by omega) (by omega) (by omega) (by omega) (by omega) (by omega) (by omega) (by omega)) ?_)
  refine j_iconst (v := 0) C dX10_init_72 (by decide) ?_
  refine j_istore_n C [(1, .int (0 : Int32)), (0, .ref (z + 0))] dX10_init_73 rfl (by decide) rfl ?_
  refine j_lt (bi_eq (b := b) (B3 := B3)) ?_
  exact j_re [1, 0] rfl (L1 12 0 (by decide) (by decide))
