def rdS (G : GG) (ct : Nat → va_E) (r n : Nat) (f : Nat → UInt64) (h : Nat → Int32) : Nat → va_E := va_up (va_up ct (r + 1) (cD G n f)) (r + 2) (cZ G n h)
abbrev rdO (z r : Nat) : va_E := .inr (4, [.ref (z + (r + 1)), .ref (z + (r + 2))])
abbrev coO (z k : Nat) (nar ff fa fb fc : Int32) : va_E := .inr (1, [.ref (z + (k + 1)), .int nar, .int ff, .int fa, .int fb, .int fc])
abbrev alO (a1 a2 a3 a4 a5 a6 : Int32) : va_E := .inr (0, [.int a1, .int a2, .int a3, .int a4, .int a5, .int a6])
def RdAt (G : GG) (z : Nat) (ct : Nat → va_E) (N r n : Nat) (f : Nat → UInt64) (h : Nat → Int32) : Prop := r + 2 < N ∧ ct r = rdO z r ∧ ct (r + 1) = cD G n f ∧ ct (r + 2) = cZ G n h
theorem up2 {α : Type} (f : Nat → α) (a : Nat) (x y : α) : va_up (va_up f a x) a y = va_up f a y := by
  funext k; by_cases h : k = a <;> simp [va_up, h]
theorem upsw {α : Type} (f : Nat → α) {a b : Nat} (h : a ≠ b) (x y : α) : va_up (va_up f a x) b y = va_up (va_up f b y) a x := by
  funext k
  by_cases h1 : k = a
  · subst h1; simp [va_up, h]
  · simp [va_up, h1]
theorem lk1_1 {α : Type} {f : Nat → α} {a : Nat} {x : α} : va_up f a x a = x := va_up_self f a x
theorem lk2_1 {α : Type} {f : Nat → α} {a b : Nat} {x y : α} (h : a ≠ b) : va_up (va_up f a x) b y a = x := by rw [va_up_ne _ _ h, va_up_self]
theorem lk2_2 {α : Type} {f : Nat → α} {a b : Nat} {x y : α} : va_up (va_up f a x) b y b = y := va_up_self _ _ _
theorem lk3_1 {α : Type} {f : Nat → α} {a b c : Nat} {x y w : α} (h : a ≠ b) (h2 : a ≠ c) : va_up (va_up (va_up f a x) b y) c w a = x := by rw [va_up_ne _ _ h2, va_up_ne _ _ h, va_up_self]
theorem lk3_2 {α : Type} {f : Nat → α} {a b c : Nat} {x y w : α} (h : b ≠ c) : va_up (va_up (va_up f a x) b y) c w b = y := by rw [va_up_ne _ _ h, va_up_self]
theorem lk3_3 {α : Type} {f : Nat → α} {a b c : Nat} {x y w : α} : va_up (va_up (va_up f a x) b y) c w c = w := va_up_self _ _ _
theorem un1_1 {α : Type} {f : Nat → α} {a : Nat} {x x' : α} : va_up (va_up f a x) a x' = va_up f a x' := up2 f a x x'
theorem un2_1 {α : Type} {f : Nat → α} {a b : Nat} {x y x' : α} (h : a ≠ b) : va_up (va_up (va_up f a x) b y) a x' = va_up (va_up f a x') b y := by rw [upsw _ (Ne.symm h), up2]
theorem un2_2 {α : Type} {f : Nat → α} {a b : Nat} {x y y' : α} : va_up (va_up (va_up f a x) b y) b y' = va_up (va_up f a x) b y' := up2 _ _ _ _
theorem un3_1 {α : Type} {f : Nat → α} {a b c : Nat} {x y w x' : α} (h : a ≠ b) (h2 : a ≠ c) : va_up (va_up (va_up (va_up f a x) b y) c w) a x' = va_up (va_up (va_up f a x') b y) c w := by rw [upsw _ (Ne.symm h2), un2_1 h]
theorem un3_2 {α : Type} {f : Nat → α} {a b c : Nat} {x y w y' : α} (h : b ≠ c) : va_up (va_up (va_up (va_up f a x) b y) c w) b y' = va_up (va_up (va_up f a x) b y') c w := un2_1 h
theorem un3_3 {α : Type} {f : Nat → α} {a b c : Nat} {x y w w' : α} : va_up (va_up (va_up (va_up f a x) b y) c w) c w' = va_up (va_up (va_up f a x) b y) c w' := up2 _ _ _ _
theorem rdS_self {G : GG} {ct : Nat → va_E} {r n : Nat} {f : Nat → UInt64} {h : Nat → Int32} (h1 : ct (r + 1) = cD G n f) (h2 : ct (r + 2) = cZ G n h) : rdS G ct r n f h = ct := by
  funext k
  unfold rdS
  by_cases e1 : k = r + 2
  · subst e1; rw [va_up_self, h2]
  · rw [va_up_ne _ _ e1]
    by_cases e2 : k = r + 1
    · subst e2; rw [va_up_self, h1]
    · rw [va_up_ne _ _ e2]
theorem rdS_ne {G : GG} {ct : Nat → va_E} {r n k : Nat} {f : Nat → UInt64} {h : Nat → Int32} (h1 : k ≠ r + 1) (h2 : k ≠ r + 2) : rdS G ct r n f h k = ct k := by
  unfold rdS; rw [va_up_ne _ _ h2, va_up_ne _ _ h1]
theorem j_callA {G : GG} {p : Program} {l : Launch} {e : Env} {R : Room} {s : State} {m : MethodId} {args : Array Value} {below : List Frame} {meth : Method} {c : Code} {cc : ByteArray} {nL : Nat} {own : String} {z : Nat} {ret : Option FieldType} {nme : String} {Q : State → Prop} {ct : Nat → va_E} {N cells slots pc : Nat} {lv : List (Nat × Value)} {st rest : List Value} {index n b ci : Nat} {q : vw_C} {fs : List Value} {x y : MethodName} {bytes : ByteArray} {maxL : Nat} {rt : Option FieldType} {rm : Room} {rv : Option Value} {ct' : Nat → va_E} {N' : Nat} (C : Cx G p s m args meth c cc nL own z ret nme) (As : List Value) (hM : Ct G l y bytes maxL rt rm (.ref (z + b) :: As) z ct N rv ct' N')
    (hb : b < N) (he : ct b = .inr (ci, fs)) (hc : vwCl[ci]? = some q)
    (hcode : Cond.code y bytes maxL rt ∈ lw_good) (hini : Cond.initialized y.cls ∈ lw_good) (hinst : Cond.instanceMethod y ∈ lw_good) (hsel : Cond.selects q.1 x y ∈ lw_good) (hlink : Cond.methodLink own index x ∈ lw_good) (hsame : Cond.sameMethod x.cls x.cls x.name x.desc ∈ lw_good) (hdec : Cond.declares x ∈ lw_ex) (hd : x.cls ≠ "java/lang/invoke/MethodHandle" ∧ x.cls ≠ "java/lang/invoke/VarHandle" ∧ (parseMethodDescriptor x.desc).map (fun d => d.parameters.length) = some n)
    (hn : As.length = n) (d : decode cc pc = .ok (.invokevirtual index, 3)) (hst : As.reverse ++ .ref (z + b) :: rest = st) (hW : (rest.map fun v => v.category).sum ≤ 8) (hR : rm.frames + 1 ≤ R.frames ∧ 8 + (maxL + 11) + rm.locals ≤ R.locals) (hf : cells + rm.cells ≤ R.cells ∧ slots + rm.slots ≤ R.slots)
    (k : J G p l e R s m args below meth c z nL Q ct' N' (cells + rm.cells) (slots + rm.slots) (pc + 3) lv (rv.toList ++ rest)) : J G p l e R s m args below meth c z nL Q ct N cells slots pc lv st := by
  intro H locs ls hP hS hl
  subst hst
  have hT : GoodIn lw_good (va_wsU own index q.1 x.cls x y (ws_ y bytes maxL rt)) := by
    intro w hw
    rcases List.mem_append.mp hw with h | h
    · simp only [List.mem_cons, List.not_mem_nil, or_false] at h
      rcases h with rfl | rfl | rfl | rfl | rfl
      · exact ⟨hlink, good_of_word (List.mem_filter.mp hlink).2⟩
      · exact ⟨hsame, good_of_word (List.mem_filter.mp hsame).2⟩
      · exact ⟨hsel, good_of_word (List.mem_filter.mp hsel).2⟩
      · exact ⟨hinst, good_of_word (List.mem_filter.mp hinst).2⟩
      · exact ⟨hini, good_of_word (List.mem_filter.mp hini).2⟩
    · exact good_ws hcode w h
  exact j_run (va_runU (As := As) (rest := rest) (b := z + b) (C := q.1) C.f hM (va_cwA n C.w hT rfl rfl rfl (C.k.2 _ hdec) hd hR) ⟨Ct.blind, j_recv C hP hb he hc, (j_pre C hP).2⟩ rfl hn hl.1 rfl (lv_room hW) d hf) hS hl k
section JV
variable {G : GG} {p : Program} {l : Launch} {e : Env} {R : Room} {s : State} {m : MethodId} {args : Array Value} {below : List Frame} {meth : Method} {c : Code} {cc : ByteArray} {nL : Nat} {own : String} {z : Nat} {ret : Option FieldType} {nme : String} {Q : State → Prop} {ct : Nat → va_E} {N cells slots pc : Nat} {lv : List (Nat × Value)} {st rest : List Value}
def isR (v : Value) : Prop := v = .null ∨ ∃ a, v = .ref a
theorem j_aload_nV (C : Cx G p s m args meth c cc nL own z ret nme) {k0 : Fin 4} {i : Nat} {x : Value} (hx : isR x) (d : decode cc pc = .ok (.aload_n k0, 1)) (j : Nat) (hj : lv[j]? = some (i, x)) (hi : (k0 : Nat) = i) (k : J G p l e R s m args below meth c z nL Q ct N cells slots (pc + 1) lv (x :: rest)) : J G p l e R s m args below meth c z nL Q ct N cells slots pc lv rest := by
  rcases hx with rfl | ⟨a, rfl⟩
  · exact fun H locs ls hP hS hl => lv_aload_nN C.x C.b d hi (lv_at hl j hj) (k H locs ls hP hS hl)
  · exact j_aload_n C d j hj hi k
theorem isR_cat {v : Value} (h : isR v) : v.category = 1 := by rcases h with rfl | ⟨a, rfl⟩ <;> rfl
theorem isR_nar {v : Value} (h : isR v) (C : String) : narrow (.object C) v = v := by rcases h with rfl | ⟨a, rfl⟩ <;> rfl
theorem isR_fit {v : Value} (h : isR v) (C : String) : fits (.object C) v = true := by rcases h with rfl | ⟨a, rfl⟩ <;> rfl
theorem nar_b {v : Int32} (h : vp_nar .boolean v = v) : narrow .boolean (.int v) = .int v := by
  have h9 := h; simp [vp_nar, narrow] at h9 ⊢; exact h9
theorem bool01 {v : Int32} (h : vp_nar .boolean v = v) : v = 0 ∨ v = 1 := by
  have h9 : v &&& 1 = v := by have h8 := h; simp [vp_nar, narrow] at h8; exact h8
  rw [pk_and v (m := 1) 1 (by decide)] at h9
  rcases (show v.toBitVec.toNat % 2 ^ 1 = 0 ∨ v.toBitVec.toNat % 2 ^ 1 = 1 by omega) with e | e
  · rw [e] at h9; exact Or.inl h9.symm
  · rw [e] at h9; exact Or.inr h9.symm
theorem fit_b {v : Int32} (h : vp_nar .boolean v = v) : fits .boolean (.int v) = true := by
  rcases bool01 h with rfl | rfl <;> rfl
theorem ix_lt {i : Int32} {n : Nat} (h : ix i n) : i.toNatClampNeg < n := by
  have e1 : i.toNatClampNeg = i.toInt.toNat := rfl
  have := h.1; have := h.2
  omega
end JV
