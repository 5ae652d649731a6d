/-! the framework: a judgement over a heap that is a function of codes -/
abbrev GG : Type := va_G × ClassId × ClassId × ClassId × ClassId × ClassId
abbrev gty (G : GG) : List (ClassId × FieldType) := [(G.2.1, .double), (G.2.2.1, .int), (G.2.2.2.1, .boolean), (G.2.2.2.2.1, .object RX0), (G.2.2.2.2.2, .object RX3)]
abbrev cD (G : GG) (n : Nat) (f : Nat → UInt64) : va_E := .inl (G.2.1, n, .inr (.inr (.inr (.inl f))))
abbrev cI (G : GG) (n : Nat) (f : Nat → Int32) : va_E := .inl (G.2.2.1, n, .inl f)
abbrev cZ (G : GG) (n : Nat) (f : Nat → Int32) : va_E := .inl (G.2.2.2.1, n, .inl f)
abbrev cQA (G : GG) (n : Nat) (f : Nat → Option Nat) : va_E := .inl (G.2.2.2.2.1, n, .inr (.inr (.inr (.inr f))))
abbrev cQC (G : GG) (n : Nat) (f : Nat → Option Nat) : va_E := .inl (G.2.2.2.2.2, n, .inr (.inr (.inr (.inr f))))
abbrev cO (ci : Nat) (fs : List Value) : va_E := .inr (ci, fs)
def XW (U : State) : Prop := ∀ w ∈ lw_ex, w.before #[] U = true
theorem XW.same {u U : State} (h : u.vm = U.vm) (hX : XW u) : XW U := by
  intro w hw
  have h1 := hX w hw
  simp only [lw_ex, List.mem_cons, List.not_mem_nil, or_false] at hw
  rcases hw with rfl | rfl | rfl | rfl | rfl | rfl | rfl <;> first | exact va_Nw.same rfl h h1 | exact va_AO.moved (by rw [h]; exact Vm.Alike.refl _) h1
theorem XW.warm {s U : State} (hW : s.WarmedH U.vm) (hX : XW s) : XW U := by
  intro w hw
  have h1 := hX w hw
  simp only [lw_ex, List.mem_cons, List.not_mem_nil, or_false] at hw
  rcases hw with rfl | rfl | rfl | rfl | rfl | rfl | rfl <;> first | exact va_Nw.warmM hW h1 | exact va_Nw.warmD hW h1 | exact va_AO.moved hW.alike h1
def KW (G : GG) (U : State) : Prop := va_K G.1 vwCl (gty G) U ∧ XW U
theorem KW.warm {G : GG} {s U : State} (hW : s.WarmedH U.vm) (h : KW G s) : KW G U := ⟨va_K.moved hW.alike h.1, XW.warm hW h.2⟩
theorem KW.calling {G : GG} {U : State} {g : JFrame} {mk : MethodId} {a : Array Value} (h : KW G U) : KW G (U.calling g mk a) := ⟨va_K.moved (u := U) (U := U.calling g mk a) (Vm.Alike.refl U.vm) h.1, XW.same (u := U) (U := U.calling g mk a) rfl h.2⟩
def PW (D : va_G) (z : Nat) (ct : Nat → va_E) (N : Nat) (H : Heap) : Prop := H.size = z + N ∧ ∀ k, k < N → va_at D vwCl (z + k, ct k) H
theorem PW.one {D : va_G} {z N k : Nat} {ct : Nat → va_E} {H : Heap} {e : va_E} (h : PW D z ct N H) (hk : k < N) (he : ct k = e) : va_P D vwCl [(z + k, e)] H := by
  intro i q hq
  match i, hq with
  | 0, hq => cases hq; rw [← he]; exact h.2 k hk
  | i + 1, hq => simp at hq
theorem PW.set {D : va_G} {z N k : Nat} {ct : Nat → va_E} {H H1 : Heap} {e : va_E} (h : PW D z ct N H) (he : va_at D vwCl (z + k, e) H1) (hz : H1.size = H.size) (oq : ∀ q : Nat, q ≠ z + k → H1[q]? = H[q]?) : PW D z (va_up ct k e) N H1 := by
  refine ⟨by rw [hz]; exact h.1, fun j hj => ?_⟩
  by_cases hjk : j = k
  · subst hjk; rw [va_up_self]; exact he
  · rw [va_up_ne _ _ hjk]
    exact (h.2 j hj).kept (oq _ (show z + j ≠ z + k by omega))
theorem PW.push {D : va_G} {z N : Nat} {ct : Nat → va_E} {H H1 : Heap} {e : va_E} (h : PW D z ct N H) (he : va_at D vwCl (z + N, e) H1) (hz : H1.size = H.size + 1) (oq : ∀ q : Nat, q < H.size → H1[q]? = H[q]?) : PW D z (va_up ct N e) (N + 1) H1 := by
  have h1 := h.1
  refine ⟨by rw [hz, h1]; omega, fun j hj => ?_⟩
  by_cases hjk : j = N
  · subst hjk; rw [va_up_self]; exact he
  · rw [va_up_ne _ _ hjk]
    exact (h.2 j (by omega)).kept (oq _ (show z + j < H.size by rw [h1]; omega))
def zA (z : Nat) : Nat → Prop := fun q => z ≤ q
/-- the end of a method: its answer, the heap behind it, what lies below z untouched -/
def Qd (G : GG) (z : Nat) (rv : Option Value) (ct : Nat → va_E) (N : Nat) : Array Value → State → Outcome → State → Prop := fun _ st oc t => oc = .returned rv ∧ PW G.1 z ct N t.heap ∧ va_F (zA z) st t
abbrev ws_ (y : MethodName) (cc : ByteArray) (maxL : Nat) (ret : Option FieldType) : List Cond := .code y cc maxL ret :: lw_good
theorem good_ws {y : MethodName} {cc : ByteArray} {maxL : Nat} {ret : Option FieldType} (h : Cond.code y cc maxL ret ∈ lw_good) : GoodIn lw_good (ws_ y cc maxL ret) := by
  intro w hw
  rcases List.mem_cons.mp hw with rfl | hw
  · exact ⟨h, Or.inl rfl⟩
  · exact ⟨hw, good_of_word (List.mem_filter.mp hw).2⟩
def Ct (G : GG) (l : Launch) (y : MethodName) (cc : ByteArray) (maxL : Nat) (ret : Option FieldType) (rm : Room) (av : List Value) (z : Nat) (ct : Nat → va_E) (N : Nat) (rv : Option Value) (ct' : Nat → va_E) (N' : Nat) : Prop :=
  Met l y (ws_ y cc maxL ret) rm (va_Pc av (fun U => PW G.1 z ct N U.heap ∧ KW G U)) (Qd G z rv ct' N') rm.cells rm.slots (zA z)
theorem Ct.blind {G : GG} {av : List Value} {z N : Nat} {ct : Nat → va_E} : FrameBlind (va_Pc av (fun U => PW G.1 z ct N U.heap ∧ KW G U)) := fun a U g mk h => ⟨h.1, h.2.1, KW.calling h.2.2⟩
/-- what holds throughout a method's body -/
def Cx (G : GG) (p : Program) (s : State) (m : MethodId) (args : Array Value) (meth : Method) (c : Code) (cc : ByteArray) (nL : Nat) (own : String) (z : Nat) (ret : Option FieldType) (nme : String) : Prop :=
  p.tables.exec = Jvm.exec ∧ c.code = cc ∧ c.maxLocals = nL ∧ s.vm.findClass own = some m.cls ∧ (∀ w ∈ lw_good, w.before args s = true) ∧ KW G s ∧ z ≤ s.heap.size ∧ meth.locks = false ∧ meth.sig.returnType = ret ∧ meth.name = nme
section JJ
variable {G : GG} {p : Program} {l : Launch} {e : Env} {R : Room} {s : State} {m : MethodId} {args : Array Value} {below : List Frame} {meth : Method} {c : Code} {cc : ByteArray} {nL : Nat} {own : String} {z : Nat} {ret : Option FieldType} {nme : String} {Q : State → Prop}
theorem Cx.x (C : Cx G p s m args meth c cc nL own z ret nme) : p.tables.exec = Jvm.exec := C.1
theorem Cx.b (C : Cx G p s m args meth c cc nL own z ret nme) : c.code = cc := C.2.1
theorem Cx.lL (C : Cx G p s m args meth c cc nL own z ret nme) : c.maxLocals = nL := C.2.2.1
theorem Cx.o (C : Cx G p s m args meth c cc nL own z ret nme) : s.vm.findClass own = some m.cls := C.2.2.2.1
theorem Cx.w (C : Cx G p s m args meth c cc nL own z ret nme) : ∀ w ∈ lw_good, w.before args s = true := C.2.2.2.2.1
theorem Cx.k (C : Cx G p s m args meth c cc nL own z ret nme) : KW G s := C.2.2.2.2.2.1
theorem Cx.zz (C : Cx G p s m args meth c cc nL own z ret nme) : z ≤ s.heap.size := C.2.2.2.2.2.2.1
theorem Cx.n (C : Cx G p s m args meth c cc nL own z ret nme) : meth.locks = false := C.2.2.2.2.2.2.2.1
theorem Cx.r (C : Cx G p s m args meth c cc nL own z ret nme) : meth.sig.returnType = ret := C.2.2.2.2.2.2.2.2.1
theorem Cx.i (C : Cx G p s m args meth c cc nL own z ret nme) : meth.name = nme := C.2.2.2.2.2.2.2.2.2
theorem Cx.f (C : Cx G p s m args meth c cc nL own z ret nme) : CallFix p m c cc nL s args lw_good own := ⟨C.x, C.b, C.lL, C.o, C.w⟩
def J (G : GG) (p : Program) (l : Launch) (e : Env) (R : Room) (s : State) (m : MethodId) (args : Array Value) (below : List Frame) (meth : Method) (c : Code) (z nL : Nat) (Q : State → Prop) (ct : Nat → va_E) (N cells slots pc : Nat) (lv : List (Nat × Value)) (st : List Value) : Prop :=
  ∀ (H : Heap) (locs : List Loc) (ls : Array Slot), PW G.1 z ct N H → va_S (zA z) s.heap H locs → lv_has ls nL lv → W p l e R s m args below meth c H locs cells slots Q (F0 m pc ls st)
variable {ct : Nat → va_E} {N cells slots pc : Nat} {lv : List (Nat × Value)} {st rest : List Value}
theorem j_ct {ct' : Nat → va_E} (h : ct = ct') (k : J G p l e R s m args below meth c z nL Q ct' N cells slots pc lv st) : J G p l e R s m args below meth c z nL Q ct N cells slots pc lv st := h ▸ k
theorem j_re {lv' : List (Nat × Value)} (ks : List Nat) (h : lv_pick lv ks = lv') (k : J G p l e R s m args below meth c z nL Q ct N cells slots pc lv' st) : J G p l e R s m args below meth c z nL Q ct N cells slots pc lv st := fun H locs ls hP hS hl => k H locs ls hP hS (lv_sub hl ks h)
theorem j_wide {k n : Nat} (h1 : cells ≤ k) (h2 : slots ≤ n) (kk : J G p l e R s m args below meth c z nL Q ct N k n pc lv st) : J G p l e R s m args below meth c z nL Q ct N cells slots pc lv st := fun H locs ls hP hS hl => W.widen h1 h2 (kk H locs ls hP hS hl)
theorem Ct.of {y : MethodName} {rm : Room} {av : List Value} {ct' : Nat → va_E} {N' : Nat} {rv : Option Value} (hy : plainName y.cls = true) (hlen : (lg_sl av).length ≤ nL) (hlv : lv_args 0 av = lv)
    (h : ∀ (p : Program) (e : Env) (s : State) (m : MethodId) (args : Array Value) (below : List Frame) (meth : Method) (c : Code), Cx G p s m args meth c cc nL y.cls z ret y.name → J G p l e rm s m args below meth c z nL (MQ below (Qd G z rv ct' N') args s rm.cells rm.slots (zA z)) ct N 0 0 0 lv []) : Ct G l y cc nL ret rm av z ct N rv ct' N' := by
  refine Met.ofW (cc := cc) (maxL := nL) (ret := ret) hy rfl ?_
  intro p e s m args below meth c s₁ B hml hv
  obtain ⟨rfl, hP, hK⟩ := hv
  have hts := atoms_spec (ws := ws_ y cc nL ret) B.pre
  have hown : s.vm.findClass y.cls = some m.cls := findClass_of_methodNamed B.named
  have hnm : meth.name = y.name := (name_of_methodNamed B.named B.method).1
  have hl := lv_entry av (n := nL) hlen
  rw [hlv] at hl
  rw [lg_entry_eq]
  refine h p e s m _ below meth c ⟨B.exec, B.bytes, hml, hown, fun w hw => hts w (List.mem_cons_of_mem _ hw), hK, by rw [hP.1]; omega, B.notSynchronized, B.returns, hnm⟩ s.heap [] _ hP va_S.rf hl
theorem j_run {H : Heap} {locs : List Loc} {ls : Array Slot} {mc ms : Nat} {rv : Option Value} {ct' : Nat → va_E} {N' : Nat} {a : Array Value} (hr : va_Run p l e R s m args below meth c H locs cells slots mc ms (F0 m pc ls st) rest (Qd G z rv ct' N' a) (zA z)) (hS : va_S (zA z) s.heap H locs) (hl : lv_has ls nL lv)
    (k : J G p l e R s m args below meth c z nL Q ct' N' (cells + mc) (slots + ms) (pc + 3) lv (rv.toList ++ rest)) : W p l e R s m args below meth c H locs cells slots Q (F0 m pc ls st) := by
  intro T hT X
  obtain ⟨v, st₀, t, T', L, h0, X', hL, e1, e2, ⟨hv, hPW, hF1, hF2⟩, st⟩ := hr T hT X
  cases hv
  rw [h0] at hF1 hF2
  obtain ⟨t2, a1, b1⟩ := k T'.heap (locs ++ L) ls (by rw [e1]; exact hPW) ⟨Nat.le_trans hS.1 (by rw [e1]; exact hF1), fun q h1 h2 => by rw [e1, hF2 q (Nat.lt_of_lt_of_le h1 hS.1) h2]; exact hS.2.1 q h1 h2, fun q hq => by
      rcases List.mem_append.mp hq with h | h
      · exact hS.2.2 q h
      · exact hL q h⟩ hl T' rfl X'
  exact ⟨t2, st t2 a1, b1⟩
theorem j_pre {H : Heap} {av : List Value} (C : Cx G p s m args meth c cc nL own z ret nme) (hP : PW G.1 z ct N H) : PreS s H (va_Pc av (fun U => PW G.1 z ct N U.heap ∧ KW G U)) av := ⟨Ct.blind, fun U hU hW => ⟨rfl, by rw [hU]; exact hP, C.k.warm hW⟩⟩
theorem j_recv {H : Heap} {b ci : Nat} {q : vw_C} {fs : List Value} (C : Cx G p s m args meth c cc nL own z ret nme) (hP : PW G.1 z ct N H) (hb : b < N) (he : ct b = .inr (ci, fs)) (hc : vwCl[ci]? = some q) : ∃ cell : Cell, H[z + b]? = some cell ∧ cell.vm.isStatics = false ∧ s.vm.findClass q.1 = some cell.cls := va_recv C.k.1 (hP.one hb he) hc (q0 := 0) rfl
/-- a static call -/
theorem j_callS {index n : Nat} {y : MethodName} {bytes : ByteArray} {maxL : Nat} {rt : Option FieldType} {rm : Room} {rv : Option Value} {ct' : Nat → va_E} {N' : Nat} (C : Cx G p s m args meth c cc nL own z ret nme) (As : List Value) (hM : Ct G l y bytes maxL rt rm As z ct N rv ct' N')
    (hcode : Cond.code y bytes maxL rt ∈ lw_good) (hini : Cond.initialized y.cls ∈ lw_good) (hstat : Cond.static y ∈ lw_good) (hlink : Cond.methodLink own index y ∈ lw_good) (hd : y.cls ≠ "java/lang/invoke/MethodHandle" ∧ y.cls ≠ "java/lang/invoke/VarHandle" ∧ (parseMethodDescriptor y.desc).map (fun d => d.parameters.length) = some n)
    (hn : As.length = n) (d : decode cc pc = .ok (.invokestatic index, 3)) (hst : As.reverse ++ rest = st) (hW : (rest.map fun v => v.category).sum ≤ 8) (hR : rm.frames + 1 ≤ R.frames ∧ 8 + (maxL + 11) + rm.locals ≤ R.locals) (hf : cells + rm.cells ≤ R.cells ∧ slots + rm.slots ≤ R.slots)
    (k : J G p l e R s m args below meth c z nL Q ct' N' (cells + rm.cells) (slots + rm.slots) (pc + 3) lv (rv.toList ++ rest)) : J G p l e R s m args below meth c z nL Q ct N cells slots pc lv st := by
  intro H locs ls hP hS hl
  subst hst
  exact j_run (va_runS (As := As) (rest := rest) C.f hM ⟨callB_of n C.w (good_ws hcode) rfl rfl rfl (C.w _ hini) (C.w _ hlink) hd hR, C.w _ hstat⟩ (j_pre C hP) rfl hn hl.1 rfl (lv_room hW) d hf) hS hl k
/-- a call of an instance method of a known class -/
theorem j_callV {index n b ci : Nat} {q : vw_C} {fs : List Value} {y : MethodName} {bytes : ByteArray} {maxL : Nat} {rt : Option FieldType} {rm : Room} {rv : Option Value} {ct' : Nat → va_E} {N' : Nat} (C : Cx G p s m args meth c cc nL own z ret nme) (As : List Value) (hM : Ct G l y bytes maxL rt rm (.ref (z + b) :: As) z ct N rv ct' N')
    (hb : b < N) (he : ct b = .inr (ci, fs)) (hc : vwCl[ci]? = some q)
    (hcode : Cond.code y bytes maxL rt ∈ lw_good) (hini : Cond.initialized y.cls ∈ lw_good) (hinst : Cond.instanceMethod y ∈ lw_good) (hsel : Cond.selects q.1 y y ∈ lw_good) (hlink : Cond.methodLink own index y ∈ lw_good) (hd : y.cls ≠ "java/lang/invoke/MethodHandle" ∧ y.cls ≠ "java/lang/invoke/VarHandle" ∧ (parseMethodDescriptor y.desc).map (fun d => d.parameters.length) = some n)
    (hn : As.length = n) (d : decode cc pc = .ok (.invokevirtual index, 3)) (hst : As.reverse ++ .ref (z + b) :: rest = st) (hW : (rest.map fun v => v.category).sum ≤ 8) (hR : rm.frames + 1 ≤ R.frames ∧ 8 + (maxL + 11) + rm.locals ≤ R.locals) (hf : cells + rm.cells ≤ R.cells ∧ slots + rm.slots ≤ R.slots)
    (k : J G p l e R s m args below meth c z nL Q ct' N' (cells + rm.cells) (slots + rm.slots) (pc + 3) lv (rv.toList ++ rest)) : J G p l e R s m args below meth c z nL Q ct N cells slots pc lv st := by
  intro H locs ls hP hS hl
  subst hst
  exact j_run (va_runV (As := As) (rest := rest) (b := z + b) (C := q.1) C.f hM ⟨callB_of n C.w (good_ws hcode) rfl rfl rfl (C.w _ hini) (C.w _ hlink) hd hR, C.w _ hinst, C.w _ hsel⟩ ⟨Ct.blind, j_recv C hP hb he hc, (j_pre C hP).2⟩ rfl hn hl.1 rfl (lv_room hW) d hf) hS hl k
/-- a constructor's call -/
theorem j_callI {index n b : Nat} {y : MethodName} {bytes : ByteArray} {maxL : Nat} {rm : Room} {rv : Option Value} {ct' : Nat → va_E} {N' : Nat} (C : Cx G p s m args meth c cc nL own z ret nme) (As : List Value) (hM : Ct G l y bytes maxL none rm (.ref (z + b) :: As) z ct N rv ct' N')
    (hcode : Cond.code y bytes maxL none ∈ lw_good) (hini : Cond.initialized y.cls ∈ lw_good) (hinst : Cond.instanceMethod y ∈ lw_good) (hlink : Cond.methodLink own index y ∈ lw_good) (hy1 : y.name = "<init>") (hd : y.cls ≠ "java/lang/invoke/MethodHandle" ∧ y.cls ≠ "java/lang/invoke/VarHandle" ∧ (parseMethodDescriptor y.desc).map (fun d => d.parameters.length) = some n)
    (hn : As.length = n) (d : decode cc pc = .ok (.invokespecial index, 3)) (hst : As.reverse ++ .ref (z + b) :: rest = st) (hW : (rest.map fun v => v.category).sum ≤ 8) (hR : rm.frames + 1 ≤ R.frames ∧ 8 + (maxL + 11) + rm.locals ≤ R.locals) (hf : cells + rm.cells ≤ R.cells ∧ slots + rm.slots ≤ R.slots)
    (k : J G p l e R s m args below meth c z nL Q ct' N' (cells + rm.cells) (slots + rm.slots) (pc + 3) lv (rv.toList ++ rest)) : J G p l e R s m args below meth c z nL Q ct N cells slots pc lv st := by
  intro H locs ls hP hS hl
  subst hst
  exact j_run (va_runI (As := As) (rest := rest) (b := z + b) C.f hM ⟨callB_of n C.w (good_ws hcode) rfl rfl rfl (C.w _ hini) (C.w _ hlink) hd hR, hy1, C.w _ hinst⟩ (j_pre C hP) rfl hn hl.1 rfl (lv_room hW) d hf) hS hl k
/-- a nest mate's constructor -/
theorem j_callN {index n b : Nat} {host : String} {y : MethodName} {bytes : ByteArray} {maxL : Nat} {rm : Room} {rv : Option Value} {ct' : Nat → va_E} {N' : Nat} (C : Cx G p s m args meth c cc nL own z ret nme) (As : List Value) (hM : Ct G l y bytes maxL none rm (.ref (z + b) :: As) z ct N rv ct' N')
    (hcode : Cond.code y bytes maxL none ∈ lw_good) (hini : Cond.initialized y.cls ∈ lw_good) (hinst : Cond.instanceMethod y ∈ lw_good) (hlink : Cond.methodLinkNest own index y host ∈ lw_ex) (hy1 : y.name = "<init>") (hd : y.cls ≠ "java/lang/invoke/MethodHandle" ∧ y.cls ≠ "java/lang/invoke/VarHandle" ∧ (parseMethodDescriptor y.desc).map (fun d => d.parameters.length) = some n)
    (hn : As.length = n) (d : decode cc pc = .ok (.invokespecial index, 3)) (hst : As.reverse ++ .ref (z + b) :: rest = st) (hW : (rest.map fun v => v.category).sum ≤ 8) (hR : rm.frames + 1 ≤ R.frames ∧ 8 + (maxL + 11) + rm.locals ≤ R.locals) (hf : cells + rm.cells ≤ R.cells ∧ slots + rm.slots ≤ R.slots)
    (k : J G p l e R s m args below meth c z nL Q ct' N' (cells + rm.cells) (slots + rm.slots) (pc + 3) lv (rv.toList ++ rest)) : J G p l e R s m args below meth c z nL Q ct N cells slots pc lv st := by
  intro H locs ls hP hS hl
  subst hst
  exact j_run (va_runIN (As := As) (rest := rest) (b := z + b) C.f hM ⟨va_cnB n C.w (good_ws hcode) rfl rfl rfl (C.k.2 _ hlink) (C.w _ hini) hd hR, hy1, C.w _ hinst⟩ (j_pre C hP) rfl hn hl.1 rfl (lv_room hW) d hf) hS hl k
theorem j_objInit {idx b : Nat} (C : Cx G p s m args meth c cc nL own z ret nme) (hlink : Cond.methodLink own idx objectInit ∈ lw_good) (hinst : Cond.instanceMethod objectInit ∈ lw_good) (hcode : Cond.code objectInit object_method_1_code 1 none ∈ lw_good) (d : decode cc pc = .ok (.invokespecial idx, 3)) (hfr : 1 ≤ R.frames) (hlo : (rest.map fun v => v.category).sum + 12 ≤ R.locals)
    (k : J G p l e R s m args below meth c z nL Q ct N cells slots (pc + 3) lv rest) : J G p l e R s m args below meth c z nL Q ct N cells slots pc lv (.ref b :: rest) := by
  intro H locs ls hP hS hl
  exact W.objInit C.x C.b C.o (C.w _ hlink) (C.w _ hinst) (C.w _ hcode) rfl (by rw [C.lL]; exact hl.1) rfl d hfr (by show 2 * 0 + _ + 12 ≤ _; omega) (k H locs ls hP hS hl)
-- returns
theorem j_q {cells slots : Nat} {rv : Option Value} {ct' : Nat → va_E} {N' : Nat} {H : Heap} {locs : List Loc} (hc : ct = ct') (hN : N = N') (hP : PW G.1 z ct N H) (hS : va_S (zA z) s.heap H locs) : ∀ t : State, t.heap = H → s.WarmedH t.vm → Qd G z rv ct' N' args s (.returned rv) t := fun t ht _ => ⟨rfl, by subst hc; subst hN; rw [ht]; exact hP, hS.F ht⟩
variable {rv : Option Value} {ct' : Nat → va_E} {N' : Nat}
theorem j_iret {v : Int32} (C : Cx G p s m args meth c cc nL own z (some .int) nme) (d : decode cc pc = .ok (.ireturn, 1)) (hv : some (.int v) = rv) (hc : ct = ct') (hN : N = N') : J G p l e R s m args below meth c z nL (MQ below (Qd G z rv ct' N') args s cells slots (zA z)) ct N cells slots pc lv [.int v] := by
  intro H locs ls hP hS hl
  subst hv
  exact W.iret C.x C.b C.r (j_q (cells := cells) (slots := slots) hc hN hP hS) hS.2.2 d C.n
theorem j_zret {v : Int32} (C : Cx G p s m args meth c cc nL own z (some .boolean) nme) (d : decode cc pc = .ok (.ireturn, 1)) (hz : vp_nar .boolean v = v) (hv : some (.int v) = rv) (hc : ct = ct') (hN : N = N') : J G p l e R s m args below meth c z nL (MQ below (Qd G z rv ct' N') args s cells slots (zA z)) ct N cells slots pc lv [.int v] := by
  intro H locs ls hP hS hl
  subst hv
  exact W.zret C.x C.b C.r (by have h9 := hz; simp [vp_nar, narrow] at h9 ⊢; exact h9) (j_q (cells := cells) (slots := slots) hc hN hP hS) hS.2.2 d C.n
theorem j_lret {v : Int64} (C : Cx G p s m args meth c cc nL own z (some .long) nme) (d : decode cc pc = .ok (.lreturn, 1)) (hv : some (.long v) = rv) (hc : ct = ct') (hN : N = N') : J G p l e R s m args below meth c z nL (MQ below (Qd G z rv ct' N') args s cells slots (zA z)) ct N cells slots pc lv [.long v] := by
  intro H locs ls hP hS hl
  subst hv
  exact W.lret C.x C.b C.r (j_q (cells := cells) (slots := slots) hc hN hP hS) hS.2.2 d C.n
theorem j_dret {v : UInt64} (C : Cx G p s m args meth c cc nL own z (some .double) nme) (d : decode cc pc = .ok (.dreturn, 1)) (hv : some (.double v) = rv) (hc : ct = ct') (hN : N = N') : J G p l e R s m args below meth c z nL (MQ below (Qd G z rv ct' N') args s cells slots (zA z)) ct N cells slots pc lv [.double v] := by
  intro H locs ls hP hS hl
  subst hv
  exact W.dret C.x C.b C.r (j_q (cells := cells) (slots := slots) hc hN hP hS) hS.2.2 d C.n
theorem j_vret (C : Cx G p s m args meth c cc nL own z none nme) (d : decode cc pc = .ok (.return_, 1)) (hv : none = rv) (hc : ct = ct') (hN : N = N') : J G p l e R s m args below meth c z nL (MQ below (Qd G z rv ct' N') args s cells slots (zA z)) ct N cells slots pc lv [] := by
  intro H locs ls hP hS hl
  subst hv
  exact W.vret C.x C.b C.r (j_q (cells := cells) (slots := slots) hc hN hP hS) hS.2.2 d C.n
theorem j_aret {a : Nat} {nm : String} (C : Cx G p s m args meth c cc nL own z (some (.object nm)) nme) (d : decode cc pc = .ok (.areturn, 1)) (hv : some (.ref a) = rv) (hc : ct = ct') (hN : N = N') : J G p l e R s m args below meth c z nL (MQ below (Qd G z rv ct' N') args s cells slots (zA z)) ct N cells slots pc lv [.ref a] := by
  intro H locs ls hP hS hl
  subst hv
  exact W.aret C.x C.b C.r (Or.inl ⟨_, rfl⟩) (Or.inr ⟨_, rfl⟩) (j_q (cells := cells) (slots := slots) hc hN hP hS) hS.2.2 d C.n
end JJ
