abbrev ix (i : Int32) (n : Nat) : Prop := 0 ≤ i.toInt ∧ i.toInt < (n : Int)
theorem n64_of {r : UInt64} (h : FP.dIsNaN r = false) : vf_n64 r := by
  have h1 : ¬ (9218868437227405312 < r.toNat % 2 ^ 63) := fun q => by
    have h2 : FP.dIsNaN r = true := (FP.Core.isNaN_bits r).mpr q
    rw [h] at h2; cases h2
  unfold vf_n64
  rw [UInt64.le_iff_toNat_le, UInt64.toNat_and]
  have e1 : (0x7fffffffffffffff : UInt64).toNat = 2 ^ 63 - 1 := by decide
  have e2 : (0x7ff0000000000000 : UInt64).toNat = 9218868437227405312 := by decide
  rw [e1, e2, Nat.and_two_pow_sub_one_eq_mod]
  omega
theorem n32_of {r : UInt32} (h : FP.fIsNaN r = false) : vf_n32 r := by
  have h1 : ¬ (2139095040 < r.toNat % 2 ^ 31) := fun q => by
    have h2 : FP.fIsNaN r = true := (FP.Core.isNaN_bits32 r).mpr q
    rw [h] at h2; cases h2
  unfold vf_n32
  rw [UInt32.le_iff_toNat_le, UInt32.toNat_and]
  have e1 : (0x7fffffff : UInt32).toNat = 2 ^ 31 - 1 := by decide
  have e2 : (0x7f800000 : UInt32).toNat = 2139095040 := by decide
  rw [e1, e2, Nat.and_two_pow_sub_one_eq_mod]
  omega
section J2
variable {G : GG} {p : Program} {l : Launch} {e : Env} {R : Room} {s : State} {m : MethodId} {args : Array Value} {below : List Frame} {meth : Method} {c : Code} {cc : ByteArray} {nL : Nat} {own : String} {z : Nat} {ret : Option FieldType} {nme : String} {Q : State → Prop} {ct : Nat → va_E} {N cells slots pc : Nat} {lv : List (Nat × Value)} {st rest : List Value}
theorem j_iconst (C : Cx G p s m args meth c cc nL own z ret nme) {n : Int} {v : Int32} (d : decode cc pc = .ok (.iconst n, 1)) (hv : Int32.ofInt n = v) (k : J G p l e R s m args below meth c z nL Q ct N cells slots (pc + 1) lv (.int v :: rest)) : J G p l e R s m args below meth c z nL Q ct N cells slots pc lv rest := fun H locs ls hP hS hl => lv_iconst C.x C.b d hv (k H locs ls hP hS hl)
theorem j_bipush (C : Cx G p s m args meth c cc nL own z ret nme) {n : Int} {v : Int32} (d : decode cc pc = .ok (.bipush n, 2)) (hv : (Int8.ofInt n).toInt32 = v) (k : J G p l e R s m args below meth c z nL Q ct N cells slots (pc + 2) lv (.int v :: rest)) : J G p l e R s m args below meth c z nL Q ct N cells slots pc lv rest := fun H locs ls hP hS hl => lv_bipush C.x C.b d hv (k H locs ls hP hS hl)
theorem j_sipush (C : Cx G p s m args meth c cc nL own z ret nme) {n : Int} {v : Int32} (d : decode cc pc = .ok (.sipush n, 3)) (hv : (Int16.ofInt n).toInt32 = v) (k : J G p l e R s m args below meth c z nL Q ct N cells slots (pc + 3) lv (.int v :: rest)) : J G p l e R s m args below meth c z nL Q ct N cells slots pc lv rest := fun H locs ls hP hS hl => lv_sipush C.x C.b d hv (k H locs ls hP hS hl)
theorem j_lconst (C : Cx G p s m args meth c cc nL own z ret nme) {n : Fin 2} {v : Int64} (d : decode cc pc = .ok (.lconst n, 1)) (hv : Int64.ofNat (n : Nat) = v) (k : J G p l e R s m args below meth c z nL Q ct N cells slots (pc + 1) lv (.long v :: rest)) : J G p l e R s m args below meth c z nL Q ct N cells slots pc lv rest := fun H locs ls hP hS hl => lv_lconst C.x C.b d hv (k H locs ls hP hS hl)
theorem j_dconst0 (C : Cx G p s m args meth c cc nL own z ret nme) (d : decode cc pc = .ok (.dconst 0, 1)) (k : J G p l e R s m args below meth c z nL Q ct N cells slots (pc + 1) lv (.double FP.dconst0 :: rest)) : J G p l e R s m args below meth c z nL Q ct N cells slots pc lv rest := fun H locs ls hP hS hl => lv_dconst0 C.x C.b d (k H locs ls hP hS hl)
theorem j_dconst1 (C : Cx G p s m args meth c cc nL own z ret nme) (d : decode cc pc = .ok (.dconst 1, 1)) (k : J G p l e R s m args below meth c z nL Q ct N cells slots (pc + 1) lv (.double FP.dconst1 :: rest)) : J G p l e R s m args below meth c z nL Q ct N cells slots pc lv rest := fun H locs ls hP hS hl => lv_dconst1 C.x C.b d (k H locs ls hP hS hl)
theorem j_null (C : Cx G p s m args meth c cc nL own z ret nme) (d : decode cc pc = .ok (.aconst_null, 1)) (k : J G p l e R s m args below meth c z nL Q ct N cells slots (pc + 1) lv (.null :: rest)) : J G p l e R s m args below meth c z nL Q ct N cells slots pc lv rest := fun H locs ls hP hS hl => lv_null C.x C.b d (k H locs ls hP hS hl)
theorem j_ldc (C : Cx G p s m args meth c cc nL own z ret nme) {index : Nat} {v : Int32} (hw : Cond.constant own index v ∈ lw_good) (d : decode cc pc = .ok (.ldc index, 2)) (k : J G p l e R s m args below meth c z nL Q ct N cells slots (pc + 2) lv (.int v :: rest)) : J G p l e R s m args below meth c z nL Q ct N cells slots pc lv rest := fun H locs ls hP hS hl => lv_ldc C.x C.b C.o (C.w _ hw) d (k H locs ls hP hS hl)
theorem j_ldc2 (C : Cx G p s m args meth c cc nL own z ret nme) {index : Nat} {v : Int64} (hw : Cond.constantLong own index v ∈ lw_good) (d : decode cc pc = .ok (.ldc2_w index, 3)) (k : J G p l e R s m args below meth c z nL Q ct N cells slots (pc + 3) lv (.long v :: rest)) : J G p l e R s m args below meth c z nL Q ct N cells slots pc lv rest := fun H locs ls hP hS hl => lv_ldc2 C.x C.b C.o (C.w _ hw) d (k H locs ls hP hS hl)
theorem j_ldc2d (C : Cx G p s m args meth c cc nL own z ret nme) {index : Nat} {v : UInt64} (hw : Cond.constantDouble own index v ∈ lw_good) (d : decode cc pc = .ok (.ldc2_w index, 3)) (k : J G p l e R s m args below meth c z nL Q ct N cells slots (pc + 3) lv (.double v :: rest)) : J G p l e R s m args below meth c z nL Q ct N cells slots pc lv rest := fun H locs ls hP hS hl => lv_ldc2d C.x C.b C.o (C.w _ hw) d (k H locs ls hP hS hl)
theorem j_ldcw (C : Cx G p s m args meth c cc nL own z ret nme) {index : Nat} {v : Int32} (hw : Cond.constant own index v ∈ lw_good) (d : decode cc pc = .ok (.ldc_w index, 3)) (k : J G p l e R s m args below meth c z nL Q ct N cells slots (pc + 3) lv (.int v :: rest)) : J G p l e R s m args below meth c z nL Q ct N cells slots pc lv rest := fun H locs ls hP hS hl => lv_ldcw C.x C.b C.o (C.w _ hw) d (k H locs ls hP hS hl)
theorem j_iload_n (C : Cx G p s m args meth c cc nL own z ret nme) {k0 : Fin 4} {i : Nat} {x : Int32} (d : decode cc pc = .ok (.iload_n k0, 1)) (j : Nat) (hj : lv[j]? = some (i, .int x)) (hi : (k0 : Nat) = i) (k : J G p l e R s m args below meth c z nL Q ct N cells slots (pc + 1) lv (.int x :: rest)) : J G p l e R s m args below meth c z nL Q ct N cells slots pc lv rest := fun H locs ls hP hS hl => lv_iload_n C.x C.b d hi (lv_at hl j hj) (k H locs ls hP hS hl)
theorem j_iload (C : Cx G p s m args meth c cc nL own z ret nme) {i : Nat} {x : Int32} (d : decode cc pc = .ok (.iload i, 2)) (j : Nat) (hj : lv[j]? = some (i, .int x)) (k : J G p l e R s m args below meth c z nL Q ct N cells slots (pc + 2) lv (.int x :: rest)) : J G p l e R s m args below meth c z nL Q ct N cells slots pc lv rest := fun H locs ls hP hS hl => lv_iload C.x C.b d (lv_at hl j hj) (k H locs ls hP hS hl)
theorem j_lload_n (C : Cx G p s m args meth c cc nL own z ret nme) {k0 : Fin 4} {i : Nat} {x : Int64} (d : decode cc pc = .ok (.lload_n k0, 1)) (j : Nat) (hj : lv[j]? = some (i, .long x)) (hi : (k0 : Nat) = i) (k : J G p l e R s m args below meth c z nL Q ct N cells slots (pc + 1) lv (.long x :: rest)) : J G p l e R s m args below meth c z nL Q ct N cells slots pc lv rest := fun H locs ls hP hS hl => lv_lload_n C.x C.b d hi (lv_at hl j hj) (k H locs ls hP hS hl)
theorem j_lload (C : Cx G p s m args meth c cc nL own z ret nme) {i : Nat} {x : Int64} (d : decode cc pc = .ok (.lload i, 2)) (j : Nat) (hj : lv[j]? = some (i, .long x)) (k : J G p l e R s m args below meth c z nL Q ct N cells slots (pc + 2) lv (.long x :: rest)) : J G p l e R s m args below meth c z nL Q ct N cells slots pc lv rest := fun H locs ls hP hS hl => lv_lload C.x C.b d (lv_at hl j hj) (k H locs ls hP hS hl)
theorem j_dload_n (C : Cx G p s m args meth c cc nL own z ret nme) {k0 : Fin 4} {i : Nat} {x : UInt64} (d : decode cc pc = .ok (.dload_n k0, 1)) (j : Nat) (hj : lv[j]? = some (i, .double x)) (hi : (k0 : Nat) = i) (k : J G p l e R s m args below meth c z nL Q ct N cells slots (pc + 1) lv (.double x :: rest)) : J G p l e R s m args below meth c z nL Q ct N cells slots pc lv rest := fun H locs ls hP hS hl => lv_dload_n C.x C.b d hi (lv_at hl j hj) (k H locs ls hP hS hl)
theorem j_dload (C : Cx G p s m args meth c cc nL own z ret nme) {i : Nat} {x : UInt64} (d : decode cc pc = .ok (.dload i, 2)) (j : Nat) (hj : lv[j]? = some (i, .double x)) (k : J G p l e R s m args below meth c z nL Q ct N cells slots (pc + 2) lv (.double x :: rest)) : J G p l e R s m args below meth c z nL Q ct N cells slots pc lv rest := fun H locs ls hP hS hl => lv_dload C.x C.b d (lv_at hl j hj) (k H locs ls hP hS hl)
theorem j_aload_n (C : Cx G p s m args meth c cc nL own z ret nme) {k0 : Fin 4} {i : Nat} {x : Nat} (d : decode cc pc = .ok (.aload_n k0, 1)) (j : Nat) (hj : lv[j]? = some (i, .ref x)) (hi : (k0 : Nat) = i) (k : J G p l e R s m args below meth c z nL Q ct N cells slots (pc + 1) lv (.ref x :: rest)) : J G p l e R s m args below meth c z nL Q ct N cells slots pc lv rest := fun H locs ls hP hS hl => lv_aload_n C.x C.b d hi (lv_at hl j hj) (k H locs ls hP hS hl)
theorem j_aload (C : Cx G p s m args meth c cc nL own z ret nme) {i : Nat} {x : Nat} (d : decode cc pc = .ok (.aload i, 2)) (j : Nat) (hj : lv[j]? = some (i, .ref x)) (k : J G p l e R s m args below meth c z nL Q ct N cells slots (pc + 2) lv (.ref x :: rest)) : J G p l e R s m args below meth c z nL Q ct N cells slots pc lv rest := fun H locs ls hP hS hl => lv_aload C.x C.b d (lv_at hl j hj) (k H locs ls hP hS hl)
theorem j_istore_n (C : Cx G p s m args meth c cc nL own z ret nme) {k0 : Fin 4} {i : Nat} {x : Int32} (lv' : List (Nat × Value)) (d : decode cc pc = .ok (.istore_n k0, 1)) (hi : (k0 : Nat) = i) (hn : i < nL) (hl0 : (i, Value.int x) :: lv.filter (fun q => !(q.1 == i) && !(q.1 + 1 == i && q.2.category == 2)) = lv') (k : J G p l e R s m args below meth c z nL Q ct N cells slots (pc + 1) lv' rest) : J G p l e R s m args below meth c z nL Q ct N cells slots pc lv (.int x :: rest) := fun H locs ls hP hS hl => lv_istore_n C.x C.b d hi hl hn hl0 (fun ls hl => k H locs ls hP hS hl)
theorem j_istore (C : Cx G p s m args meth c cc nL own z ret nme) {i : Nat} {x : Int32} (lv' : List (Nat × Value)) (d : decode cc pc = .ok (.istore i, 2)) (hn : i < nL) (hl0 : (i, Value.int x) :: lv.filter (fun q => !(q.1 == i) && !(q.1 + 1 == i && q.2.category == 2)) = lv') (k : J G p l e R s m args below meth c z nL Q ct N cells slots (pc + 2) lv' rest) : J G p l e R s m args below meth c z nL Q ct N cells slots pc lv (.int x :: rest) := fun H locs ls hP hS hl => lv_istore C.x C.b d hl hn hl0 (fun ls hl => k H locs ls hP hS hl)
theorem j_lstore_n (C : Cx G p s m args meth c cc nL own z ret nme) {k0 : Fin 4} {i : Nat} {x : Int64} (lv' : List (Nat × Value)) (d : decode cc pc = .ok (.lstore_n k0, 1)) (hi : (k0 : Nat) = i) (hn : i + 1 < nL) (hl0 : (i, Value.long x) :: lv.filter (fun q => !(q.1 == i) && (!(q.1 == i + 1) && !(q.1 + 1 == i && q.2.category == 2))) = lv') (k : J G p l e R s m args below meth c z nL Q ct N cells slots (pc + 1) lv' rest) : J G p l e R s m args below meth c z nL Q ct N cells slots pc lv (.long x :: rest) := fun H locs ls hP hS hl => lv_lstore_n C.x C.b d hi hl hn hl0 (fun ls hl => k H locs ls hP hS hl)
theorem j_lstore (C : Cx G p s m args meth c cc nL own z ret nme) {i : Nat} {x : Int64} (lv' : List (Nat × Value)) (d : decode cc pc = .ok (.lstore i, 2)) (hn : i + 1 < nL) (hl0 : (i, Value.long x) :: lv.filter (fun q => !(q.1 == i) && (!(q.1 == i + 1) && !(q.1 + 1 == i && q.2.category == 2))) = lv') (k : J G p l e R s m args below meth c z nL Q ct N cells slots (pc + 2) lv' rest) : J G p l e R s m args below meth c z nL Q ct N cells slots pc lv (.long x :: rest) := fun H locs ls hP hS hl => lv_lstore C.x C.b d hl hn hl0 (fun ls hl => k H locs ls hP hS hl)
theorem j_dstore_n (C : Cx G p s m args meth c cc nL own z ret nme) {k0 : Fin 4} {i : Nat} {x : UInt64} (lv' : List (Nat × Value)) (d : decode cc pc = .ok (.dstore_n k0, 1)) (hi : (k0 : Nat) = i) (hn : i + 1 < nL) (hl0 : (i, Value.double x) :: lv.filter (fun q => !(q.1 == i) && (!(q.1 == i + 1) && !(q.1 + 1 == i && q.2.category == 2))) = lv') (k : J G p l e R s m args below meth c z nL Q ct N cells slots (pc + 1) lv' rest) : J G p l e R s m args below meth c z nL Q ct N cells slots pc lv (.double x :: rest) := fun H locs ls hP hS hl => lv_dstore_n C.x C.b d hi hl hn hl0 (fun ls hl => k H locs ls hP hS hl)
theorem j_dstore (C : Cx G p s m args meth c cc nL own z ret nme) {i : Nat} {x : UInt64} (lv' : List (Nat × Value)) (d : decode cc pc = .ok (.dstore i, 2)) (hn : i + 1 < nL) (hl0 : (i, Value.double x) :: lv.filter (fun q => !(q.1 == i) && (!(q.1 == i + 1) && !(q.1 + 1 == i && q.2.category == 2))) = lv') (k : J G p l e R s m args below meth c z nL Q ct N cells slots (pc + 2) lv' rest) : J G p l e R s m args below meth c z nL Q ct N cells slots pc lv (.double x :: rest) := fun H locs ls hP hS hl => lv_dstore C.x C.b d hl hn hl0 (fun ls hl => k H locs ls hP hS hl)
theorem j_astore_n (C : Cx G p s m args meth c cc nL own z ret nme) {k0 : Fin 4} {i : Nat} {x : Nat} (lv' : List (Nat × Value)) (d : decode cc pc = .ok (.astore_n k0, 1)) (hi : (k0 : Nat) = i) (hn : i < nL) (hl0 : (i, Value.ref x) :: lv.filter (fun q => !(q.1 == i) && !(q.1 + 1 == i && q.2.category == 2)) = lv') (k : J G p l e R s m args below meth c z nL Q ct N cells slots (pc + 1) lv' rest) : J G p l e R s m args below meth c z nL Q ct N cells slots pc lv (.ref x :: rest) := fun H locs ls hP hS hl => lv_astore_n C.x C.b d hi hl hn hl0 (fun ls hl => k H locs ls hP hS hl)
theorem j_astore (C : Cx G p s m args meth c cc nL own z ret nme) {i : Nat} {x : Nat} (lv' : List (Nat × Value)) (d : decode cc pc = .ok (.astore i, 2)) (hn : i < nL) (hl0 : (i, Value.ref x) :: lv.filter (fun q => !(q.1 == i) && !(q.1 + 1 == i && q.2.category == 2)) = lv') (k : J G p l e R s m args below meth c z nL Q ct N cells slots (pc + 2) lv' rest) : J G p l e R s m args below meth c z nL Q ct N cells slots pc lv (.ref x :: rest) := fun H locs ls hP hS hl => lv_astore C.x C.b d hl hn hl0 (fun ls hl => k H locs ls hP hS hl)
theorem j_iinc (C : Cx G p s m args meth c cc nL own z ret nme) {i : Nat} {n : Int} {x v : Int32} (lv' : List (Nat × Value)) (d : decode cc pc = .ok (.iinc i n, 3)) (j : Nat) (hj : lv[j]? = some (i, .int x)) (hv : x + Int32.ofInt n = v) (hn : i < nL) (hl0 : (i, Value.int v) :: lv.filter (fun q => !(q.1 == i) && !(q.1 + 1 == i && q.2.category == 2)) = lv') (k : J G p l e R s m args below meth c z nL Q ct N cells slots (pc + 3) lv' rest) : J G p l e R s m args below meth c z nL Q ct N cells slots pc lv rest := fun H locs ls hP hS hl => lv_iinc C.x C.b d hl hj hv hn hl0 (fun ls hl => k H locs ls hP hS hl)
theorem j_iadd (C : Cx G p s m args meth c cc nL own z ret nme) {x y : Int32} (d : decode cc pc = .ok (.iadd, 1)) (k : J G p l e R s m args below meth c z nL Q ct N cells slots (pc + 1) lv (.int (x + y) :: rest)) : J G p l e R s m args below meth c z nL Q ct N cells slots pc lv (.int y :: .int x :: rest) := fun H locs ls hP hS hl => lv_iadd C.x C.b d (k H locs ls hP hS hl)
theorem j_isub (C : Cx G p s m args meth c cc nL own z ret nme) {x y : Int32} (d : decode cc pc = .ok (.isub, 1)) (k : J G p l e R s m args below meth c z nL Q ct N cells slots (pc + 1) lv (.int (x - y) :: rest)) : J G p l e R s m args below meth c z nL Q ct N cells slots pc lv (.int y :: .int x :: rest) := fun H locs ls hP hS hl => lv_isub C.x C.b d (k H locs ls hP hS hl)
theorem j_imul (C : Cx G p s m args meth c cc nL own z ret nme) {x y : Int32} (d : decode cc pc = .ok (.imul, 1)) (k : J G p l e R s m args below meth c z nL Q ct N cells slots (pc + 1) lv (.int (x * y) :: rest)) : J G p l e R s m args below meth c z nL Q ct N cells slots pc lv (.int y :: .int x :: rest) := fun H locs ls hP hS hl => lv_imul C.x C.b d (k H locs ls hP hS hl)
theorem j_iand (C : Cx G p s m args meth c cc nL own z ret nme) {x y : Int32} (d : decode cc pc = .ok (.iand, 1)) (k : J G p l e R s m args below meth c z nL Q ct N cells slots (pc + 1) lv (.int (x &&& y) :: rest)) : J G p l e R s m args below meth c z nL Q ct N cells slots pc lv (.int y :: .int x :: rest) := fun H locs ls hP hS hl => lv_iand C.x C.b d (k H locs ls hP hS hl)
theorem j_ior (C : Cx G p s m args meth c cc nL own z ret nme) {x y : Int32} (d : decode cc pc = .ok (.ior, 1)) (k : J G p l e R s m args below meth c z nL Q ct N cells slots (pc + 1) lv (.int (x ||| y) :: rest)) : J G p l e R s m args below meth c z nL Q ct N cells slots pc lv (.int y :: .int x :: rest) := fun H locs ls hP hS hl => lv_ior C.x C.b d (k H locs ls hP hS hl)
theorem j_ixor (C : Cx G p s m args meth c cc nL own z ret nme) {x y : Int32} (d : decode cc pc = .ok (.ixor, 1)) (k : J G p l e R s m args below meth c z nL Q ct N cells slots (pc + 1) lv (.int (x ^^^ y) :: rest)) : J G p l e R s m args below meth c z nL Q ct N cells slots pc lv (.int y :: .int x :: rest) := fun H locs ls hP hS hl => lv_ixor C.x C.b d (k H locs ls hP hS hl)
theorem j_ishl (C : Cx G p s m args meth c cc nL own z ret nme) {x y : Int32} (d : decode cc pc = .ok (.ishl, 1)) (k : J G p l e R s m args below meth c z nL Q ct N cells slots (pc + 1) lv (.int (x <<< (y &&& 31)) :: rest)) : J G p l e R s m args below meth c z nL Q ct N cells slots pc lv (.int y :: .int x :: rest) := fun H locs ls hP hS hl => lv_ishl C.x C.b d (k H locs ls hP hS hl)
theorem j_ishr (C : Cx G p s m args meth c cc nL own z ret nme) {x y : Int32} (d : decode cc pc = .ok (.ishr, 1)) (k : J G p l e R s m args below meth c z nL Q ct N cells slots (pc + 1) lv (.int (x >>> (y &&& 31)) :: rest)) : J G p l e R s m args below meth c z nL Q ct N cells slots pc lv (.int y :: .int x :: rest) := fun H locs ls hP hS hl => lv_ishr C.x C.b d (k H locs ls hP hS hl)
theorem j_ladd (C : Cx G p s m args meth c cc nL own z ret nme) {x y : Int64} (d : decode cc pc = .ok (.ladd, 1)) (k : J G p l e R s m args below meth c z nL Q ct N cells slots (pc + 1) lv (.long (x + y) :: rest)) : J G p l e R s m args below meth c z nL Q ct N cells slots pc lv (.long y :: .long x :: rest) := fun H locs ls hP hS hl => lv_ladd C.x C.b d (k H locs ls hP hS hl)
theorem j_lsub (C : Cx G p s m args meth c cc nL own z ret nme) {x y : Int64} (d : decode cc pc = .ok (.lsub, 1)) (k : J G p l e R s m args below meth c z nL Q ct N cells slots (pc + 1) lv (.long (x - y) :: rest)) : J G p l e R s m args below meth c z nL Q ct N cells slots pc lv (.long y :: .long x :: rest) := fun H locs ls hP hS hl => lv_lsub C.x C.b d (k H locs ls hP hS hl)
theorem j_lmul (C : Cx G p s m args meth c cc nL own z ret nme) {x y : Int64} (d : decode cc pc = .ok (.lmul, 1)) (k : J G p l e R s m args below meth c z nL Q ct N cells slots (pc + 1) lv (.long (x * y) :: rest)) : J G p l e R s m args below meth c z nL Q ct N cells slots pc lv (.long y :: .long x :: rest) := fun H locs ls hP hS hl => lv_lmul C.x C.b d (k H locs ls hP hS hl)
theorem j_land (C : Cx G p s m args meth c cc nL own z ret nme) {x y : Int64} (d : decode cc pc = .ok (.land, 1)) (k : J G p l e R s m args below meth c z nL Q ct N cells slots (pc + 1) lv (.long (x &&& y) :: rest)) : J G p l e R s m args below meth c z nL Q ct N cells slots pc lv (.long y :: .long x :: rest) := fun H locs ls hP hS hl => lv_land C.x C.b d (k H locs ls hP hS hl)
theorem j_lor (C : Cx G p s m args meth c cc nL own z ret nme) {x y : Int64} (d : decode cc pc = .ok (.lor, 1)) (k : J G p l e R s m args below meth c z nL Q ct N cells slots (pc + 1) lv (.long (x ||| y) :: rest)) : J G p l e R s m args below meth c z nL Q ct N cells slots pc lv (.long y :: .long x :: rest) := fun H locs ls hP hS hl => lv_lor C.x C.b d (k H locs ls hP hS hl)
theorem j_lxor (C : Cx G p s m args meth c cc nL own z ret nme) {x y : Int64} (d : decode cc pc = .ok (.lxor, 1)) (k : J G p l e R s m args below meth c z nL Q ct N cells slots (pc + 1) lv (.long (x ^^^ y) :: rest)) : J G p l e R s m args below meth c z nL Q ct N cells slots pc lv (.long y :: .long x :: rest) := fun H locs ls hP hS hl => lv_lxor C.x C.b d (k H locs ls hP hS hl)
theorem j_iushr (C : Cx G p s m args meth c cc nL own z ret nme) {x y : Int32} (d : decode cc pc = .ok (.iushr, 1)) (k : J G p l e R s m args below meth c z nL Q ct N cells slots (pc + 1) lv (.int (x.toUInt32 >>> (y.toUInt32 &&& Int32.toUInt32 31)).toInt32 :: rest)) : J G p l e R s m args below meth c z nL Q ct N cells slots pc lv (.int y :: .int x :: rest) := fun H locs ls hP hS hl => lv_iushr C.x C.b d rfl (k H locs ls hP hS hl)
theorem j_lshl (C : Cx G p s m args meth c cc nL own z ret nme) {x : Int64} {y : Int32} (d : decode cc pc = .ok (.lshl, 1)) (k : J G p l e R s m args below meth c z nL Q ct N cells slots (pc + 1) lv (.long (x <<< (y.toInt64 &&& 63)) :: rest)) : J G p l e R s m args below meth c z nL Q ct N cells slots pc lv (.int y :: .long x :: rest) := fun H locs ls hP hS hl => lv_lshl C.x C.b d rfl (k H locs ls hP hS hl)
theorem j_lshr (C : Cx G p s m args meth c cc nL own z ret nme) {x : Int64} {y : Int32} (d : decode cc pc = .ok (.lshr, 1)) (k : J G p l e R s m args below meth c z nL Q ct N cells slots (pc + 1) lv (.long (x >>> (y.toInt64 &&& 63)) :: rest)) : J G p l e R s m args below meth c z nL Q ct N cells slots pc lv (.int y :: .long x :: rest) := fun H locs ls hP hS hl => lv_lshr C.x C.b d rfl (k H locs ls hP hS hl)
theorem j_ineg (C : Cx G p s m args meth c cc nL own z ret nme) {x : Int32} (d : decode cc pc = .ok (.ineg, 1)) (k : J G p l e R s m args below meth c z nL Q ct N cells slots (pc + 1) lv (.int (-x) :: rest)) : J G p l e R s m args below meth c z nL Q ct N cells slots pc lv (.int x :: rest) := fun H locs ls hP hS hl => lv_ineg C.x C.b d (k H locs ls hP hS hl)
theorem j_lneg (C : Cx G p s m args meth c cc nL own z ret nme) {x : Int64} (d : decode cc pc = .ok (.lneg, 1)) (k : J G p l e R s m args below meth c z nL Q ct N cells slots (pc + 1) lv (.long (-x) :: rest)) : J G p l e R s m args below meth c z nL Q ct N cells slots pc lv (.long x :: rest) := fun H locs ls hP hS hl => lv_lneg C.x C.b d (k H locs ls hP hS hl)
theorem j_i2l (C : Cx G p s m args meth c cc nL own z ret nme) {x : Int32} (d : decode cc pc = .ok (.i2l, 1)) (k : J G p l e R s m args below meth c z nL Q ct N cells slots (pc + 1) lv (.long x.toInt64 :: rest)) : J G p l e R s m args below meth c z nL Q ct N cells slots pc lv (.int x :: rest) := fun H locs ls hP hS hl => lv_i2l C.x C.b d rfl (k H locs ls hP hS hl)
theorem j_l2i (C : Cx G p s m args meth c cc nL own z ret nme) {x : Int64} (d : decode cc pc = .ok (.l2i, 1)) (k : J G p l e R s m args below meth c z nL Q ct N cells slots (pc + 1) lv (.int x.toInt32 :: rest)) : J G p l e R s m args below meth c z nL Q ct N cells slots pc lv (.long x :: rest) := fun H locs ls hP hS hl => lv_l2i C.x C.b d rfl (k H locs ls hP hS hl)
theorem j_i2d (C : Cx G p s m args meth c cc nL own z ret nme) {x : Int32} (d : decode cc pc = .ok (.i2d, 1)) (k : J G p l e R s m args below meth c z nL Q ct N cells slots (pc + 1) lv (.double (FP.i2d x) :: rest)) : J G p l e R s m args below meth c z nL Q ct N cells slots pc lv (.int x :: rest) := fun H locs ls hP hS hl => lv_i2d C.x C.b d (k H locs ls hP hS hl)
theorem j_l2d (C : Cx G p s m args meth c cc nL own z ret nme) {x : Int64} (d : decode cc pc = .ok (.l2d, 1)) (k : J G p l e R s m args below meth c z nL Q ct N cells slots (pc + 1) lv (.double (FP.l2d x) :: rest)) : J G p l e R s m args below meth c z nL Q ct N cells slots pc lv (.long x :: rest) := fun H locs ls hP hS hl => lv_l2d C.x C.b d (k H locs ls hP hS hl)
theorem j_d2l (C : Cx G p s m args meth c cc nL own z ret nme) {x : UInt64} (d : decode cc pc = .ok (.d2l, 1)) (k : J G p l e R s m args below meth c z nL Q ct N cells slots (pc + 1) lv (.long (FP.d2l x) :: rest)) : J G p l e R s m args below meth c z nL Q ct N cells slots pc lv (.double x :: rest) := fun H locs ls hP hS hl => lv_d2l C.x C.b d (k H locs ls hP hS hl)
theorem j_dneg (C : Cx G p s m args meth c cc nL own z ret nme) {x : UInt64} (d : decode cc pc = .ok (.dneg, 1)) (k : J G p l e R s m args below meth c z nL Q ct N cells slots (pc + 1) lv (.double (FP.dneg x) :: rest)) : J G p l e R s m args below meth c z nL Q ct N cells slots pc lv (.double x :: rest) := fun H locs ls hP hS hl => lv_dneg C.x C.b d (k H locs ls hP hS hl)
theorem j_dcmp (C : Cx G p s m args meth c cc nL own z ret nme) {x y : UInt64} {op : CmpOp} (d : decode cc pc = .ok (.dcmp op, 1)) (k : J G p l e R s m args below meth c z nL Q ct N cells slots (pc + 1) lv (.int (Op.cmpValue (FP.dcmp x y) op) :: rest)) : J G p l e R s m args below meth c z nL Q ct N cells slots pc lv (.double y :: .double x :: rest) := fun H locs ls hP hS hl => lv_dcmp C.x C.b d (k H locs ls hP hS hl)
theorem j_lcmp (C : Cx G p s m args meth c cc nL own z ret nme) {x y : Int64} (d : decode cc pc = .ok (.lcmp, 1)) (k : J G p l e R s m args below meth c z nL Q ct N cells slots (pc + 1) lv (.int (lg_cmp x y) :: rest)) : J G p l e R s m args below meth c z nL Q ct N cells slots pc lv (.long y :: .long x :: rest) := fun H locs ls hP hS hl => W.lcmp C.x C.b d (k H locs ls hP hS hl)
theorem j_dup (C : Cx G p s m args meth c cc nL own z ret nme) {va : Value} (d : decode cc pc = .ok (.dup, 1)) (hc : va.category = 1) (k : J G p l e R s m args below meth c z nL Q ct N cells slots (pc + 1) lv (va :: va :: rest)) : J G p l e R s m args below meth c z nL Q ct N cells slots pc lv (va :: rest) := fun H locs ls hP hS hl => lv_dup C.x C.b d hc (k H locs ls hP hS hl)
theorem j_pop (C : Cx G p s m args meth c cc nL own z ret nme) {va : Value} (d : decode cc pc = .ok (.pop, 1)) (hc : va.category = 1) (k : J G p l e R s m args below meth c z nL Q ct N cells slots (pc + 1) lv rest) : J G p l e R s m args below meth c z nL Q ct N cells slots pc lv (va :: rest) := fun H locs ls hP hS hl => lv_pop C.x C.b d hc (k H locs ls hP hS hl)
theorem j_dup2_11 (C : Cx G p s m args meth c cc nL own z ret nme) {va vb : Value} (d : decode cc pc = .ok (.dup2, 1)) (hc : va.category = 1) (hc2 : vb.category = 1) (k : J G p l e R s m args below meth c z nL Q ct N cells slots (pc + 1) lv (va :: vb :: va :: vb :: rest)) : J G p l e R s m args below meth c z nL Q ct N cells slots pc lv (va :: vb :: rest) := fun H locs ls hP hS hl => lv_dup2_11 C.x C.b d hc hc2 (k H locs ls hP hS hl)
theorem j_dup_x1 (C : Cx G p s m args meth c cc nL own z ret nme) {va vb : Value} (d : decode cc pc = .ok (.dup_x1, 1)) (hc : va.category = 1) (hc2 : vb.category = 1) (k : J G p l e R s m args below meth c z nL Q ct N cells slots (pc + 1) lv (va :: vb :: va :: rest)) : J G p l e R s m args below meth c z nL Q ct N cells slots pc lv (va :: vb :: rest) := fun H locs ls hP hS hl => lv_dup_x1 C.x C.b d hc hc2 (k H locs ls hP hS hl)
theorem j_dadd (C : Cx G p s m args meth c cc nL own z ret nme) {x y : UInt64} {α : Type} {a : Option α} {r : α} (hg : (if FP.dIsNaN (FP.dadd x y) = false then a else none) = some r) (d : decode cc pc = .ok (.dadd, 1)) (k : a = some r → J G p l e R s m args below meth c z nL Q ct N cells slots (pc + 1) lv (.double (FP.dadd x y) :: rest)) : J G p l e R s m args below meth c z nL Q ct N cells slots pc lv (.double y :: .double x :: rest) := by
  by_cases hc : FP.dIsNaN (FP.dadd x y) = false
  · rw [if_pos hc] at hg
    exact fun H locs ls hP hS hl => lv_dadd C.x C.b d (n64_of hc) (k hg H locs ls hP hS hl)
  · rw [if_neg hc] at hg
    cases hg
theorem j_dsub (C : Cx G p s m args meth c cc nL own z ret nme) {x y : UInt64} {α : Type} {a : Option α} {r : α} (hg : (if FP.dIsNaN (FP.dsub x y) = false then a else none) = some r) (d : decode cc pc = .ok (.dsub, 1)) (k : a = some r → J G p l e R s m args below meth c z nL Q ct N cells slots (pc + 1) lv (.double (FP.dsub x y) :: rest)) : J G p l e R s m args below meth c z nL Q ct N cells slots pc lv (.double y :: .double x :: rest) := by
  by_cases hc : FP.dIsNaN (FP.dsub x y) = false
  · rw [if_pos hc] at hg
    exact fun H locs ls hP hS hl => lv_dsub C.x C.b d (n64_of hc) (k hg H locs ls hP hS hl)
  · rw [if_neg hc] at hg
    cases hg
theorem j_dmul (C : Cx G p s m args meth c cc nL own z ret nme) {x y : UInt64} {α : Type} {a : Option α} {r : α} (hg : (if FP.dIsNaN (FP.dmul x y) = false then a else none) = some r) (d : decode cc pc = .ok (.dmul, 1)) (k : a = some r → J G p l e R s m args below meth c z nL Q ct N cells slots (pc + 1) lv (.double (FP.dmul x y) :: rest)) : J G p l e R s m args below meth c z nL Q ct N cells slots pc lv (.double y :: .double x :: rest) := by
  by_cases hc : FP.dIsNaN (FP.dmul x y) = false
  · rw [if_pos hc] at hg
    exact fun H locs ls hP hS hl => lv_dmul C.x C.b d (n64_of hc) (k hg H locs ls hP hS hl)
  · rw [if_neg hc] at hg
    cases hg
theorem j_ddiv (C : Cx G p s m args meth c cc nL own z ret nme) {x y : UInt64} {α : Type} {a : Option α} {r : α} (hg : (if FP.dIsNaN (FP.ddiv x y) = false then a else none) = some r) (d : decode cc pc = .ok (.ddiv, 1)) (k : a = some r → J G p l e R s m args below meth c z nL Q ct N cells slots (pc + 1) lv (.double (FP.ddiv x y) :: rest)) : J G p l e R s m args below meth c z nL Q ct N cells slots pc lv (.double y :: .double x :: rest) := by
  by_cases hc : FP.dIsNaN (FP.ddiv x y) = false
  · rw [if_pos hc] at hg
    exact fun H locs ls hP hS hl => lv_ddiv C.x C.b d (n64_of hc) (k hg H locs ls hP hS hl)
  · rw [if_neg hc] at hg
    cases hg
theorem j_drem (C : Cx G p s m args meth c cc nL own z ret nme) {x y : UInt64} {α : Type} {a : Option α} {r : α} (hg : (if FP.dIsNaN (FP.drem x y) = false then a else none) = some r) (d : decode cc pc = .ok (.drem, 1)) (k : a = some r → J G p l e R s m args below meth c z nL Q ct N cells slots (pc + 1) lv (.double (FP.drem x y) :: rest)) : J G p l e R s m args below meth c z nL Q ct N cells slots pc lv (.double y :: .double x :: rest) := by
  by_cases hc : FP.dIsNaN (FP.drem x y) = false
  · rw [if_pos hc] at hg
    exact fun H locs ls hP hS hl => lv_drem C.x C.b d (n64_of hc) (k hg H locs ls hP hS hl)
  · rw [if_neg hc] at hg
    cases hg
theorem j_fadd (C : Cx G p s m args meth c cc nL own z ret nme) {x y : UInt32} {α : Type} {a : Option α} {r : α} (hg : (if FP.fIsNaN (FP.fadd x y) = false then a else none) = some r) (d : decode cc pc = .ok (.fadd, 1)) (k : a = some r → J G p l e R s m args below meth c z nL Q ct N cells slots (pc + 1) lv (.float (FP.fadd x y) :: rest)) : J G p l e R s m args below meth c z nL Q ct N cells slots pc lv (.float y :: .float x :: rest) := by
  by_cases hc : FP.fIsNaN (FP.fadd x y) = false
  · rw [if_pos hc] at hg
    exact fun H locs ls hP hS hl => lv_fadd C.x C.b d (n32_of hc) (k hg H locs ls hP hS hl)
  · rw [if_neg hc] at hg
    cases hg
theorem j_fmul (C : Cx G p s m args meth c cc nL own z ret nme) {x y : UInt32} {α : Type} {a : Option α} {r : α} (hg : (if FP.fIsNaN (FP.fmul x y) = false then a else none) = some r) (d : decode cc pc = .ok (.fmul, 1)) (k : a = some r → J G p l e R s m args below meth c z nL Q ct N cells slots (pc + 1) lv (.float (FP.fmul x y) :: rest)) : J G p l e R s m args below meth c z nL Q ct N cells slots pc lv (.float y :: .float x :: rest) := by
  by_cases hc : FP.fIsNaN (FP.fmul x y) = false
  · rw [if_pos hc] at hg
    exact fun H locs ls hP hS hl => lv_fmul C.x C.b d (n32_of hc) (k hg H locs ls hP hS hl)
  · rw [if_neg hc] at hg
    cases hg
theorem j_fdiv (C : Cx G p s m args meth c cc nL own z ret nme) {x y : UInt32} {α : Type} {a : Option α} {r : α} (hg : (if FP.fIsNaN (FP.fdiv x y) = false then a else none) = some r) (d : decode cc pc = .ok (.fdiv, 1)) (k : a = some r → J G p l e R s m args below meth c z nL Q ct N cells slots (pc + 1) lv (.float (FP.fdiv x y) :: rest)) : J G p l e R s m args below meth c z nL Q ct N cells slots pc lv (.float y :: .float x :: rest) := by
  by_cases hc : FP.fIsNaN (FP.fdiv x y) = false
  · rw [if_pos hc] at hg
    exact fun H locs ls hP hS hl => lv_fdiv C.x C.b d (n32_of hc) (k hg H locs ls hP hS hl)
  · rw [if_neg hc] at hg
    cases hg
theorem j_d2f (C : Cx G p s m args meth c cc nL own z ret nme) {x : UInt64} {α : Type} {a : Option α} {r : α} (hg : (if FP.fIsNaN (FP.d2f x) = false then a else none) = some r) (d : decode cc pc = .ok (.d2f, 1)) (k : a = some r → J G p l e R s m args below meth c z nL Q ct N cells slots (pc + 1) lv (.float (FP.d2f x) :: rest)) : J G p l e R s m args below meth c z nL Q ct N cells slots pc lv (.double x :: rest) := by
  by_cases hc : FP.fIsNaN (FP.d2f x) = false
  · rw [if_pos hc] at hg
    exact fun H locs ls hP hS hl => lv_d2f C.x C.b d (n32_of hc) (k hg H locs ls hP hS hl)
  · rw [if_neg hc] at hg
    cases hg
theorem j_f2d (C : Cx G p s m args meth c cc nL own z ret nme) {x : UInt32} {α : Type} {a : Option α} {r : α} (hg : (if FP.dIsNaN (FP.f2d x) = false then a else none) = some r) (d : decode cc pc = .ok (.f2d, 1)) (k : a = some r → J G p l e R s m args below meth c z nL Q ct N cells slots (pc + 1) lv (.double (FP.f2d x) :: rest)) : J G p l e R s m args below meth c z nL Q ct N cells slots pc lv (.float x :: rest) := by
  by_cases hc : FP.dIsNaN (FP.f2d x) = false
  · rw [if_pos hc] at hg
    exact fun H locs ls hP hS hl => lv_f2d C.x C.b d (n64_of hc) (k hg H locs ls hP hS hl)
  · rw [if_neg hc] at hg
    cases hg
theorem j_lrem (C : Cx G p s m args meth c cc nL own z ret nme) {x y : Int64} {α : Type} {a : Option α} {r : α} (hg : (if ¬ y = 0 then a else none) = some r) (d : decode cc pc = .ok (.lrem, 1)) (k : a = some r → J G p l e R s m args below meth c z nL Q ct N cells slots (pc + 1) lv (.long (x - x / y * y) :: rest)) : J G p l e R s m args below meth c z nL Q ct N cells slots pc lv (.long y :: .long x :: rest) := by
  by_cases hc : ¬ y = 0
  · rw [if_pos hc] at hg
    exact fun H locs ls hP hS hl => lv_lrem C.x C.b d hc (k hg H locs ls hP hS hl)
  · rw [if_neg hc] at hg
    cases hg
theorem j_irem (C : Cx G p s m args meth c cc nL own z ret nme) {x y : Int32} {α : Type} {a : Option α} {r : α} (hg : (if ¬ y = 0 then a else none) = some r) (d : decode cc pc = .ok (.irem, 1)) (k : a = some r → J G p l e R s m args below meth c z nL Q ct N cells slots (pc + 1) lv (.int (x - x / y * y) :: rest)) : J G p l e R s m args below meth c z nL Q ct N cells slots pc lv (.int y :: .int x :: rest) := by
  by_cases hc : ¬ y = 0
  · rw [if_pos hc] at hg
    exact fun H locs ls hP hS hl => lv_irem C.x C.b d hc (k hg H locs ls hP hS hl)
  · rw [if_neg hc] at hg
    cases hg
theorem j_idiv (C : Cx G p s m args meth c cc nL own z ret nme) {x y : Int32} {α : Type} {a : Option α} {r : α} (hg : (if ¬ y = 0 then a else none) = some r) (d : decode cc pc = .ok (.idiv, 1)) (k : a = some r → J G p l e R s m args below meth c z nL Q ct N cells slots (pc + 1) lv (.int (x / y) :: rest)) : J G p l e R s m args below meth c z nL Q ct N cells slots pc lv (.int y :: .int x :: rest) := by
  by_cases hc : ¬ y = 0
  · rw [if_pos hc] at hg
    exact fun H locs ls hP hS hl => lv_idiv C.x C.b d hc (k hg H locs ls hP hS hl)
  · rw [if_neg hc] at hg
    cases hg
theorem j_if_eq (C : Cx G p s m args meth c cc nL own z ret nme) {x : Int32} {off : Int} (tgt : Nat) {α : Type} {a b : Option α} {r : α} (hg : (if x = 0 then a else b) = some r) (d : decode cc pc = .ok (.ifCond .eq off, 3)) (ht : (pc : Int) + off = (tgt : Int)) (kt : a = some r → J G p l e R s m args below meth c z nL Q ct N cells slots tgt lv rest) (kf : b = some r → J G p l e R s m args below meth c z nL Q ct N cells slots (pc + 3) lv rest) : J G p l e R s m args below meth c z nL Q ct N cells slots pc lv (.int x :: rest) := fun H locs ls hP hS hl => lv_if_eq C.x C.b d ht (fun h => kt (by rw [if_pos h] at hg; exact hg) H locs ls hP hS hl) (fun h => kf (by rw [if_neg h] at hg; exact hg) H locs ls hP hS hl)
theorem j_if_ne (C : Cx G p s m args meth c cc nL own z ret nme) {x : Int32} {off : Int} (tgt : Nat) {α : Type} {a b : Option α} {r : α} (hg : (if x = 0 then b else a) = some r) (d : decode cc pc = .ok (.ifCond .ne off, 3)) (ht : (pc : Int) + off = (tgt : Int)) (kt : a = some r → J G p l e R s m args below meth c z nL Q ct N cells slots tgt lv rest) (kf : b = some r → J G p l e R s m args below meth c z nL Q ct N cells slots (pc + 3) lv rest) : J G p l e R s m args below meth c z nL Q ct N cells slots pc lv (.int x :: rest) := fun H locs ls hP hS hl => lv_if_ne C.x C.b d ht (fun h => kt (by rw [if_neg h] at hg; exact hg) H locs ls hP hS hl) (fun h => kf (by rw [if_pos h] at hg; exact hg) H locs ls hP hS hl)
theorem j_if_lt (C : Cx G p s m args meth c cc nL own z ret nme) {x : Int32} {off : Int} (tgt : Nat) {α : Type} {a b : Option α} {r : α} (hg : (if x < 0 then a else b) = some r) (d : decode cc pc = .ok (.ifCond .lt off, 3)) (ht : (pc : Int) + off = (tgt : Int)) (kt : a = some r → J G p l e R s m args below meth c z nL Q ct N cells slots tgt lv rest) (kf : b = some r → J G p l e R s m args below meth c z nL Q ct N cells slots (pc + 3) lv rest) : J G p l e R s m args below meth c z nL Q ct N cells slots pc lv (.int x :: rest) := fun H locs ls hP hS hl => lv_if_lt C.x C.b d ht (fun h => kt (by rw [if_pos h] at hg; exact hg) H locs ls hP hS hl) (fun h => kf (by rw [if_neg h] at hg; exact hg) H locs ls hP hS hl)
theorem j_if_ge (C : Cx G p s m args meth c cc nL own z ret nme) {x : Int32} {off : Int} (tgt : Nat) {α : Type} {a b : Option α} {r : α} (hg : (if 0 ≤ x then a else b) = some r) (d : decode cc pc = .ok (.ifCond .ge off, 3)) (ht : (pc : Int) + off = (tgt : Int)) (kt : a = some r → J G p l e R s m args below meth c z nL Q ct N cells slots tgt lv rest) (kf : b = some r → J G p l e R s m args below meth c z nL Q ct N cells slots (pc + 3) lv rest) : J G p l e R s m args below meth c z nL Q ct N cells slots pc lv (.int x :: rest) := fun H locs ls hP hS hl => lv_if_ge C.x C.b d ht (fun h => kt (by rw [if_pos h] at hg; exact hg) H locs ls hP hS hl) (fun h => kf (by rw [if_neg h] at hg; exact hg) H locs ls hP hS hl)
theorem j_if_gt (C : Cx G p s m args meth c cc nL own z ret nme) {x : Int32} {off : Int} (tgt : Nat) {α : Type} {a b : Option α} {r : α} (hg : (if 0 < x then a else b) = some r) (d : decode cc pc = .ok (.ifCond .gt off, 3)) (ht : (pc : Int) + off = (tgt : Int)) (kt : a = some r → J G p l e R s m args below meth c z nL Q ct N cells slots tgt lv rest) (kf : b = some r → J G p l e R s m args below meth c z nL Q ct N cells slots (pc + 3) lv rest) : J G p l e R s m args below meth c z nL Q ct N cells slots pc lv (.int x :: rest) := fun H locs ls hP hS hl => lv_if_gt C.x C.b d ht (fun h => kt (by rw [if_pos h] at hg; exact hg) H locs ls hP hS hl) (fun h => kf (by rw [if_neg h] at hg; exact hg) H locs ls hP hS hl)
theorem j_if_le (C : Cx G p s m args meth c cc nL own z ret nme) {x : Int32} {off : Int} (tgt : Nat) {α : Type} {a b : Option α} {r : α} (hg : (if x ≤ 0 then a else b) = some r) (d : decode cc pc = .ok (.ifCond .le off, 3)) (ht : (pc : Int) + off = (tgt : Int)) (kt : a = some r → J G p l e R s m args below meth c z nL Q ct N cells slots tgt lv rest) (kf : b = some r → J G p l e R s m args below meth c z nL Q ct N cells slots (pc + 3) lv rest) : J G p l e R s m args below meth c z nL Q ct N cells slots pc lv (.int x :: rest) := fun H locs ls hP hS hl => lv_if_le C.x C.b d ht (fun h => kt (by rw [if_pos h] at hg; exact hg) H locs ls hP hS hl) (fun h => kf (by rw [if_neg h] at hg; exact hg) H locs ls hP hS hl)
theorem j_icmp_eq (C : Cx G p s m args meth c cc nL own z ret nme) {x y : Int32} {off : Int} (tgt : Nat) {α : Type} {a b : Option α} {r : α} (hg : (if x = y then a else b) = some r) (d : decode cc pc = .ok (.if_icmp .eq off, 3)) (ht : (pc : Int) + off = (tgt : Int)) (kt : a = some r → J G p l e R s m args below meth c z nL Q ct N cells slots tgt lv rest) (kf : b = some r → J G p l e R s m args below meth c z nL Q ct N cells slots (pc + 3) lv rest) : J G p l e R s m args below meth c z nL Q ct N cells slots pc lv (.int y :: .int x :: rest) := fun H locs ls hP hS hl => lv_icmp_eq C.x C.b d ht (fun h => kt (by rw [if_pos h] at hg; exact hg) H locs ls hP hS hl) (fun h => kf (by rw [if_neg h] at hg; exact hg) H locs ls hP hS hl)
theorem j_icmp_ne (C : Cx G p s m args meth c cc nL own z ret nme) {x y : Int32} {off : Int} (tgt : Nat) {α : Type} {a b : Option α} {r : α} (hg : (if x = y then b else a) = some r) (d : decode cc pc = .ok (.if_icmp .ne off, 3)) (ht : (pc : Int) + off = (tgt : Int)) (kt : a = some r → J G p l e R s m args below meth c z nL Q ct N cells slots tgt lv rest) (kf : b = some r → J G p l e R s m args below meth c z nL Q ct N cells slots (pc + 3) lv rest) : J G p l e R s m args below meth c z nL Q ct N cells slots pc lv (.int y :: .int x :: rest) := fun H locs ls hP hS hl => lv_icmp_ne C.x C.b d ht (fun h => kt (by rw [if_neg h] at hg; exact hg) H locs ls hP hS hl) (fun h => kf (by rw [if_pos h] at hg; exact hg) H locs ls hP hS hl)
theorem j_icmp_lt (C : Cx G p s m args meth c cc nL own z ret nme) {x y : Int32} {off : Int} (tgt : Nat) {α : Type} {a b : Option α} {r : α} (hg : (if x < y then a else b) = some r) (d : decode cc pc = .ok (.if_icmp .lt off, 3)) (ht : (pc : Int) + off = (tgt : Int)) (kt : a = some r → J G p l e R s m args below meth c z nL Q ct N cells slots tgt lv rest) (kf : b = some r → J G p l e R s m args below meth c z nL Q ct N cells slots (pc + 3) lv rest) : J G p l e R s m args below meth c z nL Q ct N cells slots pc lv (.int y :: .int x :: rest) := fun H locs ls hP hS hl => lv_icmp_lt C.x C.b d ht (fun h => kt (by rw [if_pos h] at hg; exact hg) H locs ls hP hS hl) (fun h => kf (by rw [if_neg h] at hg; exact hg) H locs ls hP hS hl)
theorem j_icmp_ge (C : Cx G p s m args meth c cc nL own z ret nme) {x y : Int32} {off : Int} (tgt : Nat) {α : Type} {a b : Option α} {r : α} (hg : (if y ≤ x then a else b) = some r) (d : decode cc pc = .ok (.if_icmp .ge off, 3)) (ht : (pc : Int) + off = (tgt : Int)) (kt : a = some r → J G p l e R s m args below meth c z nL Q ct N cells slots tgt lv rest) (kf : b = some r → J G p l e R s m args below meth c z nL Q ct N cells slots (pc + 3) lv rest) : J G p l e R s m args below meth c z nL Q ct N cells slots pc lv (.int y :: .int x :: rest) := fun H locs ls hP hS hl => lv_icmp_ge C.x C.b d ht (fun h => kt (by rw [if_pos h] at hg; exact hg) H locs ls hP hS hl) (fun h => kf (by rw [if_neg h] at hg; exact hg) H locs ls hP hS hl)
theorem j_icmp_gt (C : Cx G p s m args meth c cc nL own z ret nme) {x y : Int32} {off : Int} (tgt : Nat) {α : Type} {a b : Option α} {r : α} (hg : (if y < x then a else b) = some r) (d : decode cc pc = .ok (.if_icmp .gt off, 3)) (ht : (pc : Int) + off = (tgt : Int)) (kt : a = some r → J G p l e R s m args below meth c z nL Q ct N cells slots tgt lv rest) (kf : b = some r → J G p l e R s m args below meth c z nL Q ct N cells slots (pc + 3) lv rest) : J G p l e R s m args below meth c z nL Q ct N cells slots pc lv (.int y :: .int x :: rest) := fun H locs ls hP hS hl => lv_icmp_gt C.x C.b d ht (fun h => kt (by rw [if_pos h] at hg; exact hg) H locs ls hP hS hl) (fun h => kf (by rw [if_neg h] at hg; exact hg) H locs ls hP hS hl)
theorem j_icmp_le (C : Cx G p s m args meth c cc nL own z ret nme) {x y : Int32} {off : Int} (tgt : Nat) {α : Type} {a b : Option α} {r : α} (hg : (if x ≤ y then a else b) = some r) (d : decode cc pc = .ok (.if_icmp .le off, 3)) (ht : (pc : Int) + off = (tgt : Int)) (kt : a = some r → J G p l e R s m args below meth c z nL Q ct N cells slots tgt lv rest) (kf : b = some r → J G p l e R s m args below meth c z nL Q ct N cells slots (pc + 3) lv rest) : J G p l e R s m args below meth c z nL Q ct N cells slots pc lv (.int y :: .int x :: rest) := fun H locs ls hP hS hl => lv_icmp_le C.x C.b d ht (fun h => kt (by rw [if_pos h] at hg; exact hg) H locs ls hP hS hl) (fun h => kf (by rw [if_neg h] at hg; exact hg) H locs ls hP hS hl)
theorem j_goto (C : Cx G p s m args meth c cc nL own z ret nme) {off : Int} (tgt : Nat) (d : decode cc pc = .ok (.goto off, 3)) (ht : (pc : Int) + off = (tgt : Int)) (k : J G p l e R s m args below meth c z nL Q ct N cells slots tgt lv rest) : J G p l e R s m args below meth c z nL Q ct N cells slots pc lv rest := fun H locs ls hP hS hl => lv_goto C.x C.b d ht (k H locs ls hP hS hl)
theorem j_ifnonnull (C : Cx G p s m args meth c cc nL own z ret nme) {x : Nat} {off : Int} (tgt : Nat) (d : decode cc pc = .ok (.ifnonnull off, 3)) (ht : (pc : Int) + off = (tgt : Int)) (k : J G p l e R s m args below meth c z nL Q ct N cells slots tgt lv rest) : J G p l e R s m args below meth c z nL Q ct N cells slots pc lv (.ref x :: rest) := fun H locs ls hP hS hl => lv_ifnonnull C.x C.b d ht (k H locs ls hP hS hl)
theorem j_ifnonnullN (C : Cx G p s m args meth c cc nL own z ret nme) {off : Int} (d : decode cc pc = .ok (.ifnonnull off, 3)) (k : J G p l e R s m args below meth c z nL Q ct N cells slots (pc + 3) lv rest) : J G p l e R s m args below meth c z nL Q ct N cells slots pc lv (.null :: rest) := fun H locs ls hP hS hl => lv_ifnonnullN C.x C.b d (k H locs ls hP hS hl)
theorem j_tableIn (C : Cx G p s m args meth c cc nL own z ret nme) {dflt lo hi : Int} {offs : Array Int} {len : Nat} {x : Int32} {off : Int} (tgt : Nat) (d : decode cc pc = .ok (.tableswitch dflt lo hi offs, len)) (h1 : ¬ x.toInt < lo) (h2 : ¬ hi < x.toInt) (ho : offs[(x.toInt - lo).toNat]? = some off) (ht : (pc : Int) + off = (tgt : Int)) (k : J G p l e R s m args below meth c z nL Q ct N cells slots tgt lv rest) : J G p l e R s m args below meth c z nL Q ct N cells slots pc lv (.int x :: rest) := fun H locs ls hP hS hl => lv_tableIn C.x C.b d h1 h2 ho ht (k H locs ls hP hS hl)
theorem j_tableOut (C : Cx G p s m args meth c cc nL own z ret nme) {dflt lo hi : Int} {offs : Array Int} {len : Nat} {x : Int32} (tgt : Nat) (d : decode cc pc = .ok (.tableswitch dflt lo hi offs, len)) (h : x.toInt < lo ∨ hi < x.toInt) (ht : (pc : Int) + dflt = (tgt : Int)) (k : J G p l e R s m args below meth c z nL Q ct N cells slots tgt lv rest) : J G p l e R s m args below meth c z nL Q ct N cells slots pc lv (.int x :: rest) := fun H locs ls hP hS hl => lv_tableOut C.x C.b d h ht (k H locs ls hP hS hl)
theorem j_lookup (C : Cx G p s m args meth c cc nL own z ret nme) {dflt : Int} {ps : Array (Int × Int)} {len : Nat} {x : Int32} {off : Int} (tgt : Nat) (d : decode cc pc = .ok (.lookupswitch dflt ps, len)) (hp : (ps.toList.zip (ps.toList.drop 1)).all (fun (a, next) => a.1 < next.1) = true) (ho : Op.lookupswitch.offset ps.toList dflt x.toInt = off) (ht : (pc : Int) + off = (tgt : Int)) (k : J G p l e R s m args below meth c z nL Q ct N cells slots tgt lv rest) : J G p l e R s m args below meth c z nL Q ct N cells slots pc lv (.int x :: rest) := fun H locs ls hP hS hl => lv_lookup C.x C.b d hp ho ht (k H locs ls hP hS hl)
theorem j_get (C : Cx G p s m args meth c cc nL own z ret nme) {b ci index NF : Nat} {fs : List Value} {CN ref : String} {T : u_T} {v : Value} (hb : b < N) (he : ct b = .inr (ci, fs)) (hc : vwCl[ci]? = some (CN, T, NF)) (hin : ∀ w ∈ u_ws CN T NF, w ∈ lw_good) (j : Nat) (hj : j < NF) (hw : Cond.fieldLink own index ref (T j).2.1 (T j).2.2.1 ∈ lw_good) (hsame : (T j).1 = ref) (hv : fs[j]? = some v) (d : decode cc pc = .ok (.getfield index, 3)) (k : J G p l e R s m args below meth c z nL Q ct N cells slots (pc + 3) lv (v :: rest)) : J G p l e R s m args below meth c z nL Q ct N cells slots pc lv (.ref (z + b) :: rest) := fun H locs ls hP hS hl => va_get C.x C.b C.w hin C.o C.k.1 (hP.one hb he) 0 rfl hc j hj (C.w _ hw) (fun _ h => by rw [← hsame]; exact h) hv d (k H locs ls hP hS hl)
theorem j_put (C : Cx G p s m args meth c cc nL own z ret nme) {b ci index NF : Nat} {fs : List Value} {CN ref : String} {T : u_T} {ty : FieldType} {v : Value} (ty0 : Nat → FieldType) (hty : ∀ k, k < NF → parseFieldDescriptor (T k).2.2.1 = some (ty0 k)) (hnm : ∀ a, a < NF → ∀ b, b < NF → a ≠ b → (T a).2.1 ≠ (T b).2.1) (hb : b < N) (he : ct b = .inr (ci, fs)) (hc : vwCl[ci]? = some (CN, T, NF)) (hin : ∀ w ∈ u_ws CN T NF, w ∈ lw_good) (j : Nat) (hj : j < NF) (hw : Cond.fieldLink own index ref (T j).2.1 (T j).2.2.1 ∈ lw_good) (hsame : (T j).1 = ref) (hfin : (T j).2.2.2 = false) (hd : parseFieldDescriptor (T j).2.2.1 = some ty) (hn : narrow ty v = v) (hfit : fits ty v = true) (hl9 : j < fs.length) (d : decode cc pc = .ok (.putfield index, 3)) (k : J G p l e R s m args below meth c z nL Q (va_up ct b (.inr (ci, fs.set j v))) N cells slots (pc + 3) lv rest) : J G p l e R s m args below meth c z nL Q ct N cells slots pc lv (v :: .ref (z + b) :: rest) := by
  intro H locs ls hP hS hl
  have hap := va_apart (own := own) C.w hin ty0 hty hnm C.k.1 hc
  obtain ⟨r, h1, cell, q1, q2, q3, q4⟩ := (hP.one hb he) 0 _ rfl
  have hr : r = (CN, T, NF) := Option.some.inj (h1.symm.trans hc)
  subst hr
  obtain ⟨hSl, hfc, kC, hkC, hkind⟩ := C.k.1.1 ci _ hc
  obtain ⟨cf, kf, fi, f, hi, hsl⟩ := hSl j hj
  have hlay := C.w _ (hin _ (u_in_lay hj))
  unfold u_lay at hlay
  rw [if_neg (by rw [hfin]; decide)] at hlay
  have hst := (u_facts hfc hkC (u_lays C.w hin hj) hi).1
  have h6 := u_store hfc hkC hkind hlay hi hd hn hfit
  refine W.putK C.x C.b (f := f) ⟨C.o, C.w _ hw, ⟨_, _, _, by rw [← hsame]; exact hi⟩, hst⟩ (by rw [q2]; exact h6) q1 q3 (by rw [hsl]; exact k2_hasslot (q4 j hj)) rfl rfl d fun H' e1 e2 e3 => ?_
  rw [hsl] at e1 ⊢
  exact k H' _ ls (hP.set ⟨_, hc, t_OB.to (V := updV (vp_V fs) j v) ⟨_, e1, q2, q3, t_set q4 hap hj v⟩ (fun i _ => vp_updV_set hl9 v i)⟩ e2 e3) (hS.put e2 e3 (Nat.le_add_right _ _)) hl
theorem j_putF (C : Cx G p s m args meth c cc nL own z ret "<init>") {b ci index NF : Nat} {fs : List Value} {CN ref : String} {T : u_T} {ty : FieldType} {v : Value} (ty0 : Nat → FieldType) (hty : ∀ k, k < NF → parseFieldDescriptor (T k).2.2.1 = some (ty0 k)) (hnm : ∀ a, a < NF → ∀ b, b < NF → a ≠ b → (T a).2.1 ≠ (T b).2.1) (hb : b < N) (he : ct b = .inr (ci, fs)) (hc : vwCl[ci]? = some (CN, T, NF)) (hin : ∀ w ∈ u_ws CN T NF, w ∈ lw_good) (j : Nat) (hj : j < NF) (hw : Cond.fieldLink own index ref (T j).2.1 (T j).2.2.1 ∈ lw_good) (hsame : (T j).1 = ref) (hfin : (T j).2.2.2 = true) (hdecl : (T j).1 = own) (hd : parseFieldDescriptor (T j).2.2.1 = some ty) (hn : narrow ty v = v) (hfit : fits ty v = true) (hl9 : j < fs.length) (d : decode cc pc = .ok (.putfield index, 3)) (k : J G p l e R s m args below meth c z nL Q (va_up ct b (.inr (ci, fs.set j v))) N cells slots (pc + 3) lv rest) : J G p l e R s m args below meth c z nL Q ct N cells slots pc lv (v :: .ref (z + b) :: rest) := by
  intro H locs ls hP hS hl
  have hap := va_apart (own := own) C.w hin ty0 hty hnm C.k.1 hc
  obtain ⟨r, h1, cell, q1, q2, q3, q4⟩ := (hP.one hb he) 0 _ rfl
  have hr : r = (CN, T, NF) := Option.some.inj (h1.symm.trans hc)
  subst hr
  obtain ⟨hSl, hfc, kC, hkC, hkind⟩ := C.k.1.1 ci _ hc
  obtain ⟨cf, kf, fi, f, hi, hsl⟩ := hSl j hj
  have hlay := C.w _ (hin _ (u_in_lay hj))
  unfold u_lay at hlay
  rw [if_pos hfin] at hlay
  have hst := (u_facts hfc hkC (u_lays C.w hin hj) hi).1
  have hcf : m.cls = cf := by
    obtain ⟨_, _, c', _, _, _, -, -, hf', -, -, -, hown2, -⟩ := Cond.laysFinal_spec hlay
    have e1 : c' = cf := by have := hi.symm.trans hf'; simp at this; exact this.1.symm
    rw [hdecl] at hown2
    rw [← e1]; exact Option.some.inj (C.o.symm.trans hown2)
  have h6 := u_fits hfc hkC hkind (Or.inr hlay) hi hd hn hfit
  refine W.putFinK C.x C.b C.o (C.w _ hw) (by rw [← hsame]; exact hi) hst hcf C.i (by rw [q2]; exact h6) q1 q3 (by rw [hsl]; exact k2_hasslot (q4 j hj)) rfl rfl d fun H' e1 e2 e3 => ?_
  rw [hsl] at e1 ⊢
  exact k H' _ ls (hP.set ⟨_, hc, t_OB.to (V := updV (vp_V fs) j v) ⟨_, e1, q2, q3, t_set q4 hap hj v⟩ (fun i _ => vp_updV_set hl9 v i)⟩ e2 e3) (hS.put e2 e3 (Nat.le_add_right _ _)) hl
theorem j_iald (C : Cx G p s m args meth c cc nL own z ret nme) {b n : Nat} {f : Nat → Int32} {i : Int32} {α : Type} {a : Option α} {r : α} (hg : (if ix i n then a else none) = some r) (hb : b < N) (he : ct b = cI G n f) (d : decode cc pc = .ok (.iaload, 1)) (k : a = some r → J G p l e R s m args below meth c z nL Q ct N cells slots (pc + 1) lv (.int (f i.toNatClampNeg) :: rest)) : J G p l e R s m args below meth c z nL Q ct N cells slots pc lv (.int i :: .ref (z + b) :: rest) := by
  by_cases hc : ix i n
  · rw [if_pos hc] at hg
    exact fun H locs ls hP hS hl => va_iald C.x C.b C.k.1 (hP.one hb he) 0 1 rfl rfl (vp_in_iff.mpr hc) d (k hg H locs ls hP hS hl)
  · rw [if_neg hc] at hg
    cases hg
theorem j_zald (C : Cx G p s m args meth c cc nL own z ret nme) {b n : Nat} {f : Nat → Int32} {i : Int32} {α : Type} {a : Option α} {r : α} (hg : (if ix i n then a else none) = some r) (hb : b < N) (he : ct b = cZ G n f) (d : decode cc pc = .ok (.baload, 1)) (k : a = some r → J G p l e R s m args below meth c z nL Q ct N cells slots (pc + 1) lv (.int (f i.toNatClampNeg) :: rest)) : J G p l e R s m args below meth c z nL Q ct N cells slots pc lv (.int i :: .ref (z + b) :: rest) := by
  by_cases hc : ix i n
  · rw [if_pos hc] at hg
    exact fun H locs ls hP hS hl => va_zald C.x C.b C.k.1 (hP.one hb he) 0 2 rfl rfl (vp_in_iff.mpr hc) d (k hg H locs ls hP hS hl)
  · rw [if_neg hc] at hg
    cases hg
theorem j_dald (C : Cx G p s m args meth c cc nL own z ret nme) {b n : Nat} {f : Nat → UInt64} {i : Int32} {α : Type} {a : Option α} {r : α} (hg : (if ix i n then a else none) = some r) (hb : b < N) (he : ct b = cD G n f) (d : decode cc pc = .ok (.daload, 1)) (k : a = some r → J G p l e R s m args below meth c z nL Q ct N cells slots (pc + 1) lv (.double (f i.toNatClampNeg) :: rest)) : J G p l e R s m args below meth c z nL Q ct N cells slots pc lv (.int i :: .ref (z + b) :: rest) := by
  by_cases hc : ix i n
  · rw [if_pos hc] at hg
    exact fun H locs ls hP hS hl => va_dald C.x C.b C.k.1 (hP.one hb he) 0 0 rfl rfl (vp_in_iff.mpr hc) d (k hg H locs ls hP hS hl)
  · rw [if_neg hc] at hg
    cases hg
theorem j_aaldA (C : Cx G p s m args meth c cc nL own z ret nme) {b n : Nat} {f : Nat → Option Nat} {i : Int32} {α : Type} {a : Option α} {r : α} (hg : (if ix i n then a else none) = some r) (hb : b < N) (he : ct b = cQA G n f) (d : decode cc pc = .ok (.aaload, 1)) (k : a = some r → J G p l e R s m args below meth c z nL Q ct N cells slots (pc + 1) lv (va_rf (f i.toNatClampNeg) :: rest)) : J G p l e R s m args below meth c z nL Q ct N cells slots pc lv (.int i :: .ref (z + b) :: rest) := by
  by_cases hc : ix i n
  · rw [if_pos hc] at hg
    exact fun H locs ls hP hS hl => va_aldq C.x C.b C.k.1 (hP.one hb he) 0 3 rfl rfl (vp_in_iff.mpr hc) d (k hg H locs ls hP hS hl)
  · rw [if_neg hc] at hg
    cases hg
theorem j_aaldC (C : Cx G p s m args meth c cc nL own z ret nme) {b n : Nat} {f : Nat → Option Nat} {i : Int32} {α : Type} {a : Option α} {r : α} (hg : (if ix i n then a else none) = some r) (hb : b < N) (he : ct b = cQC G n f) (d : decode cc pc = .ok (.aaload, 1)) (k : a = some r → J G p l e R s m args below meth c z nL Q ct N cells slots (pc + 1) lv (va_rf (f i.toNatClampNeg) :: rest)) : J G p l e R s m args below meth c z nL Q ct N cells slots pc lv (.int i :: .ref (z + b) :: rest) := by
  by_cases hc : ix i n
  · rw [if_pos hc] at hg
    exact fun H locs ls hP hS hl => va_aldq C.x C.b C.k.1 (hP.one hb he) 0 4 rfl rfl (vp_in_iff.mpr hc) d (k hg H locs ls hP hS hl)
  · rw [if_neg hc] at hg
    cases hg
theorem j_iast (C : Cx G p s m args meth c cc nL own z ret nme) {b n : Nat} {f : Nat → Int32} {i : Int32} {x : Int32} {α : Type} {a : Option α} {r : α} (hg : (if ix i n then a else none) = some r) (hb : b < N) (he : ct b = cI G n f) (d : decode cc pc = .ok (.iastore, 1)) (k : a = some r → J G p l e R s m args below meth c z nL Q (va_up ct b (cI G n (upd f i.toNatClampNeg x))) N cells slots (pc + 1) lv rest) : J G p l e R s m args below meth c z nL Q ct N cells slots pc lv (.int x :: .int i :: .ref (z + b) :: rest) := by
  by_cases hin : ix i n
  · rw [if_pos hin] at hg
    replace hin := vp_in_iff.mpr hin
    intro H locs ls hP hS hl
    refine W.iast C.x C.b ((hP.one hb he) 0 _ rfl) ((C.k.1.2 1 _ rfl).1 n (fun j => .int (f j))) (fun q => by cases q) (by show ¬ (i < 0 ∨ (arrV _ _ _).slots.size ≤ _); rw [arrV_size]; exact hin) rfl rfl d fun H1 e1 z1 oq => ?_
    refine k hg H1 _ ls (hP.set ?_ z1 oq) (hS.put z1 oq (Nat.le_add_right _ _)) hl
    show H1[z + b]? = some (vp_cell _ _)
    rw [e1]
    rw [vp_cell_i, vp_cell_i, arrV_store]
    congr 2
    funext q
    by_cases hq : q = i.toNatClampNeg
    · subst hq
      simp [updV, upd]
      try rfl
    · simp [updV, upd, hq]
  · rw [if_neg hin] at hg
    cases hg
theorem j_zast (C : Cx G p s m args meth c cc nL own z ret nme) {b n : Nat} {f : Nat → Int32} {i : Int32} {x : Int32} {α : Type} {a : Option α} {r : α} (hg : (if ix i n then a else none) = some r) (hb : b < N) (he : ct b = cZ G n f) (d : decode cc pc = .ok (.bastore, 1)) (k : a = some r → J G p l e R s m args below meth c z nL Q (va_up ct b (cZ G n (upd f i.toNatClampNeg (vp_nar .boolean x)))) N cells slots (pc + 1) lv rest) : J G p l e R s m args below meth c z nL Q ct N cells slots pc lv (.int x :: .int i :: .ref (z + b) :: rest) := by
  by_cases hin : ix i n
  · rw [if_pos hin] at hg
    replace hin := vp_in_iff.mpr hin
    intro H locs ls hP hS hl
    refine W.zast C.x C.b ((hP.one hb he) 0 _ rfl) ((C.k.1.2 2 _ rfl).1 n (fun j => .int (f j))) (fun q => by cases q) (by show ¬ (i < 0 ∨ (arrV _ _ _).slots.size ≤ _); rw [arrV_size]; exact hin) rfl rfl d fun H1 e1 z1 oq => ?_
    refine k hg H1 _ ls (hP.set ?_ z1 oq) (hS.put z1 oq (Nat.le_add_right _ _)) hl
    show H1[z + b]? = some (vp_cell _ _)
    rw [e1]
    rw [vp_cell_i, vp_cell_i, arrV_store]
    congr 2
    funext q
    by_cases hq : q = i.toNatClampNeg
    · subst hq
      simp [updV, upd, vp_nar]
      try rfl
    · simp [updV, upd, vp_nar, hq]
  · rw [if_neg hin] at hg
    cases hg
theorem j_dast (C : Cx G p s m args meth c cc nL own z ret nme) {b n : Nat} {f : Nat → UInt64} {i : Int32} {x : UInt64} {α : Type} {a : Option α} {r : α} (hg : (if ix i n then a else none) = some r) (hb : b < N) (he : ct b = cD G n f) (d : decode cc pc = .ok (.dastore, 1)) (k : a = some r → J G p l e R s m args below meth c z nL Q (va_up ct b (cD G n (vf_upd f i.toNatClampNeg x))) N cells slots (pc + 1) lv rest) : J G p l e R s m args below meth c z nL Q ct N cells slots pc lv (.double x :: .int i :: .ref (z + b) :: rest) := by
  by_cases hin : ix i n
  · rw [if_pos hin] at hg
    replace hin := vp_in_iff.mpr hin
    intro H locs ls hP hS hl
    refine W.dast C.x C.b ((hP.one hb he) 0 _ rfl) ((C.k.1.2 0 _ rfl).1 n (fun j => .double (f j))) (fun q => by cases q) (by show ¬ (i < 0 ∨ (arrV _ _ _).slots.size ≤ _); rw [arrV_size]; exact hin) rfl rfl d fun H1 e1 z1 oq => ?_
    refine k hg H1 _ ls (hP.set ?_ z1 oq) (hS.put z1 oq (Nat.le_add_right _ _)) hl
    show H1[z + b]? = some (vp_cell _ _)
    rw [e1]
    rw [vp_cell_d, vp_cell_d, arrV_store]
    congr 2
    funext q
    by_cases hq : q = i.toNatClampNeg
    · subst hq
      simp [updV, vf_upd]
      try rfl
    · simp [updV, vf_upd, hq]
  · rw [if_neg hin] at hg
    cases hg
theorem j_aastA (C : Cx G p s m args meth c cc nL own z ret nme) {b n v : Nat} {vs : List Value} {f : Nat → Option Nat} {i : Int32} (hin : vp_in i n) (hb : b < N) (he : ct b = cQA G n f) (hv : v < N) (hve : ct v = .inr (0, vs)) (d : decode cc pc = .ok (.aastore, 1)) (k : J G p l e R s m args below meth c z nL Q (va_up ct b (cQA G n (va_up f i.toNatClampNeg (some (z + v))))) N cells slots (pc + 1) lv rest) : J G p l e R s m args below meth c z nL Q ct N cells slots pc lv (.ref (z + v) :: .int i :: .ref (z + b) :: rest) := by
  intro H locs ls hP hS hl
  have hlt : i.toNatClampNeg < n := Nat.not_le.mp fun q => hin (Or.inr q)
  have h0 : ¬ i < 0 := fun q => hin (Or.inl q)
  obtain ⟨r', hr', cellV, g1, g2, g3, -⟩ := (hP.one hv hve) 0 _ rfl
  have hcls := (C.k.1.1 0 _ rfl).2
  obtain ⟨kA, comp, k1, k2, k3, -⟩ := (C.k.1.2 3 _ rfl).2
  have hcomp : comp = G.1.1 0 := Option.some.inj (k3.symm.trans hcls.1)
  subst hcomp
  obtain ⟨kC, hkC, -⟩ := hcls.2
  refine W.aast C.x C.b ((hP.one hb he) 0 _ rfl) (fun q h => by cases h) (fun h => by cases h) k1 k2 rfl hkC ⟨h0, by show _ < (arrV _ _ _).slots.size; rw [arrV_size]; exact hlt⟩ g1 (fun q h => by rw [g3] at h; cases h) (by rw [g2]; exact hkC) (by rw [g2]; exact va_assign hcls) rfl rfl d fun H1 e1 z1 oq => ?_
  refine k H1 _ ls (hP.set ?_ z1 oq) (hS.put z1 oq (Nat.le_add_right _ _)) hl
  show H1[z + b]? = some (vp_cell _ _)
  rw [e1]
  rw [vp_cell_q, vp_cell_q, arrV_store]
  congr 2
  funext q
  by_cases hq : q = i.toNatClampNeg
  · subst hq
    simp [updV, va_up, va_rf]
  · simp [updV, va_up, hq]
theorem j_aastC (C : Cx G p s m args meth c cc nL own z ret nme) {b n v : Nat} {vs : List Value} {f : Nat → Option Nat} {i : Int32} (hin : vp_in i n) (hb : b < N) (he : ct b = cQC G n f) (hv : v < N) (hve : ct v = .inr (1, vs)) (d : decode cc pc = .ok (.aastore, 1)) (k : J G p l e R s m args below meth c z nL Q (va_up ct b (cQC G n (va_up f i.toNatClampNeg (some (z + v))))) N cells slots (pc + 1) lv rest) : J G p l e R s m args below meth c z nL Q ct N cells slots pc lv (.ref (z + v) :: .int i :: .ref (z + b) :: rest) := by
  intro H locs ls hP hS hl
  have hlt : i.toNatClampNeg < n := Nat.not_le.mp fun q => hin (Or.inr q)
  have h0 : ¬ i < 0 := fun q => hin (Or.inl q)
  obtain ⟨r', hr', cellV, g1, g2, g3, -⟩ := (hP.one hv hve) 0 _ rfl
  have hcls := (C.k.1.1 1 _ rfl).2
  obtain ⟨kA, comp, k1, k2, k3, -⟩ := (C.k.1.2 4 _ rfl).2
  have hcomp : comp = G.1.1 1 := Option.some.inj (k3.symm.trans hcls.1)
  subst hcomp
  obtain ⟨kC, hkC, -⟩ := hcls.2
  refine W.aast C.x C.b ((hP.one hb he) 0 _ rfl) (fun q h => by cases h) (fun h => by cases h) k1 k2 rfl hkC ⟨h0, by show _ < (arrV _ _ _).slots.size; rw [arrV_size]; exact hlt⟩ g1 (fun q h => by rw [g3] at h; cases h) (by rw [g2]; exact hkC) (by rw [g2]; exact va_assign hcls) rfl rfl d fun H1 e1 z1 oq => ?_
  refine k H1 _ ls (hP.set ?_ z1 oq) (hS.put z1 oq (Nat.le_add_right _ _)) hl
  show H1[z + b]? = some (vp_cell _ _)
  rw [e1]
  rw [vp_cell_q, vp_cell_q, arrV_store]
  congr 2
  funext q
  by_cases hq : q = i.toNatClampNeg
  · subst hq
    simp [updV, va_up, va_rf]
  · simp [updV, va_up, hq]
theorem j_alenZ (C : Cx G p s m args meth c cc nL own z ret nme) {b n : Nat} {f : Nat → Int32} {v : Int32} (hv : Int32.ofNat n = v) (hb : b < N) (he : ct b = cZ G n f) (d : decode cc pc = .ok (.arraylength, 1)) (k : J G p l e R s m args below meth c z nL Q ct N cells slots (pc + 1) lv (.int v :: rest)) : J G p l e R s m args below meth c z nL Q ct N cells slots pc lv (.ref (z + b) :: rest) := fun H locs ls hP hS hl => va_alen C.x C.b C.k.1 (hP.one hb he) 0 2 rfl rfl hv d (k H locs ls hP hS hl)
theorem j_new (C : Cx G p s m args meth c cc nL own z ret nme) {ci index NF : Nat} {CN : String} {T : u_T} (ty : Nat → FieldType) (hty : ∀ k, k < NF → parseFieldDescriptor (T k).2.2.1 = some (ty k)) (hc : vwCl[ci]? = some (CN, T, NF)) (hin : ∀ w ∈ u_ws CN T NF, w ∈ lw_good) (hcl : Cond.classLink own index CN ∈ lw_good) (hinst : Cond.instantiable CN NF ∈ lw_good) (hini : Cond.initialized CN ∈ lw_good) (fs : List Value) (hfs : ∀ j, j < NF → defaultValue (ty j) = vp_V fs j) (hf : cells + 1 ≤ R.cells ∧ slots + NF ≤ R.slots) (d : decode cc pc = .ok (.new index, 3)) (k : J G p l e R s m args below meth c z nL Q (va_up ct N (.inr (ci, fs))) (N + 1) (cells + 1) (slots + NF) (pc + 3) lv (.ref (z + N) :: rest)) : J G p l e R s m args below meth c z nL Q ct N cells slots pc lv rest := by
  intro H locs ls hP hS hl
  have hKn := C.k.1.1 ci _ hc
  refine W.newcK C.x C.b C.o (C.w _ hcl) (C.w _ hinst) (C.w _ hini) rfl d hf.1 hf.2 hKn.2.1 hP.1 fun H1 kC hkC e1 z1 o1 => ?_
  refine k H1 _ ls (hP.push ⟨_, hc, (u_born ty C.w hin hKn hkC e1 hty).to hfs⟩ (by rw [z1, hP.1]) (fun q hq => o1 q (by rw [← hP.1]; exact hq))) ⟨Nat.le_trans hS.1 (by rw [z1, hP.1]; omega), fun x h1 h2 => (o1 x (by rw [← hP.1]; exact Nat.lt_of_lt_of_le h1 hS.1)).trans (hS.2.1 x h1 h2), hS.2.2⟩ hl
theorem j_newD (C : Cx G p s m args meth c cc nL own z ret nme) {n : Int32} (M : Nat) (hw : Cond.arrayClass .double ∈ lw_good) (hn : ¬ n < 0) (hN : n.toNatClampNeg = M) (hbytes : M * componentBytes .double ≤ 536870912) (hf : cells + 1 ≤ R.cells ∧ slots + M ≤ R.slots) (d : decode cc pc = .ok (.newarray .double, 2)) (k : J G p l e R s m args below meth c z nL Q (va_up ct N (cD G M (fun _ => 0))) (N + 1) (cells + 1) (slots + M) (pc + 2) lv (.ref (z + N) :: rest)) : J G p l e R s m args below meth c z nL Q ct N cells slots pc lv (.int n :: rest) := by
  intro H locs ls hP hS hl
  refine va_newaK (atype := .double) (g := F0 m pc ls (.int n :: rest)) C.x C.b (C.w _ hw) rfl d rfl hn hN hbytes hf.1 hf.2 hP.1 fun H1 cA e1 z1 o1 hAr hNm => ?_
  have h9 : va_RA s (G.2.1) .double := (C.k.1.2 0 (G.2.1, .double) rfl).2
  have h9 : s.vm.findClass ("[" ++ FieldType.double.toString) = some (G.2.1) := h9
  have hNm : s.vm.findClass ("[" ++ FieldType.double.toString) = some cA := hNm
  rw [h9] at hNm
  have hcA : cA = G.2.1 := (Option.some.inj hNm).symm
  subst hcA
  refine k H1 _ ls (hP.push ?_ (by rw [z1, hP.1]) (fun q hq => o1 q (by rw [← hP.1]; exact hq))) ⟨Nat.le_trans hS.1 (by rw [z1, hP.1]; omega), fun x h1 h2 => (o1 x (by rw [← hP.1]; exact Nat.lt_of_lt_of_le h1 hS.1)).trans (hS.2.1 x h1 h2), hS.2.2⟩ hl
  show H1[z + N]? = some (vp_cell _ _)
  rw [vp_cell_d]
  exact e1
theorem j_newI (C : Cx G p s m args meth c cc nL own z ret nme) {n : Int32} (M : Nat) (hw : Cond.arrayClass .int ∈ lw_good) (hn : ¬ n < 0) (hN : n.toNatClampNeg = M) (hbytes : M * componentBytes .int ≤ 536870912) (hf : cells + 1 ≤ R.cells ∧ slots + M ≤ R.slots) (d : decode cc pc = .ok (.newarray .int, 2)) (k : J G p l e R s m args below meth c z nL Q (va_up ct N (cI G M (fun _ => 0))) (N + 1) (cells + 1) (slots + M) (pc + 2) lv (.ref (z + N) :: rest)) : J G p l e R s m args below meth c z nL Q ct N cells slots pc lv (.int n :: rest) := by
  intro H locs ls hP hS hl
  refine va_newaK (atype := .int) (g := F0 m pc ls (.int n :: rest)) C.x C.b (C.w _ hw) rfl d rfl hn hN hbytes hf.1 hf.2 hP.1 fun H1 cA e1 z1 o1 hAr hNm => ?_
  have h9 : va_RA s (G.2.2.1) .int := (C.k.1.2 1 (G.2.2.1, .int) rfl).2
  have h9 : s.vm.findClass ("[" ++ FieldType.int.toString) = some (G.2.2.1) := h9
  have hNm : s.vm.findClass ("[" ++ FieldType.int.toString) = some cA := hNm
  rw [h9] at hNm
  have hcA : cA = G.2.2.1 := (Option.some.inj hNm).symm
  subst hcA
  refine k H1 _ ls (hP.push ?_ (by rw [z1, hP.1]) (fun q hq => o1 q (by rw [← hP.1]; exact hq))) ⟨Nat.le_trans hS.1 (by rw [z1, hP.1]; omega), fun x h1 h2 => (o1 x (by rw [← hP.1]; exact Nat.lt_of_lt_of_le h1 hS.1)).trans (hS.2.1 x h1 h2), hS.2.2⟩ hl
  show H1[z + N]? = some (vp_cell _ _)
  rw [vp_cell_i]
  exact e1
theorem j_newZ (C : Cx G p s m args meth c cc nL own z ret nme) {n : Int32} (M : Nat) (hw : Cond.arrayClass .boolean ∈ lw_good) (hn : ¬ n < 0) (hN : n.toNatClampNeg = M) (hbytes : M * componentBytes .boolean ≤ 536870912) (hf : cells + 1 ≤ R.cells ∧ slots + M ≤ R.slots) (d : decode cc pc = .ok (.newarray .boolean, 2)) (k : J G p l e R s m args below meth c z nL Q (va_up ct N (cZ G M (fun _ => 0))) (N + 1) (cells + 1) (slots + M) (pc + 2) lv (.ref (z + N) :: rest)) : J G p l e R s m args below meth c z nL Q ct N cells slots pc lv (.int n :: rest) := by
  intro H locs ls hP hS hl
  refine va_newaK (atype := .boolean) (g := F0 m pc ls (.int n :: rest)) C.x C.b (C.w _ hw) rfl d rfl hn hN hbytes hf.1 hf.2 hP.1 fun H1 cA e1 z1 o1 hAr hNm => ?_
  have h9 : va_RA s (G.2.2.2.1) .boolean := (C.k.1.2 2 (G.2.2.2.1, .boolean) rfl).2
  have h9 : s.vm.findClass ("[" ++ FieldType.boolean.toString) = some (G.2.2.2.1) := h9
  have hNm : s.vm.findClass ("[" ++ FieldType.boolean.toString) = some cA := hNm
  rw [h9] at hNm
  have hcA : cA = G.2.2.2.1 := (Option.some.inj hNm).symm
  subst hcA
  refine k H1 _ ls (hP.push ?_ (by rw [z1, hP.1]) (fun q hq => o1 q (by rw [← hP.1]; exact hq))) ⟨Nat.le_trans hS.1 (by rw [z1, hP.1]; omega), fun x h1 h2 => (o1 x (by rw [← hP.1]; exact Nat.lt_of_lt_of_le h1 hS.1)).trans (hS.2.1 x h1 h2), hS.2.2⟩ hl
  show H1[z + N]? = some (vp_cell _ _)
  rw [vp_cell_i]
  exact e1
theorem j_newqA (C : Cx G p s m args meth c cc nL own z ret nme) {index : Nat} {n : Int32} (M : Nat) (hcl : Cond.classLink own index RX0 ∈ lw_good) (hov : Cond.arrayOver (.object RX0) ∈ lw_ex) (hn : ¬ n < 0) (hN : n.toNatClampNeg = M) (hbytes : M * 4 ≤ 536870912) (hf : cells + 1 ≤ R.cells ∧ slots + M ≤ R.slots) (d : decode cc pc = .ok (.anewarray index, 3)) (k : J G p l e R s m args below meth c z nL Q (va_up ct N (cQA G M (fun _ => none))) (N + 1) (cells + 1) (slots + M) (pc + 3) lv (.ref (z + N) :: rest)) : J G p l e R s m args below meth c z nL Q ct N cells slots pc lv (.int n :: rest) := by
  intro H locs ls hP hS hl
  subst hN
  refine W.anew (g := F0 m pc ls (.int n :: rest)) C.x C.b C.o (C.w _ hcl) (va_AO.use (C.k.2 _ hov)) rfl d rfl hn hbytes hf.1 hf.2 fun cA kA comp f1 f2 f3 f4 => ?_
  obtain ⟨kA', comp', g1, g2, g3, g4⟩ := (C.k.1.2 3 _ rfl).2
  have hcA : cA = (gty G)[3].1 := Option.some.inj (f1.symm.trans g4)
  subst hcA
  rw [hP.1]
  refine k _ _ ls (hP.push ?_ (by rw [Array.size_push]) (fun q hq => by rw [Array.getElem?_push, if_neg (Nat.ne_of_lt hq)])) ⟨Nat.le_trans hS.1 (by rw [Array.size_push]; omega), fun x h1 h2 => by rw [Array.getElem?_push, if_neg (Nat.ne_of_lt (Nat.lt_of_lt_of_le h1 hS.1))]; exact hS.2.1 x h1 h2, hS.2.2⟩ hl
  show (H.push _)[z + N]? = some (vp_cell _ _)
  rw [vp_cell_q, ← hP.1, Array.getElem?_push_size, ← arrV_new]
  rfl
theorem j_newqC (C : Cx G p s m args meth c cc nL own z ret nme) {index : Nat} {n : Int32} (M : Nat) (hcl : Cond.classLink own index RX3 ∈ lw_good) (hov : Cond.arrayOver (.object RX3) ∈ lw_ex) (hn : ¬ n < 0) (hN : n.toNatClampNeg = M) (hbytes : M * 4 ≤ 536870912) (hf : cells + 1 ≤ R.cells ∧ slots + M ≤ R.slots) (d : decode cc pc = .ok (.anewarray index, 3)) (k : J G p l e R s m args below meth c z nL Q (va_up ct N (cQC G M (fun _ => none))) (N + 1) (cells + 1) (slots + M) (pc + 3) lv (.ref (z + N) :: rest)) : J G p l e R s m args below meth c z nL Q ct N cells slots pc lv (.int n :: rest) := by
  intro H locs ls hP hS hl
  subst hN
  refine W.anew (g := F0 m pc ls (.int n :: rest)) C.x C.b C.o (C.w _ hcl) (va_AO.use (C.k.2 _ hov)) rfl d rfl hn hbytes hf.1 hf.2 fun cA kA comp f1 f2 f3 f4 => ?_
  obtain ⟨kA', comp', g1, g2, g3, g4⟩ := (C.k.1.2 4 _ rfl).2
  have hcA : cA = (gty G)[4].1 := Option.some.inj (f1.symm.trans g4)
  subst hcA
  rw [hP.1]
  refine k _ _ ls (hP.push ?_ (by rw [Array.size_push]) (fun q hq => by rw [Array.getElem?_push, if_neg (Nat.ne_of_lt hq)])) ⟨Nat.le_trans hS.1 (by rw [Array.size_push]; omega), fun x h1 h2 => by rw [Array.getElem?_push, if_neg (Nat.ne_of_lt (Nat.lt_of_lt_of_le h1 hS.1))]; exact hS.2.1 x h1 h2, hS.2.2⟩ hl
  show (H.push _)[z + N]? = some (vp_cell _ _)
  rw [vp_cell_q, ← hP.1, Array.getElem?_push_size, ← arrV_new]
  rfl
theorem j_mmax (C : Cx G p s m args meth c cc nL own z ret nme) {index : Nat} {x y : Int32} (hlink : Cond.methodLink own index yJ9_max_7cf53 ∈ lw_good) (hstat : Cond.static yJ9_max_7cf53 ∈ lw_good) (hini : Cond.initialized RJ9 ∈ lw_good) (hcode : Cond.code yJ9_max_7cf53 cJ9_max_7cf53 2 (some .int) ∈ lw_good) (hfr : 1 ≤ R.frames) (hlo : (rest.map fun v => v.category).sum + 13 ≤ R.locals) (hc : cells ≤ R.cells) (hs : slots ≤ R.slots) (d : decode cc pc = .ok (.invokestatic index, 3)) (k : J G p l e R s m args below meth c z nL Q ct N cells slots (pc + 3) lv (.int (if x < y then y else x) :: rest)) : J G p l e R s m args below meth c z nL Q ct N cells slots pc lv (.int y :: .int x :: rest) := fun H locs ls hP hS hl => va_mmax C.x C.b (by rw [C.lL, hl.1]) C.o (C.w _ hlink) (C.w _ hstat) (C.w _ hini) (C.w _ hcode) hfr hlo hc hs d (k H locs ls hP hS hl)
theorem j_mmin (C : Cx G p s m args meth c cc nL own z ret nme) {index : Nat} {x y : Int32} (hlink : Cond.methodLink own index yJ9_min_7cf53 ∈ lw_good) (hstat : Cond.static yJ9_min_7cf53 ∈ lw_good) (hini : Cond.initialized RJ9 ∈ lw_good) (hcode : Cond.code yJ9_min_7cf53 cJ9_min_7cf53 2 (some .int) ∈ lw_good) (hfr : 1 ≤ R.frames) (hlo : (rest.map fun v => v.category).sum + 13 ≤ R.locals) (hc : cells ≤ R.cells) (hs : slots ≤ R.slots) (d : decode cc pc = .ok (.invokestatic index, 3)) (k : J G p l e R s m args below meth c z nL Q ct N cells slots (pc + 3) lv (.int (if y < x then y else x) :: rest)) : J G p l e R s m args below meth c z nL Q ct N cells slots pc lv (.int y :: .int x :: rest) := fun H locs ls hP hS hl => va_mmin C.x C.b (by rw [C.lL, hl.1]) C.o (C.w _ hlink) (C.w _ hstat) (C.w _ hini) (C.w _ hcode) hfr hlo hc hs d (k H locs ls hP hS hl)
end J2
