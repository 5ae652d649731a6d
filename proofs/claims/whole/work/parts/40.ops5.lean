theorem op_cases {f : Int32} (h1 : 0 ≤ f.toInt) (h2 : f.toInt ≤ 11) : f = 0 ∨ f = 1 ∨ f = 2 ∨ f = 3 ∨ f = 4 ∨ f = 5 ∨ f = 6 ∨ f = 7 ∨ f = 8 ∨ f = 9 ∨ f = 10 ∨ f = 11 := by
  have : f.toInt = 0 ∨ f.toInt = 1 ∨ f.toInt = 2 ∨ f.toInt = 3 ∨ f.toInt = 4 ∨ f.toInt = 5 ∨ f.toInt = 6 ∨ f.toInt = 7 ∨ f.toInt = 8 ∨ f.toInt = 9 ∨ f.toInt = 10 ∨ f.toInt = 11 := by omega
  rcases this with h | h | h | h | h | h | h | h | h | h | h | h
  · exact .inl (Int32.toInt.inj h)
  · exact .inr (.inl (Int32.toInt.inj h))
  · exact .inr (.inr (.inl (Int32.toInt.inj h)))
  · exact .inr (.inr (.inr (.inl (Int32.toInt.inj h))))
  · exact .inr (.inr (.inr (.inr (.inl (Int32.toInt.inj h)))))
  · exact .inr (.inr (.inr (.inr (.inr (.inl (Int32.toInt.inj h))))))
  · exact .inr (.inr (.inr (.inr (.inr (.inr (.inl (Int32.toInt.inj h)))))))
  · exact .inr (.inr (.inr (.inr (.inr (.inr (.inr (.inl (Int32.toInt.inj h))))))))
  · exact .inr (.inr (.inr (.inr (.inr (.inr (.inr (.inr (.inl (Int32.toInt.inj h)))))))))
  · exact .inr (.inr (.inr (.inr (.inr (.inr (.inr (.inr (.inr (.inl (Int32.toInt.inj h))))))))))
  · exact .inr (.inr (.inr (.inr (.inr (.inr (.inr (.inr (.inr (.inr (.inl (Int32.toInt.inj h)))))))))))
  · exact .inr (.inr (.inr (.inr (.inr (.inr (.inr (.inr (.inr (.inr (.inr ((Int32.toInt.inj h))))))))))))
def cmpv (o : Int32) (x y : UInt64) : Int32 := if o = 0 then (if dk x < dk y then 1 else 0) else if o = 1 then (if dk x ≤ dk y then 1 else 0) else if o = 2 then (if dk y < dk x then 1 else 0) else if o = 3 then (if dk y ≤ dk x then 1 else 0) else if o = 4 then (if dk x = dk y then 1 else 0) else (if dk x = dk y then 0 else 1)
def so6 (o : Int32) (x : UInt64) (xb : Int32) (y : UInt64) (yb : Int32) : Int32 := if xb = 0 ∧ yb = 0 then cmpv o x y else if o = 5 then 1 else 0
def so (op : Int32) (x : UInt64) (xb : Int32) (y : UInt64) (yb : Int32) : Int32 := if op < 6 then so6 op x xb y yb else if so6 (op - 6) x xb y yb = 0 then 1 else 0
theorem cmpv01 (o : Int32) (x y : UInt64) : cmpv o x y = 0 ∨ cmpv o x y = 1 := by
  unfold cmpv; (repeat' split) <;> simp
theorem so601 (o : Int32) (x : UInt64) (xb : Int32) (y : UInt64) (yb : Int32) : so6 o x xb y yb = 0 ∨ so6 o x xb y yb = 1 := by
  unfold so6; split
  · exact cmpv01 o x y
  · split <;> simp
theorem so01 (o : Int32) (x : UInt64) (xb : Int32) (y : UInt64) (yb : Int32) : so o x xb y yb = 0 ∨ so o x xb y yb = 1 := by
  unfold so; split
  · exact so601 ..
  · split <;> simp
theorem nar01 {b : Int32} (h : b = 0 ∨ b = 1) : vp_nar .boolean b = b := by rcases h with rfl | rfl <;> decide
theorem soOfC (o : Int32) (x y : UInt64) (hx : NN x) (hy : NN y) (h : o = 0 ∨ o = 1 ∨ o = 2 ∨ o = 3 ∨ o = 4 ∨ o = 5) : gX5_isSoOf o x y = some (cmpv o x y) := by
  unfold gX5_isSoOf cmpv
  simp only [cv hx hy, cq_ge, cq_gt, cq_le, cq_lt, cq_eq]
  rcases h with rfl | rfl | rfl | rfl | rfl | rfl
  all_goals simp
  all_goals (try ((repeat' split) <;> first | rfl | (exfalso; omega)))
theorem x_0 {s : Int32} (h : s = 0 ∨ s = 1) : (if s = 0 then (0 : Int32) else 1) = s := by rcases h with rfl | rfl <;> decide
theorem x_1 {s : Int32} (h : s = 0 ∨ s = 1) : (if s = 1 then (0 : Int32) else 1) = if s = 0 then 1 else 0 := by rcases h with rfl | rfl <;> decide
theorem isSoC (n1 : Nat) (f1 : Nat → UInt64) (h1 : Nat → Int32) (n2 : Nat) (f2 : Nat → UInt64) (h2 : Nat → Int32) (op p q : Int32) (ho : 0 ≤ op.toInt ∧ op.toInt ≤ 11) (hp : ix p n1) (hq : ix q n2)
    (b1 : h1 p.toNatClampNeg = 0 ∨ h1 p.toNatClampNeg = 1) (b2 : h2 q.toNatClampNeg = 0 ∨ h2 q.toNatClampNeg = 1) (x1 : NN (f1 p.toNatClampNeg)) (x2 : NN (f2 q.toNatClampNeg)) :
    gX5_isSo n1 f1 h1 n2 f2 h2 op p q = some (so op (f1 p.toNatClampNeg) (h1 p.toNatClampNeg) (f2 q.toNatClampNeg) (h2 q.toNatClampNeg)) := by
  have e1 : gX8_blankAt n1 f1 h1 p = some (h1 p.toNatClampNeg) := by unfold gX8_blankAt; rw [if_pos hp, if_pos (nar01 b1)]
  have e2 : gX8_blankAt n2 f2 h2 q = some (h2 q.toNatClampNeg) := by unfold gX8_blankAt; rw [if_pos hq, if_pos (nar01 b2)]
  have e3 : gX8_at n1 f1 h1 p = some (f1 p.toNatClampNeg) := by unfold gX8_at; rw [if_pos hp]
  have e4 : gX8_at n2 f2 h2 q = some (f2 q.toNatClampNeg) := by unfold gX8_at; rw [if_pos hq]
  have k : ∀ (v5 o : Int32), (o = 0 ∨ o = 1 ∨ o = 2 ∨ o = 3 ∨ o = 4 ∨ o = 5) → gX5_isSo_26 n1 f1 h1 n2 f2 h2 op p q v5 o = some (if so6 o (f1 p.toNatClampNeg) (h1 p.toNatClampNeg) (f2 q.toNatClampNeg) (h2 q.toNatClampNeg) = v5 then 0 else 1) := by
    intro v5 o hoo
    unfold gX5_isSo_26 gX5_isSo_45 gX5_isSo_50
    rw [e1, e2, e3, e4]
    simp only [Option.bind_some]
    rw [soOfC o _ _ x1 x2 hoo]
    unfold so6 gX5_isSo_87
    simp only [Option.bind_some]
    by_cases c1 : h1 p.toNatClampNeg = 0 <;> by_cases c2 : h2 q.toNatClampNeg = 0 <;> by_cases c3 : o = 5 <;> simp only [c1, c2, c3, if_true, if_false, and_self, and_true, and_false, true_and, false_and] <;> (repeat' split) <;> simp_all
  unfold gX5_isSo gX5_isSo_11 so
  simp only [k]
  rcases op_cases ho.1 ho.2 with rfl | rfl | rfl | rfl | rfl | rfl | rfl | rfl | rfl | rfl | rfl | rfl
  all_goals (first | rw [if_pos (by decide), if_pos (by decide), if_pos (by decide)] | rw [if_neg (by decide), if_neg (by decide), if_neg (by decide)])
  all_goals (rw [k _ _ (by decide)]; refine congrArg some ?_)
  all_goals (first | exact x_0 (so601 _ _ _ _ _) | exact x_1 (so601 _ _ _ _ _))
theorem isSoM (op : Int32) (x : UInt64) (xb : Int32) (y : UInt64) (yb : Int32) (ho : 0 ≤ op.toInt ∧ op.toInt ≤ 11) (hx : NN x) (hy : NN y) : gX11_isSo op x xb y yb = some (so op x xb y yb) := by
  have k : ∀ v8 : Int32, (v8 = 0 ∨ v8 = 1) → gX11_isSo_149 op x xb y yb v8 = some (if op < 6 then v8 else if v8 = 0 then 1 else 0) := by
    intro v8 h
    unfold gX11_isSo_149
    rw [if_pos (nar01 h)]
    by_cases h6 : op < 6
    · rw [if_pos h6, if_neg (by rw [i32_le]; rw [i32_lt] at h6; omega)]
    · rw [if_neg h6, if_pos (by rw [i32_le]; rw [i32_lt] at h6; omega)]
      split <;> rfl
  unfold gX11_isSo gX11_isSo_15 gX11_isSo_26 gX11_isSo_147 so
  rw [if_pos (by decide)]
  simp only [k _ (.inl rfl), k _ (.inr rfl), cv hx hy, cq_ge, cq_gt, cq_le, cq_lt, cq_eq]
  rcases op_cases ho.1 ho.2 with rfl | rfl | rfl | rfl | rfl | rfl | rfl | rfl | rfl | rfl | rfl | rfl
  all_goals (unfold so6 cmpv; by_cases c1 : xb = 0 <;> by_cases c2 : yb = 0 <;> simp [c1, c2])
  all_goals (try ((repeat' split) <;> first | rfl | (exfalso; omega)))
