theorem o_int {a : Nat} (h : a < 2147483648) : (Int32.ofNat a).toInt = a := i_nat (by omega)
theorem tn {a : Nat} (h : a < 2147483648) : (Int32.ofNat a).toNatClampNeg = a := by
  show (Int32.ofNat a).toInt.toNat = a
  rw [o_int h]; omega
theorem ixo {a n : Nat} (h : a < 2147483648) : ix (Int32.ofNat a) n ↔ a < n := by
  unfold ix; rw [o_int h]; omega
theorem o_le {a b : Nat} (ha : a < 2147483648) (hb : b < 2147483648) : Int32.ofNat a ≤ Int32.ofNat b ↔ a ≤ b := by rw [i32_le, o_int ha, o_int hb]; omega
theorem o_lt {a b : Nat} (ha : a < 2147483648) (hb : b < 2147483648) : Int32.ofNat a < Int32.ofNat b ↔ a < b := by rw [i32_lt, o_int ha, o_int hb]; omega
theorem o_eq {a b : Nat} (ha : a < 2147483648) (hb : b < 2147483648) : Int32.ofNat a = Int32.ofNat b ↔ a = b := by rw [i32_eq, o_int ha, o_int hb]; omega
theorem o_add (a b : Nat) : Int32.ofNat a + Int32.ofNat b = Int32.ofNat (a + b) := (Int32.ofNat_add a b).symm
theorem o_mul (a b : Nat) : Int32.ofNat a * Int32.ofNat b = Int32.ofNat (a * b) := (Int32.ofNat_mul a b).symm
theorem o_sub1 {a : Nat} : Int32.ofNat (a + 1) - 1 = Int32.ofNat a := by
  rw [Int32.ofNat_add, show Int32.ofNat 1 = 1 from rfl, Int32.add_sub_cancel]
theorem o_succ (a : Nat) : Int32.ofNat a + 1 = Int32.ofNat (a + 1) := o_add a 1
theorem o_pred {a : Nat} : Int32.ofNat (a + 1) + -1 = Int32.ofNat a := by
  rw [← Int32.sub_eq_add_neg]; exact o_sub1
theorem ex_o {x : Int32} {n : Nat} (h : 0 ≤ x.toInt) (h2 : x.toInt < n) : ∃ a : Nat, a < n ∧ x = Int32.ofNat a := ⟨x.toInt.toNat, by omega, i_ext (by omega)⟩
-- readings that a reckoning is made from
def Ar (nar : Int32) (X : Nat → UInt64) (XB : Nat → Int32) : Prop := ∀ p, p < 16 → Br nar (X p) ∧ (XB p = 0 ∨ XB p = 1) ∧ (XB p ≠ 0 → X p = FP.dconst0)
def nx1 (x : UInt64) (b : Int32) : UInt64 × Int32 := if b = 0 then (x, 0) else (FP.dconst0, 1)
def mnv (x y : UInt64) : UInt64 := if ok y < ok x then y else x
def mxv (x y : UInt64) : UInt64 := if ok x < ok y then y else x
def csl (X : Nat → UInt64) (XB : Nat → Int32) (p n : Nat) : Nat := cnt (fun q => decide (XB q = 0 ∧ dk (X q) < dk (X p))) n
def cso (fc : Int32) (X : Nat → UInt64) (XB : Nat → Int32) (Y : Nat → UInt64) (YB : Nat → Int32) (n : Nat) : Nat := cnt (fun q => decide (so fc (X q) (XB q) (Y q) (YB q) ≠ 0)) n
def RV (nar ff fc : Int32) (X : Nat → UInt64) (XB : Nat → Int32) (Y : Nat → UInt64) (YB : Nat → Int32) (p : Nat) : UInt64 × Int32 :=
  if ff ≤ 8 then (if XB p = 0 then (ov ff (X p) nar, 0) else (FP.dconst0, 1))
  else if ff ≤ 16 ∨ ff = 26 then (if XB p = 0 ∧ YB p = 0 then wv ff (X p) (Y p) nar else (FP.dconst0, 1))
  else if ff = 17 then (if XB p = 0 ∧ so fc (X p) (XB p) (Y p) (YB p) ≠ 0 then (X p, 0) else (FP.dconst0, 1))
  else if ff = 18 then (if XB p = 0 then (X p, 0) else (Y p, YB p))
  else if ff = 19 then (if 1 ≤ p ∧ p ≤ 14 ∧ many XB (p - 1) (p + 2) = 3 then sel X XB (p - 1) (p + 2) 1 (p + 2) else (FP.dconst0, 1))
  else if ff = 20 then sel X XB 0 (p + 1) ((many XB 0 (p + 1) : Int) - 1) (p + 1)
  else if ff = 21 then sel X XB 0 (p + 1) 0 (p + 1)
  else if ff = 22 then sel X XB 0 16 p 16
  else if ff = 23 then (if XB p = 0 then (FP.i2d (Int32.ofNat (csl X XB p 16)), 0) else (FP.dconst0, 1))
  else if ff = 24 then (if 1 ≤ p ∧ XB p = 0 ∧ XB (p - 1) = 0 ∧ vd 10 (X p) (X (p - 1)) = 0 then (sm nar (X p) (FP.dneg (X (p - 1))), 0) else (FP.dconst0, 1))
  else (FP.i2d (Int32.ofNat (cso fc X XB Y YB (p + 1))), 0)
abbrev AA : Type := (Nat → UInt64) × (Nat → Int32)
def Up (F : Nat → UInt64) (H : Nat → Int32) (p : Nat) (v : UInt64 × Int32) (r : AA) : Prop := ∀ q, r.1 q = (if q = p then v.1 else F q) ∧ r.2 q = (if q = p then v.2 else H q)
def stp (nar ff fc : Int32) (xn : Nat → UInt64) (xb : Nat → Int32) (yn : Nat → UInt64) (yb : Nat → Int32) (F : Nat → UInt64) (H : Nat → Int32) (v2 : Int32) : Option AA :=
  (gX8_clear 16 F H v2).bind (fun r1 => if (8 : Int32) < ff then (if ff ≤ (16 : Int32) then gX9_fromBoth nar ff fc xn xb yn yb r1.1 r1.2 v2 else (if ff = (26 : Int32) then gX9_fromBoth nar ff fc xn xb yn yb r1.1 r1.2 v2 else gX9_fromRow nar ff fc xn xb yn yb r1.1 r1.2 v2)) else gX9_fromX nar ff fc xn xb yn yb r1.1 r1.2 v2)
theorem rk2 (nar ff fc : Int32) (xn : Nat → UInt64) (xb : Nat → Int32) (yn : Nat → UInt64) (yb : Nat → Int32) (F : Nat → UInt64) (H : Nat → Int32) (k : (Nat → UInt64) → (Nat → Int32) → Int32 → Option AA) (F9 : Nat → UInt64) (H9 : Nat → Int32) (v2 : Int32) :
    gX9_reckon_2 nar ff fc xn xb yn yb F H k F9 H9 v2 = if (16 : Int32) ≤ v2 then some (F9, H9) else (stp nar ff fc xn xb yn yb F9 H9 v2).bind (fun r => k r.1 r.2 (v2 + 1)) := by
  unfold gX9_reckon_2 stp gX9_reckon_52 gX9_reckon_67
  split
  · rfl
  · rw [Option.bind_assoc]
    congr 1
    funext r1
    split
    · split
      · rfl
      · split <;> rfl
    · rfl
theorem rk_loop (nar ff fc : Int32) (xn : Nat → UInt64) (xb : Nat → Int32) (yn : Nat → UInt64) (yb : Nat → Int32) (F : Nat → UInt64) (H : Nat → Int32) (I : Nat → (Nat → UInt64) → (Nat → Int32) → Prop)
    (hs : ∀ p F H, p < 16 → I p F H → ∃ r, stp nar ff fc xn xb yn yb F H (Int32.ofNat p) = some r ∧ I (p + 1) r.1 r.2) :
    ∀ (k f p : Nat) (F9 : Nat → UInt64) (H9 : Nat → Int32), p + k = 16 → k < f → I p F9 H9 → ∃ r, lq3 (gX9_reckon_2 nar ff fc xn xb yn yb F H) f F9 H9 (Int32.ofNat p) = some r ∧ I 16 r.1 r.2 := by
  intro k
  induction k with
  | zero =>
    intro f p F9 H9 hp hf hI
    obtain ⟨f, rfl⟩ : ∃ g, f = g + 1 := ⟨f - 1, by omega⟩
    obtain rfl : p = 16 := by omega
    refine ⟨(F9, H9), ?_, hI⟩
    show gX9_reckon_2 nar ff fc xn xb yn yb F H _ F9 H9 _ = _
    rw [rk2, if_pos (by decide)]
  | succ k ih =>
    intro f p F9 H9 hp hf hI
    obtain ⟨f, rfl⟩ : ∃ g, f = g + 1 := ⟨f - 1, by omega⟩
    obtain ⟨r, r1, r2⟩ := hs p F9 H9 (by omega) hI
    obtain ⟨r', a1, a2⟩ := ih f (p + 1) r.1 r.2 (by omega) (by omega) r2
    refine ⟨r', ?_, a2⟩
    show gX9_reckon_2 nar ff fc xn xb yn yb F H _ F9 H9 _ = _
    rw [rk2, if_neg (by rw [show (16 : Int32) = Int32.ofNat 16 from rfl, o_le (by omega) (by omega)]; omega), r1]
    simp only [Option.bind_some]
    rw [o_succ]; exact a1
theorem rk_all {nar ff fc : Int32} {xn : Nat → UInt64} {xb : Nat → Int32} {yn : Nat → UInt64} {yb : Nat → Int32} {F : Nat → UInt64} {H : Nat → Int32} (I : Nat → (Nat → UInt64) → (Nat → Int32) → Prop)
    (hs : ∀ p F H, p < 16 → I p F H → ∃ r, stp nar ff fc xn xb yn yb F H (Int32.ofNat p) = some r ∧ I (p + 1) r.1 r.2) (h0 : I 0 F H) : ∃ r, gX9_reckon nar ff fc xn xb yn yb F H = some r ∧ I 16 r.1 r.2 :=
  rk_loop nar ff fc xn xb yn yb F H I hs 16 20 0 F H rfl (by decide) h0
theorem n1' : vp_nar .boolean (1 : Int32) = 1 := by decide
theorem n0' : vp_nar .boolean (0 : Int32) = 0 := by decide
theorem c_clear {n p : Nat} (F : Nat → UInt64) (H : Nat → Int32) (h : p < n) (hp : p < 2147483648) : gX8_clear n F H (Int32.ofNat p) = some (vf_upd F p FP.dconst0, upd H p 1) := by
  unfold gX8_clear
  rw [if_pos ((ixo hp).mpr h), if_pos ((ixo hp).mpr h), tn hp, n1']
theorem c_put {n p : Nat} (F : Nat → UInt64) (H : Nat → Int32) (x : UInt64) (h : p < n) (hp : p < 2147483648) : gX8_put n F H (Int32.ofNat p) x = some (vf_upd F p x, upd H p 0) := by
  unfold gX8_put
  rw [if_pos ((ixo hp).mpr h), if_pos ((ixo hp).mpr h), tn hp, n0']
theorem c_at {n p : Nat} (F : Nat → UInt64) (H : Nat → Int32) (h : p < n) (hp : p < 2147483648) : gX8_at n F H (Int32.ofNat p) = some (F p) := by
  unfold gX8_at
  rw [if_pos ((ixo hp).mpr h), tn hp]
theorem c_blank {n p : Nat} (F : Nat → UInt64) (H : Nat → Int32) (h : p < n) (hp : p < 2147483648) (hb : H p = 0 ∨ H p = 1) : gX8_blankAt n F H (Int32.ofNat p) = some (H p) := by
  unfold gX8_blankAt
  rw [if_pos ((ixo hp).mpr h), tn hp, if_pos (nar01 hb)]
theorem b00 (x : UInt64) : gX6_brought x 0 = some x := rfl
theorem c_putS {n p q : Nat} (F : Nat → UInt64) (H : Nat → Int32) (h : p < n) (hp : p < 2147483648) (h' : q < n) (hq : q < 2147483648) (hb : H q = 0 ∨ H q = 1) : gX8_putBroughtS n F H (Int32.ofNat p) (Int32.ofNat q) 0 = some (vf_upd F p (F q), upd H p (H q)) := by
  unfold gX8_putBroughtS
  rw [if_pos ((ixo hq).mpr h'), tn hq, b00]
  simp only [Option.bind_some]
  rw [if_pos ((ixo hp).mpr h), if_pos ((ixo hq).mpr h'), if_pos ((ixo hp).mpr h), tn hp, nar01 hb]
theorem c_putB {n p n2 q : Nat} (F : Nat → UInt64) (H : Nat → Int32) (F2 : Nat → UInt64) (H2 : Nat → Int32) (nar : Int32) (h : p < n) (hp : p < 2147483648) (h' : q < n2) (hq : q < 2147483648) (hx : NN (F2 q)) (hb : H2 q = 0 ∨ H2 q = 1) : gX8_putBrought n F H n2 F2 H2 (Int32.ofNat p) (Int32.ofNat q) nar = some (vf_upd F p (br nar (F2 q)), upd H p (H2 q)) := by
  unfold gX8_putBrought
  rw [if_pos ((ixo hq).mpr h'), tn hq, brC _ _ hx]
  simp only [Option.bind_some]
  rw [if_pos ((ixo hp).mpr h), if_pos ((ixo hq).mpr h'), if_pos ((ixo hp).mpr h), tn hp, nar01 hb]
theorem up_none (F : Nat → UInt64) (H : Nat → Int32) (p : Nat) : Up F H p (FP.dconst0, 1) (vf_upd F p FP.dconst0, upd H p 1) := fun q => ⟨rfl, rfl⟩
theorem up_put (F : Nat → UInt64) (H : Nat → Int32) (p : Nat) (x : UInt64) : Up F H p (x, 0) (vf_upd (vf_upd F p FP.dconst0) p x, upd (upd H p 1) p 0) := fun q => by
  unfold vf_upd upd
  by_cases h : q = p <;> simp [h]
