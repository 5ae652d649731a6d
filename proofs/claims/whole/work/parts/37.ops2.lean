def sm (nar : Int32) (x y : UInt64) : UInt64 := if nar = 0 then FP.dadd x y else FP.f2d (FP.fadd (FP.d2f x) (FP.d2f y))
def pr (nar : Int32) (x y : UInt64) : UInt64 := if nar = 0 then FP.dmul x y else FP.f2d (FP.fmul (FP.d2f x) (FP.d2f y))
def qu (nar : Int32) (x y : UInt64) : UInt64 := if nar = 0 then FP.ddiv x y else FP.f2d (FP.fdiv (FP.d2f x) (FP.d2f y))
def badS (x y : UInt64) : Prop := ∃ s, vl x = .inf s ∧ vl y = .inf (!s)
def badP (x y : UInt64) : Prop := (∃ s, vl x = .inf s ∧ FP.Core.DZero y) ∨ (∃ s, FP.Core.DZero x ∧ vl y = .inf s)
def badQ (x y : UInt64) : Prop := (∃ s t, vl x = .inf s ∧ vl y = .inf t) ∨ (FP.Core.DZero x ∧ FP.Core.DZero y)
theorem inf_isI {x : UInt64} {s : Bool} (h : vl x = .inf s) : isI x ≠ 0 ∧ ¬ dk x = 0 := by
  have hn : NN x := nn_of (by rw [show FP.Core.val64 x = .inf s from h]; exact FP.Core.Datum.noConfusion)
  refine ⟨?_, ?_⟩
  · intro h1
    obtain ⟨a, b, c, e⟩ := (isI_iff hn).mp h1
    rw [show FP.Core.val64 x = .inf s from h] at e; cases e
  · intro h1
    obtain ⟨a, b, e⟩ := dz_iff.mpr h1
    rw [show FP.Core.val64 x = .inf s from h] at e; cases e
theorem badS_void {x y : UInt64} (h : badS x y) : isI x ≠ 0 ∧ isI y ≠ 0 ∧ dk x ≠ dk y := by
  obtain ⟨s, h1, h2⟩ := h
  refine ⟨(inf_isI h1).1, (inf_isI h2).1, ?_⟩
  intro h3
  have a1 := (inf_isI h1).2
  have hxy : x = y := by
    have b1 := x.toNat_lt
    have b2 := y.toNat_lt
    rw [dk_eq] at a1
    rw [dk_eq, dk_eq] at h3
    refine UInt64.toNat.inj ?_
    split at h3 <;> split at h3 <;> (split at a1 <;> omega)
  rw [hxy] at h1
  rw [h1] at h2
  cases s <;> cases h2
theorem badP_void {x y : UInt64} (h : badP x y) : (dk x = 0 ∧ isI y ≠ 0) ∨ (isI x ≠ 0 ∧ dk y = 0) := by
  rcases h with ⟨s, h1, h2⟩ | ⟨s, h1, h2⟩
  · exact .inr ⟨(inf_isI h1).1, dz_iff.mp h2⟩
  · exact .inl ⟨dz_iff.mp h1, (inf_isI h2).1⟩
theorem badQ_void {x y : UInt64} (h : badQ x y) : (dk x = 0 ∧ dk y = 0) ∨ (isI x ≠ 0 ∧ isI y ≠ 0) := by
  rcases h with ⟨s, t, h1, h2⟩ | ⟨h1, h2⟩
  · exact .inr ⟨(inf_isI h1).1, (inf_isI h2).1⟩
  · exact .inl ⟨dz_iff.mp h1, dz_iff.mp h2⟩
theorem ffn {f : UInt32} (h : ¬ FP.Core.fIsNaN f = true) : FNN f := by
  show FP.Core.fIsNaN f = false
  cases hh : FP.Core.fIsNaN f
  · rfl
  · exact absurd hh h
theorem ddn {f : UInt64} (h : ¬ FP.Core.dIsNaN f = true) : NN f := by
  show FP.Core.dIsNaN f = false
  cases hh : FP.Core.dIsNaN f
  · rfl
  · exact absurd hh h
theorem fv {f : UInt32} (h : FNN f) : FP.Core.val32 f ≠ .nan := (FP.Core.notNaN_iff32 f).mp h
theorem sm_ok {nar : Int32} {x y : UInt64} (hx : Br nar x) (hy : Br nar y) (h : ¬ badS x y) : gX6_sum x y nar = some (sm nar x y) ∧ NN (sm nar x y) ∧ nbd nar (sm nar x y) := by
  unfold gX6_sum sm
  by_cases hn : nar = 0
  · have hr : NN (FP.dadd x y) := ddn (by
      rw [show FP.dadd x y = FP.Core.dadd x y from rfl, FP.Core.dadd_nan_iff]
      rintro (h1 | h1 | h1)
      · exact nn_val hx.1 h1
      · exact nn_val hy.1 h1
      · exact h h1)
    rw [if_pos hn, if_pos hr, if_pos hn]
    exact ⟨rfl, hr, .inl hn⟩
  · rcases hx.2 with h0 | ⟨f, ef, rfl⟩
    · exact absurd h0 hn
    rcases hy.2 with h0 | ⟨g, eg, rfl⟩
    · exact absurd h0 hn
    rw [if_neg hn, if_neg hn, d2f_f2d ef, d2f_f2d eg]
    have hr : FNN (FP.fadd f g) := ffn (by
      rw [show FP.fadd f g = FP.Core.fadd f g from rfl, FP.Core.fadd_nan_iff]
      rintro (h1 | h1 | ⟨s, h1, h2⟩)
      · exact fv ef h1
      · exact fv eg h1
      · exact h ⟨s, ((f2d_datum f ef).1 s).mp h1, ((f2d_datum g eg).1 _).mp h2⟩)
    rw [if_pos ef, if_pos eg, if_pos hr, if_pos (f2d_nn hr)]
    exact ⟨rfl, f2d_nn hr, .inr (f2d_mag _ hr)⟩
theorem pr_ok' {nar : Int32} {x y : UInt64} (hx : NN x) (hy : Br nar y) (h : ¬ badP x y) (h2 : nar ≠ 0 → ¬ badP (FP.f2d (FP.d2f x)) y) : gX6_product x y nar = some (pr nar x y) ∧ NN (pr nar x y) ∧ nbd nar (pr nar x y) := by
  unfold gX6_product pr
  by_cases hn : nar = 0
  · have hr : NN (FP.dmul x y) := ddn (by
      rw [show FP.dmul x y = FP.Core.dmul x y from rfl, FP.Core.dmul_nan_iff]
      rintro (h1 | h1 | h1)
      · exact nn_val hx h1
      · exact nn_val hy.1 h1
      · exact h h1)
    rw [if_pos hn, if_pos hr, if_pos hn]
    exact ⟨rfl, hr, .inl hn⟩
  · rcases hy.2 with h0 | ⟨g, eg, rfl⟩
    · exact absurd h0 hn
    have ef := d2f_nn hx
    have h2' := h2 hn
    generalize FP.d2f x = f at *
    rw [if_neg hn, if_neg hn, d2f_f2d eg]
    have hr : FNN (FP.fmul f g) := ffn (by
      rw [show FP.fmul f g = FP.Core.fmul f g from rfl, FP.Core.fmul_nan_iff]
      rintro (h1 | h1 | ⟨s, h1, h2⟩ | ⟨s, h1, h2⟩)
      · exact fv ef h1
      · exact fv eg h1
      · exact h2' (.inl ⟨s, ((f2d_datum f ef).1 s).mp h1, (f2d_datum g eg).2.2.mp h2⟩)
      · exact h2' (.inr ⟨s, (f2d_datum f ef).2.2.mp h1, ((f2d_datum g eg).1 _).mp h2⟩))
    rw [if_pos ef, if_pos eg, if_pos hr, if_pos (f2d_nn hr)]
    exact ⟨rfl, f2d_nn hr, .inr (f2d_mag _ hr)⟩
theorem Br_same {nar : Int32} {x : UInt64} (hx : Br nar x) (hn : nar ≠ 0) : FP.f2d (FP.d2f x) = x := by
  rcases hx.2 with h0 | ⟨f, ef, rfl⟩
  · exact absurd h0 hn
  · rw [d2f_f2d ef]
theorem pr_ok {nar : Int32} {x y : UInt64} (hx : Br nar x) (hy : Br nar y) (h : ¬ badP x y) : gX6_product x y nar = some (pr nar x y) ∧ NN (pr nar x y) ∧ nbd nar (pr nar x y) :=
  pr_ok' hx.1 hy h (fun hn => by rw [Br_same hx hn]; exact h)
theorem qu_ok {nar : Int32} {x y : UInt64} (hx : Br nar x) (hy : Br nar y) (h : ¬ badQ x y) : gX6_quotient x y nar = some (qu nar x y) ∧ NN (qu nar x y) ∧ nbd nar (qu nar x y) := by
  unfold gX6_quotient qu
  by_cases hn : nar = 0
  · have hr : NN (FP.ddiv x y) := ddn (by
      rw [show FP.ddiv x y = FP.Core.ddiv x y from rfl, FP.Core.ddiv_nan_iff]
      rintro (h1 | h1 | h1)
      · exact nn_val hx.1 h1
      · exact nn_val hy.1 h1
      · exact h h1)
    rw [if_pos hn, if_pos hr, if_pos hn]
    exact ⟨rfl, hr, .inl hn⟩
  · rcases hx.2 with h0 | ⟨f, ef, rfl⟩
    · exact absurd h0 hn
    rcases hy.2 with h0 | ⟨g, eg, rfl⟩
    · exact absurd h0 hn
    rw [if_neg hn, if_neg hn, d2f_f2d ef, d2f_f2d eg]
    have hr : FNN (FP.fdiv f g) := ffn (by
      rw [show FP.fdiv f g = FP.Core.fdiv f g from rfl, FP.Core.fdiv_nan_iff]
      rintro (h1 | h1 | ⟨s, t, h1, h2⟩ | ⟨h1, h2⟩)
      · exact fv ef h1
      · exact fv eg h1
      · exact h (.inl ⟨s, t, ((f2d_datum f ef).1 s).mp h1, ((f2d_datum g eg).1 _).mp h2⟩)
      · exact h (.inr ⟨(f2d_datum f ef).2.2.mp h1, (f2d_datum g eg).2.2.mp h2⟩))
    rw [if_pos ef, if_pos eg, if_pos hr, if_pos (f2d_nn hr)]
    exact ⟨rfl, f2d_nn hr, .inr (f2d_mag _ hr)⟩
theorem sumE (x y : UInt64) (n : Int32) : gX11_sum x y n = gX6_sum x y n := rfl
theorem prE (x y : UInt64) (n : Int32) : gX11_product x y n = gX6_product x y n := rfl
theorem quE (x y : UInt64) (n : Int32) : gX11_quotient x y n = gX6_quotient x y n := rfl
theorem pr_comm (nar : Int32) (x y : UInt64) : pr nar x y = pr nar y x := by
  unfold pr
  rw [show FP.dmul x y = FP.dmul y x from FP.Core.dmul_comm x y, show FP.fmul (FP.d2f x) (FP.d2f y) = FP.fmul (FP.d2f y) (FP.d2f x) from FP.Core.fmul_comm _ _]
theorem two_Br (nar : Int32) : Br nar 4611686018427387904 := ⟨nn_2, .inr ⟨1073741824, by decide +kernel, by decide +kernel⟩⟩
theorem two_fn : ¬ isI 4611686018427387904 ≠ 0 ∧ ¬ dk 4611686018427387904 = 0 := ⟨by decide, by decide +kernel⟩
theorem two_nQ (x : UInt64) : ¬ badQ x 4611686018427387904 := fun h => by
  rcases badQ_void h with ⟨_, h⟩ | ⟨_, h⟩
  · exact two_fn.2 h
  · exact two_fn.1 h
theorem two_nP (x : UInt64) : ¬ badP x 4611686018427387904 := fun h => by
  rcases badP_void h with ⟨_, h⟩ | ⟨_, h⟩
  · exact two_fn.1 h
  · exact two_fn.2 h
theorem two_nR (x : UInt64) : ¬ badP 4611686018427387904 x := fun h => by
  rcases badP_void h with ⟨h, _⟩ | ⟨h, _⟩
  · exact two_fn.2 h
  · exact two_fn.1 h
theorem nbd_of {nar : Int32} {x y : UInt64} (h : nbd nar x) (e : y.toNat % 2 ^ 63 = x.toNat % 2 ^ 63) : nbd nar y := by
  unfold nbd at *; rw [e]; exact h
theorem nbd_neg {nar : Int32} {x : UInt64} (h : nbd nar x) : nbd nar (FP.dneg x) := by
  refine nbd_of h ?_
  rw [dneg_nat]; have := x.toNat_lt; split <;> omega
theorem nbd_l2d (nar : Int32) (v : Int64) : nbd nar (FP.l2d v) := by
  have := FP.Core.l2d_mag v
  refine .inr (.inl ?_)
  show (FP.Core.l2d v).toNat % 2 ^ 63 < _
  omega
theorem nbd_i2d (nar : Int32) (v : Int32) : nbd nar (FP.i2d v) := by
  have := FP.Core.i2d_mag v
  refine .inr (.inl ?_)
  show (FP.Core.i2d v).toNat % 2 ^ 63 < _
  omega
theorem nbd_zl (nar : Int32) (x : UInt64) (v : Int64) : nbd nar (zl x v) := by
  unfold zl; split
  · split
    · exact .inr (.inl (by decide))
    · exact .inr (.inl (by decide))
  · exact nbd_l2d nar v
theorem flo_ok {nar : Int32} {x : UInt64} (hx : NN x) (h : nbd nar x) : NN (flo x) ∧ nbd nar (flo x) := by
  unfold flo; split
  · exact ⟨zl_nn _ _, nbd_zl _ _ _⟩
  · exact ⟨hx, h⟩
theorem cei_ok {nar : Int32} {x : UInt64} (hx : NN x) (h : nbd nar x) : NN (cei x) ∧ nbd nar (cei x) := by
  unfold cei; split
  · exact ⟨zl_nn _ _, nbd_zl _ _ _⟩
  · exact ⟨hx, h⟩
theorem nea_ok {nar : Int32} {x : UInt64} (hx : NN x) (h : nbd nar x) : NN (nea x) ∧ nbd nar (nea x) := by
  unfold nea; split
  · exact ⟨zl_nn _ _, nbd_zl _ _ _⟩
  · exact ⟨hx, h⟩
-- a formula of one column
def ov (f : Int32) (x : UInt64) (nar : Int32) : UInt64 := if f = 1 then absv x else if f = 2 then flo x else if f = 3 then cei x else if f = 4 then nea x else if f = 5 then (if dk x ≤ 0 then (if 0 ≤ dk x then x else 13830554455654793216) else FP.dconst1) else if f = 6 then qu nar x 4611686018427387904 else if f = 7 then pr nar x 4611686018427387904 else if f = 8 then FP.dneg x else x
theorem ofOne (f : Int32) (x : UInt64) (nar : Int32) (hx : Br nar x) : gX6_ofOne f x nar = some (ov f x nar) ∧ NN (ov f x nar) ∧ nbd nar (ov f x nar) := by
  have hn := hx.1
  have hb := Br_nbd hx
  have q1 := qu_ok hx (two_Br nar) (two_nQ x)
  have p1 := pr_ok hx (two_Br nar) (two_nP x)
  have w1 : gX6_withSign x 0 = some (absv x) := by
    unfold gX6_withSign absv
    rw [c_minC x hn]; simp only [Option.bind_some]
    split <;> rfl
  have wa : NN (absv x) ∧ nbd nar (absv x) := by
    unfold absv; split
    · exact ⟨hn, hb⟩
    · exact ⟨dneg_nn hn, nbd_neg hb⟩
  unfold gX6_ofOne ov
  rw [w1, floC x hn, floC _ (dneg_nn hn), neaC x hn, q1.1, p1.1]
  simp only [cv hn nn0, cq_le, cq_ge, dk0, Option.bind_some, ceiC x hn]
  refine ⟨?_, ?_, ?_⟩
  · (repeat' split) <;> rfl
  · (repeat' split) <;> first | exact wa.1 | exact (flo_ok hn hb).1 | exact (cei_ok hn hb).1 | exact (nea_ok hn hb).1 | exact q1.2.1 | exact p1.2.1 | exact hn | exact dneg_nn hn | decide +kernel
  · (repeat' split) <;> first | exact wa.2 | exact (flo_ok hn hb).2 | exact (cei_ok hn hb).2 | exact (nea_ok hn hb).2 | exact q1.2.2 | exact p1.2.2 | exact hb | exact nbd_neg hb | exact .inr (.inl (by decide))
abbrev gv (σ : MS) (v : UInt64) (b : Int32) : MS := m_isNone_ (m_worth_ σ v) b
theorem single (σ : MS) (f : Int32) (x : UInt64) (nar : Int32) (hx : Br nar x) (hf : 0 ≤ f.toInt ∧ f.toInt ≤ 8) : gX11_single σ f x nar = some (gv σ (ov f x nar) 0) := by
  have hn := hx.1
  have q1 := qu_ok hx (two_Br nar) (two_nQ x)
  have p1 := pr_ok (two_Br nar) hx (two_nR x)
  unfold gX11_single gX11_single_70 gX11_single_136 gX11_gives ov
  rw [c_minM x hn, floM x hn, ceiM x hn, neaM x hn, quE, prE, q1.1, p1.1, pr_comm nar 4611686018427387904 x]
  simp only [cv hn nn0, cq_le, cq_ge, dk0, Option.bind_some]
  unfold absv
  by_cases h0 : f = 0
  · subst h0
    rw [if_pos rfl]
    rfl
  rw [if_neg h0]
  (repeat' split) <;> first | rfl | skip
  all_goals (exfalso; simp only [i32_eq] at *; have e0 : (0 : Int32).toInt = 0 := rfl; have e1 : (1 : Int32).toInt = 1 := rfl; have e2 : (2 : Int32).toInt = 2 := rfl; have e3 : (3 : Int32).toInt = 3 := rfl; have e4 : (4 : Int32).toInt = 4 := rfl; have e5 : (5 : Int32).toInt = 5 := rfl; have e6 : (6 : Int32).toInt = 6 := rfl; have e7 : (7 : Int32).toInt = 7 := rfl; have e8 : (8 : Int32).toInt = 8 := rfl; omega)
