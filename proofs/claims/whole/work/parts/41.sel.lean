def cnt (f : Nat → Bool) : Nat → Nat
  | 0 => 0
  | n + 1 => cnt f n + (if f n = true then 1 else 0)
theorem cnt_congr {f g : Nat → Bool} : ∀ {n : Nat}, (∀ q, q < n → f q = g q) → cnt f n = cnt g n
  | 0, _ => rfl
  | n + 1, h => by
    show cnt f n + _ = cnt g n + _
    rw [cnt_congr (fun q hq => h q (by omega)), h n (by omega)]
theorem cnt_mono {f g : Nat → Bool} : ∀ {n : Nat}, (∀ q, q < n → f q = true → g q = true) → cnt f n ≤ cnt g n
  | 0, _ => Nat.le_refl _
  | n + 1, h => by
    have a := cnt_mono (f := f) (g := g) (n := n) (fun q hq => h q (by omega))
    have b := h n (by omega)
    show cnt f n + _ ≤ cnt g n + _
    split
    · rename_i c; rw [if_pos (b c)]; omega
    · split <;> omega
theorem cnt_lt {f g : Nat → Bool} {v : Nat} : ∀ {n : Nat}, (∀ q, q < n → f q = true → g q = true) → v < n → f v = false → g v = true → cnt f n < cnt g n
  | 0, _, h, _, _ => absurd h (by omega)
  | n + 1, h, hv, h1, h2 => by
    have b := h n (by omega)
    show cnt f n + _ < cnt g n + _
    by_cases e : v = n
    · subst e
      have a := cnt_mono (f := f) (g := g) (n := v) (fun q hq => h q (by omega))
      rw [h1, h2]; simp; omega
    · have a := cnt_lt (f := f) (g := g) (n := n) (fun q hq => h q (by omega)) (by omega) h1 h2
      split
      · rename_i c; rw [if_pos (b c)]; omega
      · split <;> omega
theorem cnt_zero {f : Nat → Bool} : ∀ {n : Nat}, (∀ q, q < n → f q = false) → cnt f n = 0
  | 0, _ => rfl
  | n + 1, h => by
    show cnt f n + _ = 0
    rw [cnt_zero (fun q hq => h q (by omega)), h n (by omega)]; rfl
theorem cnt_add {f g k : Nat → Bool} : ∀ {n : Nat}, (∀ q, q < n → (if k q = true then 1 else 0) = (if f q = true then 1 else 0) + (if g q = true then (1 : Nat) else 0)) → cnt k n = cnt f n + cnt g n
  | 0, _ => rfl
  | n + 1, h => by
    have a := cnt_add (f := f) (g := g) (k := k) (n := n) (fun q hq => h q (by omega))
    have b := h n (by omega)
    show cnt k n + _ = cnt f n + _ + (cnt g n + _)
    omega
theorem cnt_le (f : Nat → Bool) : ∀ n : Nat, cnt f n ≤ n
  | 0 => Nat.le_refl _
  | n + 1 => by
    have a := cnt_le f n
    show cnt f n + _ ≤ n + 1
    split <;> omega
theorem cnt_le' {f : Nat → Bool} {r : Nat} : ∀ {n : Nat}, (∀ q, q < n → f q = true → q < r) → cnt f n ≤ r
  | 0, _ => Nat.zero_le _
  | n + 1, h => by
    by_cases hr : n < r
    · have := cnt_le f (n + 1); omega
    · have a := cnt_le' (f := f) (r := r) (n := n) (fun q hq => h q (by omega))
      show cnt f n + _ ≤ r
      have : ¬ f n = true := fun c => hr (h n (by omega) c)
      rw [if_neg this]; omega
theorem cnt_ge' {f : Nat → Bool} {r n : Nat} (hr : r ≤ n) (h : ∀ q, q < r → f q = true) : r ≤ cnt f n := by
  induction n with
  | zero => omega
  | succ n ih =>
    show r ≤ cnt f n + _
    by_cases hn : r ≤ n
    · have := ih hn; omega
    · have e : r = n + 1 := by omega
      rw [if_pos (h n (by omega))]
      have : n ≤ cnt f n := by
        clear ih
        have : ∀ k, k ≤ n → k ≤ cnt f k := by
          intro k
          induction k with
          | zero => intro _; omega
          | succ k ik =>
            intro hk
            show k + 1 ≤ cnt f k + _
            rw [if_pos (h k (by omega))]
            have := ik (by omega); omega
        exact this n (Nat.le_refl _)
      omega
theorem cnt_cross {f : Nat → Bool} {d : Nat} : ∀ {n : Nat}, d < cnt f n → ∃ v, v < n ∧ f v = true ∧ cnt f v = d
  | 0, h => absurd h (Nat.not_lt_zero _)
  | n + 1, h => by
    by_cases c : d < cnt f n
    · obtain ⟨v, a, b⟩ := cnt_cross c
      exact ⟨v, by omega, b⟩
    · have h' : d < cnt f n + (if f n = true then 1 else 0) := h
      by_cases e : f n = true
      · rw [if_pos e] at h'; exact ⟨n, by omega, e, by omega⟩
      · rw [if_neg e] at h'; omega
-- the element of a rank, among the readings lo .. hi
def lows (X : Nat → UInt64) (XB : Nat → Int32) (lo n : Nat) (w : Int) : Nat := cnt (fun q => decide (lo ≤ q ∧ XB q = 0 ∧ ok (X q) < w)) n
def rk (X : Nat → UInt64) (XB : Nat → Int32) (lo n v : Nat) : Nat := cnt (fun q => decide (lo ≤ q ∧ XB q = 0 ∧ (ok (X q) < ok (X v) ∨ (q < v ∧ ok (X q) = ok (X v))))) n
def many (XB : Nat → Int32) (lo n : Nat) : Nat := cnt (fun q => decide (lo ≤ q ∧ XB q = 0)) n
def sel (X : Nat → UInt64) (XB : Nat → Int32) (lo n : Nat) (r : Int) : Nat → UInt64 × Int32
  | 0 => (FP.dconst0, 1)
  | v + 1 => if lo ≤ v ∧ XB v = 0 ∧ (rk X XB lo n v : Int) = r then (X v, 0) else sel X XB lo n r v
theorem lows_mono {X : Nat → UInt64} {XB : Nat → Int32} {lo n : Nat} {w w' : Int} (h : w ≤ w') : lows X XB lo n w ≤ lows X XB lo n w' := by
  refine cnt_mono ?_
  intro q _ h1
  simp only [decide_eq_true_eq] at h1 ⊢
  exact ⟨h1.1, h1.2.1, by omega⟩
theorem lows_many {X : Nat → UInt64} {XB : Nat → Int32} {lo n : Nat} {w : Int} : lows X XB lo n w ≤ many XB lo n := by
  refine cnt_mono ?_
  intro q _ h1
  simp only [decide_eq_true_eq] at h1 ⊢
  exact ⟨h1.1, h1.2.1⟩
theorem rk_bounds {X : Nat → UInt64} {XB : Nat → Int32} {lo n v : Nat} (h1 : lo ≤ v) (h2 : v < n) (h3 : XB v = 0) : lows X XB lo n (ok (X v)) ≤ rk X XB lo n v ∧ rk X XB lo n v < lows X XB lo n (ok (X v) + 1) := by
  refine ⟨cnt_mono ?_, cnt_lt (v := v) ?_ h2 ?_ ?_⟩
  · intro q _ h
    simp only [decide_eq_true_eq] at h ⊢
    exact ⟨h.1, h.2.1, .inl h.2.2⟩
  · intro q _ h
    simp only [decide_eq_true_eq] at h ⊢
    exact ⟨h.1, h.2.1, by omega⟩
  · simp only [decide_eq_false_iff_not]
    omega
  · simp only [decide_eq_true_eq]
    exact ⟨h1, h3, by omega⟩
theorem sel_val {X : Nat → UInt64} {XB : Nat → Int32} {lo n : Nat} {r : Int} {w : UInt64} (h : ∀ v, lo ≤ v → v < n → XB v = 0 → (rk X XB lo n v : Int) = r → X v = w) :
    ∀ m, m ≤ n → (∃ v, lo ≤ v ∧ v < m ∧ XB v = 0 ∧ (rk X XB lo n v : Int) = r) → sel X XB lo n r m = (w, 0) := by
  intro m
  induction m with
  | zero => rintro _ ⟨v, _, h2, _⟩; omega
  | succ m ih =>
    rintro hm ⟨v, h1, h2, h3, h4⟩
    show (if _ then _ else _) = _
    split
    · rename_i c; rw [h m c.1 (by omega) c.2.1 c.2.2]
    · rename_i c
      refine ih (by omega) ⟨v, h1, ?_, h3, h4⟩
      false_or_by_contra
      have : v = m := by omega
      subst this
      exact c ⟨h1, h3, h4⟩
theorem sel_none {X : Nat → UInt64} {XB : Nat → Int32} {lo n : Nat} {r : Int} (h : ∀ v, lo ≤ v → v < n → XB v = 0 → (rk X XB lo n v : Int) ≠ r) : ∀ m, m ≤ n → sel X XB lo n r m = (FP.dconst0, 1) := by
  intro m
  induction m with
  | zero => intro _; rfl
  | succ m ih =>
    intro hm
    show (if _ then _ else _) = _
    rw [if_neg (fun c => h m c.1 (by omega) c.2.1 c.2.2)]
    exact ih (by omega)
theorem sel_is {X : Nat → UInt64} {XB : Nat → Int32} {lo n r : Nat} {w : UInt64} (h1 : lows X XB lo n (ok w) ≤ r) (h2 : r < lows X XB lo n (ok w + 1)) : sel X XB lo n (r : Int) n = (w, 0) := by
  refine sel_val ?_ n (Nat.le_refl _) ?_
  · intro v a1 a2 a3 a4
    have hb := rk_bounds (X := X) a1 a2 a3
    refine ok_inj ?_
    rcases Int.lt_trichotomy (ok (X v)) (ok w) with c | c | c
    · have := lows_mono (X := X) (XB := XB) (lo := lo) (n := n) (show ok (X v) + 1 ≤ ok w by omega); omega
    · exact c
    · have := lows_mono (X := X) (XB := XB) (lo := lo) (n := n) (show ok w + 1 ≤ ok (X v) by omega); omega
  · have e : lows X XB lo n (ok w + 1) = lows X XB lo n (ok w) + cnt (fun q => decide (lo ≤ q ∧ XB q = 0 ∧ ok (X q) = ok w)) n := by
      refine cnt_add ?_
      intro q _
      simp only [decide_eq_true_eq]
      by_cases c1 : lo ≤ q <;> by_cases c2 : XB q = 0 <;> simp only [c1, c2, true_and, false_and, if_false]
      split <;> split <;> split <;> omega
    obtain ⟨v, a1, a2, a3⟩ := cnt_cross (f := fun q => decide (lo ≤ q ∧ XB q = 0 ∧ ok (X q) = ok w)) (d := r - lows X XB lo n (ok w)) (n := n) (by omega)
    simp only [decide_eq_true_eq] at a2
    refine ⟨v, a2.1, a1, a2.2.1, ?_⟩
    have e2 : rk X XB lo n v = lows X XB lo n (ok w) + cnt (fun q => decide (lo ≤ q ∧ XB q = 0 ∧ q < v ∧ ok (X q) = ok w)) n := by
      refine cnt_add ?_
      intro q _
      simp only [decide_eq_true_eq]
      by_cases c1 : lo ≤ q <;> by_cases c2 : XB q = 0 <;> simp only [c1, c2, true_and, false_and, if_false]
      rw [a2.2.2]
      split <;> split <;> split <;> omega
    have e3 : ∀ n, v ≤ n → cnt (fun q => decide (lo ≤ q ∧ XB q = 0 ∧ q < v ∧ ok (X q) = ok w)) n = cnt (fun q => decide (lo ≤ q ∧ XB q = 0 ∧ ok (X q) = ok w)) v := by
      intro n hn
      induction n with
      | zero => obtain rfl : v = 0 := by omega
                rfl
      | succ n ih =>
        by_cases c : v = n + 1
        · subst c
          refine cnt_congr ?_
          intro q hq
          simp only [decide_eq_decide]
          exact ⟨fun h => ⟨h.1, h.2.1, h.2.2.2⟩, fun h => ⟨h.1, h.2.1, hq, h.2.2⟩⟩
        · show cnt _ n + _ = _
          rw [ih (by omega), if_neg (by simp only [decide_eq_true_eq]; omega)]; rfl
    rw [e2, e3 n (by omega), a3]
    omega
theorem sel_out {X : Nat → UInt64} {XB : Nat → Int32} {lo n : Nat} {r : Int} (h : r < 0 ∨ (many XB lo n : Int) ≤ r) : sel X XB lo n r n = (FP.dconst0, 1) := by
  refine sel_none ?_ n (Nat.le_refl _)
  intro v a1 a2 a3 a4
  have hb := rk_bounds (X := X) a1 a2 a3
  have := lows_many (X := X) (XB := XB) (lo := lo) (n := n) (w := ok (X v) + 1)
  omega
