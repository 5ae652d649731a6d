def atN (a : Int32) (p : Nat) : Nat := if a < 16 then 16 * a.toNatClampNeg + p else 176 + a.toNatClampNeg
def mX (σ : MS) (i p : Nat) : UInt64 := br (m_narrow σ i) (m_now σ (atN (m_made σ (4 * i + 1)) p))
def mXB (σ : MS) (i p : Nat) : Int32 := m_none σ (atN (m_made σ (4 * i + 1)) p)
def mY (σ : MS) (i p : Nat) : UInt64 := br (m_narrow σ i) (m_now σ (atN (m_made σ (4 * i + 2)) p))
def mYB (σ : MS) (i p : Nat) : Int32 := m_none σ (atN (m_made σ (4 * i + 2)) p)
theorem at_eq {a : Int32} {p : Nat} (hp : p < 16) (ha : 0 ≤ a.toInt) (ha2 : a.toInt < 12 ∨ (16 ≤ a.toInt ∧ a.toInt < 24)) : gX11_at a (Int32.ofNat p) = some (Int32.ofNat (atN a p)) ∧ atN a p < 200 := by
  unfold gX11_at atN
  obtain ⟨n, hn, rfl⟩ := ex_o (x := a) (n := 24) ha (by omega)
  rw [o_int (by omega)] at ha2
  rw [tn (by omega), show (16 : Int32) = Int32.ofNat 16 from rfl, show (192 : Int32) = Int32.ofNat 192 from rfl, o_mul, o_add, o_add]
  simp only [o_lt (show n < 2147483648 by omega) (show 16 < 2147483648 by decide)]
  by_cases h : n < 16
  · rw [if_pos h, if_pos h]; exact ⟨rfl, by omega⟩
  · rw [if_neg h, if_neg h]
    refine ⟨?_, by omega⟩
    rw [show 192 + n = (176 + n) + 16 by omega, Int32.ofNat_add, Int32.add_sub_cancel]
-- what the model's reckoning of column i stands on
def MA (σ : MS) (i : Nat) : Prop := i < 12 ∧ (0 ≤ (m_made σ (4 * i + 1)).toInt ∧ (m_made σ (4 * i + 1)).toInt < 12) ∧ (0 ≤ (m_made σ (4 * i + 2)).toInt ∧ ((m_made σ (4 * i + 2)).toInt < 12 ∨ (16 ≤ (m_made σ (4 * i + 2)).toInt ∧ (m_made σ (4 * i + 2)).toInt < 24))) ∧
  (0 ≤ (m_made σ (4 * i + 3)).toInt ∧ (m_made σ (4 * i + 3)).toInt ≤ 11) ∧ (∀ p, p < 16 → NN (m_now σ (atN (m_made σ (4 * i + 1)) p)) ∧ NN (m_now σ (atN (m_made σ (4 * i + 2)) p))) ∧ Ar (m_narrow σ i) (mX σ i) (mXB σ i) ∧ Ar (m_narrow σ i) (mY σ i) (mYB σ i)
theorem l4 (i : Nat) : (4 : Int32) * Int32.ofNat i = Int32.ofNat (4 * i) := o_mul 4 i
theorem MA_gv {σ : MS} {i : Nat} (h : MA σ i) (v : UInt64) (b : Int32) : MA (gv σ v b) i := h
theorem x_eq {σ : MS} {i p : Nat} (h : MA σ i) (hp : p < 16) : gX11_x σ (Int32.ofNat i) (Int32.ofNat p) = some (mX σ i p) := by
  obtain ⟨h1, h2, h3, h4, h5, h6, h7⟩ := h
  obtain ⟨a1, a2⟩ := at_eq (a := m_made σ (4 * i + 1)) hp h2.1 (.inl h2.2)
  unfold gX11_x mX
  rw [l4, show (1 : Int32) = Int32.ofNat 1 from rfl, o_add, if_pos ((ixo (by omega)).mpr (by omega)), tn (by omega), a1]
  simp only [Option.bind_some]
  rw [if_pos ((ixo (by omega)).mpr a2), if_pos ((ixo (by omega)).mpr h1), tn (by omega), tn (by omega), brM _ _ (h5 p hp).1]
  rfl
theorem y_eq {σ : MS} {i p : Nat} (h : MA σ i) (hp : p < 16) : gX11_y σ (Int32.ofNat i) (Int32.ofNat p) = some (mY σ i p) := by
  obtain ⟨h1, h2, h3, h4, h5, h6, h7⟩ := h
  obtain ⟨a1, a2⟩ := at_eq (a := m_made σ (4 * i + 2)) hp h3.1 h3.2
  unfold gX11_y mY
  rw [l4, show (2 : Int32) = Int32.ofNat 2 from rfl, o_add, if_pos ((ixo (by omega)).mpr (by omega)), tn (by omega), a1]
  simp only [Option.bind_some]
  rw [if_pos ((ixo (by omega)).mpr a2), if_pos ((ixo (by omega)).mpr h1), tn (by omega), tn (by omega), brM _ _ (h5 p hp).2]
  rfl
theorem nx_eq {σ : MS} {i p : Nat} (h : MA σ i) (hp : p < 16) : gX11_noX σ (Int32.ofNat i) (Int32.ofNat p) = some (mXB σ i p) := by
  obtain ⟨h1, h2, h3, h4, h5, h6, h7⟩ := h
  obtain ⟨a1, a2⟩ := at_eq (a := m_made σ (4 * i + 1)) hp h2.1 (.inl h2.2)
  have hb : m_none σ (atN (m_made σ (4 * i + 1)) p) = 0 ∨ m_none σ (atN (m_made σ (4 * i + 1)) p) = 1 := (h6 p hp).2.1
  unfold gX11_noX mXB
  rw [l4, show (1 : Int32) = Int32.ofNat 1 from rfl, o_add, if_pos ((ixo (by omega)).mpr (by omega)), tn (by omega), a1]
  simp only [Option.bind_some]
  rw [if_pos ((ixo (by omega)).mpr a2), tn (by omega), if_pos (nar01 hb)]
theorem ny_eq {σ : MS} {i p : Nat} (h : MA σ i) (hp : p < 16) : gX11_noY σ (Int32.ofNat i) (Int32.ofNat p) = some (mYB σ i p) := by
  obtain ⟨h1, h2, h3, h4, h5, h6, h7⟩ := h
  obtain ⟨a1, a2⟩ := at_eq (a := m_made σ (4 * i + 2)) hp h3.1 h3.2
  have hb : m_none σ (atN (m_made σ (4 * i + 2)) p) = 0 ∨ m_none σ (atN (m_made σ (4 * i + 2)) p) = 1 := (h7 p hp).2.1
  unfold gX11_noY mYB
  rw [l4, show (2 : Int32) = Int32.ofNat 2 from rfl, o_add, if_pos ((ixo (by omega)).mpr (by omega)), tn (by omega), a1]
  simp only [Option.bind_some]
  rw [if_pos ((ixo (by omega)).mpr a2), tn (by omega), if_pos (nar01 hb)]
theorem cp_eq {σ : MS} {i p : Nat} (h : MA σ i) (hp : p < 16) : gX11_compares σ (Int32.ofNat i) (Int32.ofNat p) = some (so (m_made σ (4 * i + 3)) (mX σ i p) (mXB σ i p) (mY σ i p) (mYB σ i p)) := by
  unfold gX11_compares
  rw [x_eq h hp, nx_eq h hp, y_eq h hp, ny_eq h hp]
  obtain ⟨h1, h2, h3, h4, h5, h6, h7⟩ := h
  rw [l4, show (3 : Int32) = Int32.ofNat 3 from rfl, o_add, if_pos ((ixo (by omega)).mpr (by omega)), tn (by omega)]
  simp only [Option.bind_some]
  rw [isSoM _ _ _ _ _ h4 (h6 p hp).1.1 (h7 p hp).1.1]
  simp only [Option.bind_some]
  rw [if_pos (nar01 (so01 _ _ _ _ _))]
theorem l16 : (16 : Int32) = Int32.ofNat 16 := rfl
theorem rank_eq {σ : MS} {i lo hi v : Nat} (h : MA σ i) (hlo : lo ≤ hi + 1) (hhi : hi < 16) (hv : v < 16) : gX11_rank σ (Int32.ofNat i) (Int32.ofNat lo) (Int32.ofNat hi) (Int32.ofNat v) = some (Int32.ofNat (rk (mX σ i) (mXB σ i) lo (hi + 1) v)) := by
  have hA := h.2.2.2.2.2.1
  unfold gX11_rank
  rw [x_eq h hv]
  simp only [Option.bind_some]
  have lp : ∀ (k f q : Nat), q + k = hi + 1 → lo ≤ q → k < f → lq3 (gX11_rank_15 σ (Int32.ofNat i) (Int32.ofNat lo) (Int32.ofNat hi) (Int32.ofNat v)) f (Int32.ofNat (rk (mX σ i) (mXB σ i) lo q v)) (mX σ i v) (Int32.ofNat q) = some (Int32.ofNat (rk (mX σ i) (mXB σ i) lo (hi + 1) v)) := by
    intro k
    induction k with
    | zero =>
      intro f q hq hl hf
      obtain ⟨f, rfl⟩ : ∃ g, f = g + 1 := ⟨f - 1, by omega⟩
      obtain rfl : q = hi + 1 := by omega
      show gX11_rank_15 _ _ _ _ _ _ _ _ _ = _
      unfold gX11_rank_15
      rw [if_pos ((o_lt (by omega) (by omega)).mpr (by omega))]
    | succ k ih =>
      intro f q hq hl hf
      obtain ⟨f, rfl⟩ : ∃ g, f = g + 1 := ⟨f - 1, by omega⟩
      have hq16 : q < 16 := by omega
      have := ih f (q + 1) (by omega) (by omega) (by omega)
      show gX11_rank_15 _ _ _ _ _ (lq3 (gX11_rank_15 σ (Int32.ofNat i) (Int32.ofNat lo) (Int32.ofNat hi) (Int32.ofNat v)) f) _ _ _ = _
      generalize lq3 (gX11_rank_15 σ (Int32.ofNat i) (Int32.ofNat lo) (Int32.ofNat hi) (Int32.ofNat v)) f = K at this ⊢
      unfold gX11_rank_15 gX11_rank_73 gX11_rank_69 gX11_rank_74 gX11_rank_77
      rw [if_neg (by rw [o_lt (by omega) (by omega)]; omega), nx_eq h hq16, x_eq h hq16]
      simp only [Option.bind_some]
      rw [c_lower _ _ (hA q hq16).1.1 (hA v hv).1.1, c_lower _ _ (hA v hv).1.1 (hA q hq16).1.1]
      simp only [Option.bind_some, o_succ, Int32.add_zero, o_le (show v < 2147483648 by omega) (show q < 2147483648 by omega)]
      have ec : rk (mX σ i) (mXB σ i) lo (q + 1) v = rk (mX σ i) (mXB σ i) lo q v + (if mXB σ i q = 0 ∧ (ok (mX σ i q) < ok (mX σ i v) ∨ (q < v ∧ ok (mX σ i q) = ok (mX σ i v))) then 1 else 0) := by
        show rk (mX σ i) (mXB σ i) lo q v + (if decide _ = true then 1 else 0) = _
        simp only [decide_eq_true_eq, hl, true_and]
      rw [ec] at this
      by_cases hb : mXB σ i q = 0
      · rw [if_pos hb]
        by_cases c1 : ok (mX σ i q) < ok (mX σ i v)
        · rw [if_pos c1, if_neg (by decide)]
          rw [if_pos ⟨hb, .inl c1⟩] at this; exact this
        · rw [if_neg c1, if_pos rfl]
          by_cases c2 : v ≤ q
          · rw [if_pos c2]; rw [if_neg (by omega)] at this; exact this
          · rw [if_neg c2]
            by_cases c3 : ok (mX σ i v) < ok (mX σ i q)
            · rw [if_pos c3, if_neg (by decide)]; rw [if_neg (by omega)] at this; exact this
            · rw [if_neg c3, if_pos rfl]; rw [if_pos ⟨hb, .inr ⟨by omega, by omega⟩⟩] at this; exact this
      · rw [if_neg hb]; rw [if_neg (fun h => hb h.1)] at this; exact this
  have e0 : rk (mX σ i) (mXB σ i) lo lo v = 0 := cnt_zero (fun q hq => by simp; omega)
  have := lp (hi + 1 - lo) 20 lo (by omega) (Nat.le_refl _) (by omega)
  rw [e0] at this
  exact this
theorem sel_lo {X : Nat → UInt64} {XB : Nat → Int32} {lo n : Nat} {r : Int} : ∀ m, m ≤ lo → sel X XB lo n r m = (FP.dconst0, 1)
  | 0, _ => rfl
  | m + 1, h => by
    show (if _ then _ else _) = _
    rw [if_neg (fun c => by have := c.1; omega)]
    exact sel_lo m (by omega)
theorem gv_def (τ : MS) (v : UInt64) (b : Int32) : gv τ v b = (τ.1, τ.2.1, τ.2.2.1, τ.2.2.2.1, τ.2.2.2.2.1, τ.2.2.2.2.2.1, τ.2.2.2.2.2.2.1, τ.2.2.2.2.2.2.2.1, τ.2.2.2.2.2.2.2.2.1, τ.2.2.2.2.2.2.2.2.2.1, τ.2.2.2.2.2.2.2.2.2.2.1, τ.2.2.2.2.2.2.2.2.2.2.2.1, τ.2.2.2.2.2.2.2.2.2.2.2.2.1, τ.2.2.2.2.2.2.2.2.2.2.2.2.2.1, τ.2.2.2.2.2.2.2.2.2.2.2.2.2.2.1, τ.2.2.2.2.2.2.2.2.2.2.2.2.2.2.2.1, τ.2.2.2.2.2.2.2.2.2.2.2.2.2.2.2.2.1, v, b) := rfl
theorem gv_gv (σ : MS) (v v' : UInt64) (b b' : Int32) : gv (gv σ v b) v' b' = gv σ v' b' := by
  rw [gv_def (gv σ v b), gv_def σ v b, gv_def σ v' b']
theorem gives_eq (σ : MS) (v : UInt64) : gX11_gives σ v = some (gv σ v 0) := rfl
theorem nothing_eq (σ : MS) : gX11_givesNothing σ = some (gv σ FP.dconst0 1) := rfl
theorem ranked_eq {σ : MS} {i lo hi : Nat} {r : Int32} (h : MA σ i) (hlo : lo ≤ hi + 1) (hhi : hi < 16) : gX11_ranked σ (Int32.ofNat i) (Int32.ofNat lo) (Int32.ofNat hi) r = some (gv σ (sel (mX σ i) (mXB σ i) lo (hi + 1) r.toInt (hi + 1)).1 (sel (mX σ i) (mXB σ i) lo (hi + 1) r.toInt (hi + 1)).2) := by
  unfold gX11_ranked
  rw [nothing_eq]
  simp only [Option.bind_some]
  have lp : ∀ (k f v : Nat), v + k = hi + 1 → lo ≤ v → k < f → lq2 (gX11_ranked_7 σ (Int32.ofNat i) (Int32.ofNat lo) (Int32.ofNat hi) r) f (gv σ (sel (mX σ i) (mXB σ i) lo (hi + 1) r.toInt v).1 (sel (mX σ i) (mXB σ i) lo (hi + 1) r.toInt v).2) (Int32.ofNat v) = some (gv σ (sel (mX σ i) (mXB σ i) lo (hi + 1) r.toInt (hi + 1)).1 (sel (mX σ i) (mXB σ i) lo (hi + 1) r.toInt (hi + 1)).2) := by
    intro k
    induction k with
    | zero =>
      intro f v hv hl hf
      obtain ⟨f, rfl⟩ : ∃ g, f = g + 1 := ⟨f - 1, by omega⟩
      obtain rfl : v = hi + 1 := by omega
      show gX11_ranked_7 _ _ _ _ _ _ _ _ = _
      unfold gX11_ranked_7
      rw [if_pos ((o_lt (by omega) (by omega)).mpr (by omega))]
    | succ k ih =>
      intro f v hv hl hf
      obtain ⟨f, rfl⟩ : ∃ g, f = g + 1 := ⟨f - 1, by omega⟩
      have hv16 : v < 16 := by omega
      have hg := MA_gv h (sel (mX σ i) (mXB σ i) lo (hi + 1) r.toInt v).1 (sel (mX σ i) (mXB σ i) lo (hi + 1) r.toInt v).2
      have := ih f (v + 1) (by omega) (by omega) (by omega)
      show gX11_ranked_7 _ _ _ _ _ (lq2 (gX11_ranked_7 σ (Int32.ofNat i) (Int32.ofNat lo) (Int32.ofNat hi) r) f) _ _ = _
      generalize lq2 (gX11_ranked_7 σ (Int32.ofNat i) (Int32.ofNat lo) (Int32.ofNat hi) r) f = K at this ⊢
      unfold gX11_ranked_7 gX11_ranked_48
      rw [if_neg (by rw [o_lt (by omega) (by omega)]; omega), nx_eq hg hv16, x_eq hg hv16, rank_eq hg hlo hhi hv16]
      simp only [Option.bind_some, o_succ]
      rw [gives_eq, gv_gv]
      simp only [Option.bind_some]
      have es : sel (mX σ i) (mXB σ i) lo (hi + 1) r.toInt (v + 1) = if lo ≤ v ∧ mXB σ i v = 0 ∧ (rk (mX σ i) (mXB σ i) lo (hi + 1) v : Int) = r.toInt then (mX σ i v, 0) else sel (mX σ i) (mXB σ i) lo (hi + 1) r.toInt v := rfl
      rw [es] at this
      have hr : rk (mX σ i) (mXB σ i) lo (hi + 1) v < 2147483648 := by
        have := cnt_le (fun q => decide (lo ≤ q ∧ mXB σ i q = 0 ∧ (ok (mX σ i q) < ok (mX σ i v) ∨ (q < v ∧ ok (mX σ i q) = ok (mX σ i v))))) (hi + 1)
        unfold rk; omega
      have ex : mX (gv σ (sel (mX σ i) (mXB σ i) lo (hi + 1) r.toInt v).1 (sel (mX σ i) (mXB σ i) lo (hi + 1) r.toInt v).2) i v = mX σ i v := rfl
      have eb : mXB (gv σ (sel (mX σ i) (mXB σ i) lo (hi + 1) r.toInt v).1 (sel (mX σ i) (mXB σ i) lo (hi + 1) r.toInt v).2) i v = mXB σ i v := rfl
      have ek : rk (mX (gv σ (sel (mX σ i) (mXB σ i) lo (hi + 1) r.toInt v).1 (sel (mX σ i) (mXB σ i) lo (hi + 1) r.toInt v).2) i) (mXB (gv σ (sel (mX σ i) (mXB σ i) lo (hi + 1) r.toInt v).1 (sel (mX σ i) (mXB σ i) lo (hi + 1) r.toInt v).2) i) lo (hi + 1) v = rk (mX σ i) (mXB σ i) lo (hi + 1) v := rfl
      rw [eb, ek, ex]
      by_cases hb : mXB σ i v = 0
      · rw [if_pos hb]
        by_cases c : Int32.ofNat (rk (mX σ i) (mXB σ i) lo (hi + 1) v) = r
        · rw [if_pos c]
          rw [if_pos ⟨hl, hb, by rw [← c, o_int hr]⟩] at this; exact this
        · rw [if_neg c]
          rw [if_neg (fun hh => c (Int32.toInt.inj (by rw [o_int hr]; exact hh.2.2)))] at this; exact this
      · rw [if_neg hb]; rw [if_neg (fun hh => hb hh.2.1)] at this; exact this
  have := lp (hi + 1 - lo) 20 lo (by omega) (Nat.le_refl _) (by omega)
  rw [sel_lo lo (Nat.le_refl _)] at this
  exact this
