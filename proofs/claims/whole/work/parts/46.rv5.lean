theorem cnt_ins {f g : Nat → Bool} {u : Nat} {b : Bool} (hl : ∀ q, q < u → g q = f q) (hu : g u = b) : ∀ {m : Nat}, u ≤ m → (∀ q, u < q → q ≤ m → g q = f (q - 1)) → cnt g (m + 1) = cnt f m + (if b = true then 1 else 0)
  | 0, h, _ => by
    obtain rfl : u = 0 := by omega
    show cnt g 0 + _ = _
    rw [hu]; rfl
  | m + 1, h, hr => by
    show cnt g (m + 1) + (if g (m + 1) = true then 1 else 0) = _
    by_cases c : u = m + 1
    · subst c
      rw [cnt_congr (f := g) (g := f) (n := m + 1) hl, hu]
    · rw [cnt_ins hl hu (m := m) (by omega) (fun q a b => hr q a (by omega)), hr (m + 1) (by omega) (by omega), Nat.add_sub_cancel]
      show _ = cnt f m + _ + _
      omega
def Srt (X : Nat → UInt64) (XB : Nat → Int32) (n : Nat) (F : Nat → UInt64) (H : Nat → Int32) : Prop :=
  (∀ q, q < many XB 0 n → H q = 0 ∧ NN (F q)) ∧ (∀ q, many XB 0 n ≤ q → q < n → H q = 1 ∧ F q = FP.dconst0) ∧ (∀ i j, i < j → j < many XB 0 n → ok (F i) ≤ ok (F j)) ∧ ∀ w, cnt (fun j => decide (ok (F j) < w)) (many XB 0 n) = lows X XB 0 n w
theorem srt_sel {X : Nat → UInt64} {XB : Nat → Int32} {n : Nat} {F : Nat → UInt64} {H : Nat → Int32} (h : Srt X XB n F H) {p : Nat} (hp : p < n) : sel X XB 0 n (p : Int) n = (F p, H p) := by
  obtain ⟨h1, h2, h3, h4⟩ := h
  by_cases c : p < many XB 0 n
  · rw [(h1 p c).1]
    refine sel_is ?_ ?_
    · rw [← h4]
      refine cnt_le' ?_
      intro q hq h
      simp only [decide_eq_true_eq] at h
      false_or_by_contra
      by_cases e : p = q
      · subst e; omega
      · have := h3 p q (by omega) hq; omega
    · rw [← h4]
      refine cnt_ge' (r := p + 1) (by omega) ?_
      intro q hq
      simp only [decide_eq_true_eq]
      by_cases e : q = p
      · subst e; omega
      · have := h3 q p (by omega) c; omega
  · obtain ⟨e1, e2⟩ := h2 p (by omega) hp
    rw [e1, e2]
    exact sel_out (.inr (by omega))
theorem ins_loop {nar fc : Int32} {X : Nat → UInt64} {XB : Nat → Int32} {Y : Nat → UInt64} {YB : Nat → Int32} (F0 : Nat → UInt64) (H0 : Nat → Int32) (F : Nat → UInt64) (H : Nat → Int32) {p : Nat} (hp : p < 16) {x : UInt64} (hx : NN x) (x1 : Int32)
    (hH : ∀ q, q < p → (H q = 0 ∧ NN (F q)) ∨ H q = 1) : ∀ (v f : Nat) (F9 : Nat → UInt64) (H9 : Nat → Int32), v ≤ p → v < f → (∀ q, q < v → F9 q = F q ∧ H9 q = H q) → (∀ q, v < q → q ≤ p → F9 q = F (q - 1) ∧ H9 q = H (q - 1)) → (∀ q, v ≤ q → q < p → H q = 1 ∨ ok x < ok (F q)) →
    ∃ r u, lq4 (gX9_insert_24 nar 22 fc X XB Y YB F0 H0 x1) f F9 H9 x (Int32.ofNat v) = some r ∧ u ≤ p ∧ (∀ q, q < u → r.1 q = F q ∧ r.2 q = H q) ∧ (r.1 u = x ∧ r.2 u = 0) ∧ (∀ q, u < q → q ≤ p → r.1 q = F (q - 1) ∧ r.2 q = H (q - 1)) ∧ (∀ q, u ≤ q → q < p → H q = 1 ∨ ok x < ok (F q)) ∧ (u = 0 ∨ (H (u - 1) = 0 ∧ ok (F (u - 1)) ≤ ok x)) := by
  have stop : ∀ (v : Nat) (F9 : Nat → UInt64) (H9 : Nat → Int32), v ≤ p → (∀ q, q < v → F9 q = F q ∧ H9 q = H q) → (∀ q, v < q → q ≤ p → F9 q = F (q - 1) ∧ H9 q = H (q - 1)) → (∀ q, v ≤ q → q < p → H q = 1 ∨ ok x < ok (F q)) → (v = 0 ∨ (H (v - 1) = 0 ∧ ok (F (v - 1)) ≤ ok x)) →
      ∃ r u, gX9_insert_73 nar 22 fc X XB Y YB F0 H0 x1 F9 H9 x (Int32.ofNat v) = some r ∧ u ≤ p ∧ (∀ q, q < u → r.1 q = F q ∧ r.2 q = H q) ∧ (r.1 u = x ∧ r.2 u = 0) ∧ (∀ q, u < q → q ≤ p → r.1 q = F (q - 1) ∧ r.2 q = H (q - 1)) ∧ (∀ q, u ≤ q → q < p → H q = 1 ∨ ok x < ok (F q)) ∧ (u = 0 ∨ (H (u - 1) = 0 ∧ ok (F (u - 1)) ≤ ok x)) := by
    intro v F9 H9 hv a1 a2 a3 a4
    unfold gX9_insert_73
    rw [c_put _ _ _ (by omega) (by omega)]
    refine ⟨_, v, rfl, hv, ?_, ?_, ?_, a3, a4⟩
    · intro q hq
      have := a1 q hq
      unfold vf_upd upd
      simp [show q ≠ v by omega, this]
    · unfold vf_upd upd; simp
    · intro q hq hq'
      have := a2 q hq hq'
      unfold vf_upd upd
      simp [show q ≠ v by omega, this]
  intro v
  induction v with
  | zero =>
    intro f F9 H9 hv hf a1 a2 a3
    obtain ⟨f, rfl⟩ : ∃ g, f = g + 1 := ⟨f - 1, by omega⟩
    have := stop 0 F9 H9 hv a1 a2 a3 (.inl rfl)
    show ∃ r u, gX9_insert_24 nar 22 fc X XB Y YB F0 H0 x1 _ F9 H9 x (Int32.ofNat 0) = some r ∧ _
    unfold gX9_insert_24
    rw [if_pos (by decide)]
    exact this
  | succ v ih =>
    intro f F9 H9 hv hf a1 a2 a3
    obtain ⟨f, rfl⟩ : ∃ g, f = g + 1 := ⟨f - 1, by omega⟩
    have hv16 : v < 16 := by omega
    have hv1 : v + 1 < 16 := by omega
    obtain ⟨eF, eH⟩ := a1 v (by omega)
    have hb : H9 v = 0 ∨ H9 v = 1 := by
      rw [eH]; rcases hH v (by omega) with h | h
      · exact .inl h.1
      · exact .inr h
    have shift : H v = 1 ∨ ok x < ok (F v) → ∃ r u, gX9_insert_55 nar 22 fc X XB Y YB F0 H0 x1 (lq4 (gX9_insert_24 nar 22 fc X XB Y YB F0 H0 x1) f) F9 H9 x (Int32.ofNat (v + 1)) = some r ∧ u ≤ p ∧ (∀ q, q < u → r.1 q = F q ∧ r.2 q = H q) ∧ (r.1 u = x ∧ r.2 u = 0) ∧ (∀ q, u < q → q ≤ p → r.1 q = F (q - 1) ∧ r.2 q = H (q - 1)) ∧ (∀ q, u ≤ q → q < p → H q = 1 ∨ ok x < ok (F q)) ∧ (u = 0 ∨ (H (u - 1) = 0 ∧ ok (F (u - 1)) ≤ ok x)) := by
      intro hc
      unfold gX9_insert_55
      rw [show Int32.ofNat (v + 1) - 1 = Int32.ofNat v from o_sub1, o_pred, c_putS _ _ hv1 (p31 hv1) hv16 (p31 hv16) hb]
      simp only [Option.bind_some]
      refine ih f _ _ (by omega) (by omega) ?_ ?_ ?_
      · intro q hq
        have := a1 q (by omega)
        unfold vf_upd upd
        simp [show q ≠ v + 1 by omega, this]
      · intro q hq hq'
        unfold vf_upd upd
        by_cases c : q = v + 1
        · subst c; simp [eF, eH]
        · have := a2 q (by omega) hq'
          simp [c, this]
      · intro q hq hq'
        by_cases c : q = v
        · subst c; exact hc
        · exact a3 q (by omega) hq'
    show ∃ r u, gX9_insert_24 nar 22 fc X XB Y YB F0 H0 x1 (lq4 (gX9_insert_24 nar 22 fc X XB Y YB F0 H0 x1) f) F9 H9 x (Int32.ofNat (v + 1)) = some r ∧ _
    generalize lq4 (gX9_insert_24 nar 22 fc X XB Y YB F0 H0 x1) f = K at shift ⊢
    unfold gX9_insert_24
    rw [if_neg (by rw [show (0 : Int32) = Int32.ofNat 0 from rfl, o_le (p31 hv1) (by decide)]; omega), show Int32.ofNat (v + 1) - 1 = Int32.ofNat v from o_sub1, c_blank _ _ hv16 (p31 hv16) hb, c_at _ _ hv16 (p31 hv16)]
    simp only [Option.bind_some]
    rw [eF, eH]
    rcases hH v (by omega) with ⟨h0, hn⟩ | h1
    · rw [if_pos h0, c_below x (F v) hx hn]
      simp only [Option.bind_some]
      by_cases c : ok x < ok (F v)
      · rw [if_pos c, if_neg (by decide)]
        exact shift (.inr c)
      · rw [if_neg c, if_pos rfl]
        exact stop (v + 1) F9 H9 hv a1 a2 a3 (.inr ⟨h0, by rw [Nat.add_sub_cancel]; omega⟩)
    · rw [if_neg (by rw [h1]; decide)]
      exact shift (.inl h1)
theorem st_22 {nar fc : Int32} {X : Nat → UInt64} {XB : Nat → Int32} {Y : Nat → UInt64} {YB : Nat → Int32} (hX : Ar nar X XB) (F : Nat → UInt64) (H : Nat → Int32) {p : Nat} (hp : p < 16) (hS : Srt X XB p F H) :
    ∃ r, stp nar 22 fc X XB Y YB F H (Int32.ofNat p) = some r ∧ Srt X XB (p + 1) r.1 r.2 := by
  obtain ⟨x1, x2, x3⟩ := hX p hp
  have eS : stp nar 22 fc X XB Y YB F H (Int32.ofNat p) = (gX8_clear 16 F H (Int32.ofNat p)).bind (fun r1 => (gX9_insert nar 22 fc X XB Y YB r1.1 r1.2 (Int32.ofNat p)).bind (fun r3 => some (r3.1, r3.2))) := rfl
  rw [eS, c_clear F H hp (p31 hp)]
  simp only [Option.bind_some]
  unfold gX9_insert
  rw [c_blank _ _ hp (p31 hp) x2, c_at _ _ hp (p31 hp)]
  simp only [Option.bind_some]
  obtain ⟨h1, h2, h3, h4⟩ := hS
  have hm : many XB 0 (p + 1) = many XB 0 p + (if XB p = 0 then 1 else 0) := by
    show many XB 0 p + (if decide (0 ≤ p ∧ XB p = 0) = true then 1 else 0) = _
    simp only [decide_eq_true_eq, Nat.zero_le, true_and]
  have hl : ∀ w, lows X XB 0 (p + 1) w = lows X XB 0 p w + (if XB p = 0 ∧ ok (X p) < w then 1 else 0) := by
    intro w
    show lows X XB 0 p w + (if decide (0 ≤ p ∧ XB p = 0 ∧ ok (X p) < w) = true then 1 else 0) = _
    simp only [decide_eq_true_eq, Nat.zero_le, true_and]
  have hmp : many XB 0 p ≤ p := cnt_le _ _
  by_cases hb : XB p = 0
  · rw [if_pos hb]
    rw [if_pos hb] at hm
    obtain ⟨r, u, e, b1, b2, b3, b4, b5, b6⟩ := ins_loop (nar := nar) (fc := fc) (X := X) (XB := XB) (Y := Y) (YB := YB) (vf_upd F p FP.dconst0) (upd H p 1) F H hp x1.1 (Int32.ofNat p) (fun q hq => by
      by_cases c : q < many XB 0 p
      · exact .inl (h1 q c)
      · exact .inr (h2 q (by omega) hq).1) p 20 (vf_upd F p FP.dconst0) (upd H p 1) (Nat.le_refl _) (by omega) (fun q hq => by
        unfold vf_upd upd; simp [show q ≠ p by omega]) (fun q a b => absurd a (by omega)) (fun q a b => absurd a (by omega))
    rw [e]
    refine ⟨_, rfl, ?_⟩
    have hum : u ≤ many XB 0 p := by
      rcases b6 with h | ⟨h, _⟩
      · omega
      · false_or_by_contra
        have := (h2 (u - 1) (by omega) (by omega)).1
        rw [h] at this; exact absurd this (by decide)
    have hgt : ∀ q, u ≤ q → q < many XB 0 p → ok (X p) < ok (F q) := by
      intro q a b
      rcases b5 q a (by omega) with c | c
      · rw [(h1 q b).1] at c; exact absurd c (by decide)
      · exact c
    show Srt X XB (p + 1) r.1 r.2
    unfold Srt
    rw [hm]
    refine ⟨?_, ?_, ?_, ?_⟩
    · intro q hq
      rcases Nat.lt_trichotomy q u with c | c | c
      · rw [(b2 q c).1, (b2 q c).2]; exact h1 q (by omega)
      · subst c; rw [b3.1, b3.2]; exact ⟨rfl, x1.1⟩
      · rw [(b4 q c (by omega)).1, (b4 q c (by omega)).2]; exact h1 (q - 1) (by omega)
    · intro q hq hq'
      rw [(b4 q (by omega) (by omega)).1, (b4 q (by omega) (by omega)).2]
      exact h2 (q - 1) (by omega) (by omega)
    · intro i j hij hj
      rcases Nat.lt_trichotomy j u with c | c | c
      · rw [(b2 j c).1, (b2 i (by omega)).1]; exact h3 i j hij (by omega)
      · subst c
        rw [b3.1, (b2 i hij).1]
        rcases b6 with h | ⟨_, h⟩
        · omega
        · by_cases d : i = j - 1
          · subst d; exact h
          · have := h3 i (j - 1) (by omega) (by omega); omega
      · rw [(b4 j c (by omega)).1]
        rcases Nat.lt_trichotomy i u with d | d | d
        · rw [(b2 i d).1]; exact h3 i (j - 1) (by omega) (by omega)
        · subst d; rw [b3.1]; have := hgt (j - 1) (by omega) (by omega); omega
        · rw [(b4 i d (by omega)).1]; exact h3 (i - 1) (j - 1) (by omega) (by omega)
    · intro w
      rw [hl w, ← h4 w]
      have := cnt_ins (f := fun j => decide (ok (F j) < w)) (g := fun j => decide (ok (r.1 j) < w)) (u := u) (b := decide (ok (X p) < w)) (fun q hq => by simp only [(b2 q hq).1]) (by simp only [b3.1]) (m := many XB 0 p) hum (fun q a b => by simp only [(b4 q a (by omega)).1])
      rw [this]
      simp only [decide_eq_true_eq, hb, true_and]
  · rw [if_neg hb]
    rw [if_neg hb] at hm
    refine ⟨_, rfl, ?_⟩
    show Srt X XB (p + 1) (vf_upd F p FP.dconst0) (upd H p 1)
    unfold Srt
    rw [hm, Nat.add_zero]
    have eF : ∀ q, q < p → vf_upd F p FP.dconst0 q = F q := fun q hq => by unfold vf_upd; rw [if_neg (by omega)]
    have eH : ∀ q, q < p → upd H p 1 q = H q := fun q hq => by unfold upd; rw [if_neg (by omega)]
    refine ⟨?_, ?_, ?_, ?_⟩
    · intro q hq; rw [eF q (by omega), eH q (by omega)]; exact h1 q hq
    · intro q hq hq'
      by_cases c : q = p
      · subst c; unfold upd vf_upd; simp
      · rw [eF q (by omega), eH q (by omega)]; exact h2 q hq (by omega)
    · intro i j hij hj; rw [eF i (by omega), eF j (by omega)]; exact h3 i j hij hj
    · intro w
      rw [hl w, if_neg (fun h => hb h.1), Nat.add_zero, ← h4 w]
      exact cnt_congr (fun q hq => by rw [eF q (by omega)])
theorem ff_rows {f : Int32} (h1 : 17 ≤ f.toInt) (h2 : f.toInt ≤ 25) : f = 17 ∨ f = 18 ∨ f = 19 ∨ f = 20 ∨ f = 21 ∨ f = 22 ∨ f = 23 ∨ f = 24 ∨ f = 25 := by
  have : f.toInt = 17 ∨ f.toInt = 18 ∨ f.toInt = 19 ∨ f.toInt = 20 ∨ f.toInt = 21 ∨ f.toInt = 22 ∨ f.toInt = 23 ∨ f.toInt = 24 ∨ f.toInt = 25 := by omega
  rcases this with h | h | h | h | h | h | h | h | h
  · exact .inl (Int32.toInt.inj h)
  · exact .inr (.inl (Int32.toInt.inj h))
  · exact .inr (.inr (.inl (Int32.toInt.inj h)))
  · exact .inr (.inr (.inr (.inl (Int32.toInt.inj h))))
  · exact .inr (.inr (.inr (.inr (.inl (Int32.toInt.inj h)))))
  · exact .inr (.inr (.inr (.inr (.inr (.inl (Int32.toInt.inj h))))))
  · exact .inr (.inr (.inr (.inr (.inr (.inr (.inl (Int32.toInt.inj h)))))))
  · exact .inr (.inr (.inr (.inr (.inr (.inr (.inr (.inl (Int32.toInt.inj h))))))))
  · exact .inr (.inr (.inr (.inr (.inr (.inr (.inr (.inr (Int32.toInt.inj h))))))))
theorem up_next {F : Nat → UInt64} {H : Nat → Int32} {p : Nat} {r : AA} {R : Nat → UInt64 × Int32} (hr : Up F H p (R p) r) (h : ∀ q, q < p → F q = (R q).1 ∧ H q = (R q).2) : ∀ q, q < p + 1 → r.1 q = (R q).1 ∧ r.2 q = (R q).2 := by
  intro q hq
  obtain ⟨a, b⟩ := hr q
  by_cases c : q = p
  · subst c; rw [a, b]; simp
  · rw [a, b]; simp only [c, if_false]; exact h q (by omega)
theorem recC {nar ff fc : Int32} {X : Nat → UInt64} {XB : Nat → Int32} {Y : Nat → UInt64} {YB : Nat → Int32} (hX : Ar nar X XB) (hY : Ar nar Y YB) (h0 : 0 ≤ ff.toInt) (h26 : ff.toInt ≤ 26) (hc : 0 ≤ fc.toInt ∧ fc.toInt ≤ 11) (F : Nat → UInt64) (H : Nat → Int32) :
    ∃ r, gX9_reckon nar ff fc X XB Y YB F H = some r ∧ ∀ p, p < 16 → r.1 p = (RV nar ff fc X XB Y YB p).1 ∧ r.2 p = (RV nar ff fc X XB Y YB p).2 := by
  have gen : (∀ (F : Nat → UInt64) (H : Nat → Int32) (p : Nat), p < 16 → (∀ q, q < p → F q = (RV nar ff fc X XB Y YB q).1 ∧ H q = (RV nar ff fc X XB Y YB q).2) → ∃ r, stp nar ff fc X XB Y YB F H (Int32.ofNat p) = some r ∧ Up F H p (RV nar ff fc X XB Y YB p) r) → ∃ r, gX9_reckon nar ff fc X XB Y YB F H = some r ∧ ∀ p, p < 16 → r.1 p = (RV nar ff fc X XB Y YB p).1 ∧ r.2 p = (RV nar ff fc X XB Y YB p).2 := by
    intro hs
    refine rk_all (fun n F H => ∀ q, q < n → F q = (RV nar ff fc X XB Y YB q).1 ∧ H q = (RV nar ff fc X XB Y YB q).2) ?_ (fun q hq => absurd hq (by omega))
    intro p F H hp hI
    obtain ⟨r, a, b⟩ := hs F H p hp hI
    exact ⟨r, a, up_next b hI⟩
  by_cases c8 : ff.toInt ≤ 8
  · exact gen (fun F H p hp _ => st_x hX (by rw [i32_le]; exact c8) F H hp)
  by_cases c16 : ff.toInt ≤ 16 ∨ ff.toInt = 26
  · exact gen (fun F H p hp _ => st_b hX hY (by omega) c16 F H hp)
  rcases ff_rows (f := ff) (by omega) (by omega) with rfl | rfl | rfl | rfl | rfl | rfl | rfl | rfl | rfl
  · exact gen (fun F H p hp _ => st_17 hX hY hc F H hp)
  · exact gen (fun F H p hp _ => st_18 hX hY F H hp)
  · exact gen (fun F H p hp _ => st_19 hX F H hp)
  · obtain ⟨r, a, b⟩ := rk_all (nar := nar) (ff := 20) (fc := fc) (xn := X) (xb := XB) (yn := Y) (yb := YB) (F := F) (H := H) (fun n F H => ∀ q, q < n → Ext true X XB (q + 1) (F q) (H q)) (by
      intro p F H hp hI
      obtain ⟨r, w, b, e1, e2, e3⟩ := ext_step (nar := nar) (ff := 20) (fc := fc) (Y := Y) (YB := YB) hX true 1 rfl F H hp hI
      have eS : stp nar 20 fc X XB Y YB F H (Int32.ofNat p) = (gX8_clear 16 F H (Int32.ofNat p)).bind (fun r1 => (gX9_extreme nar 20 fc X XB Y YB r1.1 r1.2 (Int32.ofNat p) 1).bind (fun r3 => some (r3.1, r3.2))) := rfl
      refine ⟨r, by rw [eS, c_clear F H hp (p31 hp)]; simp only [Option.bind_some]; rw [e1]; rfl, ?_⟩
      intro q hq
      obtain ⟨u1, u2⟩ := e2 q
      by_cases c : q = p
      · subst c; rw [u1, u2]; simpa using e3
      · rw [u1, u2]; simp only [c, if_false]; exact hI q (by omega)) (fun q hq => absurd hq (by omega))
    refine ⟨r, a, fun p hp => ?_⟩
    have e : RV nar 20 fc X XB Y YB p = sel X XB 0 (p + 1) ((many XB 0 (p + 1) : Int) - 1) (p + 1) := rfl
    rw [e, ext_max (b p hp)]; exact ⟨rfl, rfl⟩
  · obtain ⟨r, a, b⟩ := rk_all (nar := nar) (ff := 21) (fc := fc) (xn := X) (xb := XB) (yn := Y) (yb := YB) (F := F) (H := H) (fun n F H => ∀ q, q < n → Ext false X XB (q + 1) (F q) (H q)) (by
      intro p F H hp hI
      obtain ⟨r, w, b, e1, e2, e3⟩ := ext_step (nar := nar) (ff := 21) (fc := fc) (Y := Y) (YB := YB) hX false 0 rfl F H hp hI
      have eS : stp nar 21 fc X XB Y YB F H (Int32.ofNat p) = (gX8_clear 16 F H (Int32.ofNat p)).bind (fun r1 => (gX9_extreme nar 21 fc X XB Y YB r1.1 r1.2 (Int32.ofNat p) 0).bind (fun r3 => some (r3.1, r3.2))) := rfl
      refine ⟨r, by rw [eS, c_clear F H hp (p31 hp)]; simp only [Option.bind_some]; rw [e1]; rfl, ?_⟩
      intro q hq
      obtain ⟨u1, u2⟩ := e2 q
      by_cases c : q = p
      · subst c; rw [u1, u2]; simpa using e3
      · rw [u1, u2]; simp only [c, if_false]; exact hI q (by omega)) (fun q hq => absurd hq (by omega))
    refine ⟨r, a, fun p hp => ?_⟩
    have e : RV nar 21 fc X XB Y YB p = sel X XB 0 (p + 1) 0 (p + 1) := rfl
    rw [e, ext_min (b p hp)]; exact ⟨rfl, rfl⟩
  · obtain ⟨r, a, b⟩ := rk_all (nar := nar) (ff := 22) (fc := fc) (xn := X) (xb := XB) (yn := Y) (yb := YB) (F := F) (H := H) (fun n F H => Srt X XB n F H) (by
      intro p F H hp hI
      exact st_22 hX F H hp hI) ⟨fun q hq => absurd hq (by show ¬ q < 0; omega), fun q _ hq => absurd hq (by omega), fun i j _ hj => absurd hj (by show ¬ j < 0; omega), fun w => rfl⟩
    refine ⟨r, a, fun p hp => ?_⟩
    have e : RV nar 22 fc X XB Y YB p = sel X XB 0 16 p 16 := rfl
    rw [e, srt_sel b hp]; exact ⟨rfl, rfl⟩
  · exact gen (fun F H p hp _ => st_23 hX F H hp)
  · exact gen (fun F H p hp _ => st_24 hX F H hp)
  · exact gen (fun F H p hp hI => st_25 hX hY hc F H hp (fun q hq => (hI q (by omega)).1))
