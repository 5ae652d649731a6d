/-! what a picture makes of all columns: a function of the picture alone -/
theorem rk_congr {X X' : Nat → UInt64} {XB XB' : Nat → Int32} {lo n v : Nat} (hv : v < 16) (hn : n ≤ 16) (h : ∀ q, q < 16 → X q = X' q ∧ XB q = XB' q) : rk X XB lo n v = rk X' XB' lo n v := by
  unfold rk
  refine cnt_congr (fun q hq => ?_)
  have a := h q (by omega)
  have b := h v hv
  simp only [a.1, a.2, b.1]
theorem many_congr {XB XB' : Nat → Int32} {lo n : Nat} (hn : n ≤ 16) (h : ∀ q, q < 16 → XB q = XB' q) : many XB lo n = many XB' lo n := by
  unfold many
  refine cnt_congr (fun q hq => ?_)
  have a := h q (by omega)
  simp only [a]
theorem sel_congr {X X' : Nat → UInt64} {XB XB' : Nat → Int32} {lo n : Nat} {r : Int} (hn : n ≤ 16) (h : ∀ q, q < 16 → X q = X' q ∧ XB q = XB' q) : ∀ m, m ≤ n → sel X XB lo n r m = sel X' XB' lo n r m
  | 0, _ => rfl
  | m + 1, hm => by
    show (if lo ≤ m ∧ XB m = 0 ∧ (rk X XB lo n m : Int) = r then (X m, 0) else sel X XB lo n r m) = (if lo ≤ m ∧ XB' m = 0 ∧ (rk X' XB' lo n m : Int) = r then (X' m, 0) else sel X' XB' lo n r m)
    rw [rk_congr (by omega) hn h, sel_congr hn h m (by omega), (h m (by omega)).1, (h m (by omega)).2]
theorem csl_congr {X X' : Nat → UInt64} {XB XB' : Nat → Int32} {p n : Nat} (hp : p < 16) (hn : n ≤ 16) (h : ∀ q, q < 16 → X q = X' q ∧ XB q = XB' q) : csl X XB p n = csl X' XB' p n := by
  unfold csl
  refine cnt_congr (fun q hq => ?_)
  have a := h q (by omega)
  have b := h p hp
  simp only [a.1, a.2, b.1]
theorem cso_congr {fc : Int32} {X X' : Nat → UInt64} {XB XB' : Nat → Int32} {Y Y' : Nat → UInt64} {YB YB' : Nat → Int32} {n : Nat} (hn : n ≤ 16) (h : ∀ q, q < 16 → X q = X' q ∧ XB q = XB' q) (g : ∀ q, q < 16 → Y q = Y' q ∧ YB q = YB' q) : cso fc X XB Y YB n = cso fc X' XB' Y' YB' n := by
  unfold cso
  refine cnt_congr (fun q hq => ?_)
  have a := h q (by omega)
  have b := g q (by omega)
  simp only [a.1, a.2, b.1, b.2]
theorem RV_congr {nar ff fc : Int32} {X X' : Nat → UInt64} {XB XB' : Nat → Int32} {Y Y' : Nat → UInt64} {YB YB' : Nat → Int32} {p : Nat} (hp : p < 16) (hx : ∀ q, q < 16 → X q = X' q ∧ XB q = XB' q) (hy : ∀ q, q < 16 → Y q = Y' q ∧ YB q = YB' q) : RV nar ff fc X XB Y YB p = RV nar ff fc X' XB' Y' YB' p := by
  have hm : p - 1 < 16 := by omega
  have hb : ∀ q, q < 16 → XB q = XB' q := fun q hq => (hx q hq).2
  have a1 := (hx p hp).1
  have a2 := (hx p hp).2
  have b1 := (hy p hp).1
  have b2 := (hy p hp).2
  have c1 := (hx (p - 1) hm).1
  have c2 := (hx (p - 1) hm).2
  have e19 : (if 1 ≤ p ∧ p ≤ 14 ∧ many XB (p - 1) (p + 2) = 3 then sel X XB (p - 1) (p + 2) 1 (p + 2) else (FP.dconst0, 1)) = (if 1 ≤ p ∧ p ≤ 14 ∧ many XB' (p - 1) (p + 2) = 3 then sel X' XB' (p - 1) (p + 2) 1 (p + 2) else (FP.dconst0, 1)) := by
    by_cases h14 : p ≤ 14
    · rw [many_congr (by omega) hb, sel_congr (by omega) hx _ (Nat.le_refl _)]
    · rw [if_neg (fun c => h14 c.2.1), if_neg (fun c => h14 c.2.1)]
  have e20 : sel X XB 0 (p + 1) ((many XB 0 (p + 1) : Int) - 1) (p + 1) = sel X' XB' 0 (p + 1) ((many XB' 0 (p + 1) : Int) - 1) (p + 1) := by
    rw [many_congr (by omega) hb, sel_congr (by omega) hx _ (Nat.le_refl _)]
  have e21 : sel X XB 0 (p + 1) 0 (p + 1) = sel X' XB' 0 (p + 1) 0 (p + 1) := sel_congr (by omega) hx _ (Nat.le_refl _)
  have e22 : sel X XB 0 16 p 16 = sel X' XB' 0 16 p 16 := sel_congr (by omega) hx _ (Nat.le_refl _)
  have e23 : csl X XB p 16 = csl X' XB' p 16 := csl_congr hp (by omega) hx
  have e25 : cso fc X XB Y YB (p + 1) = cso fc X' XB' Y' YB' (p + 1) := cso_congr (by omega) hx hy
  unfold RV
  rw [e19, e20, e21, e22, e23, e25, a1, a2, b1, b2, c1, c2]
def OKv (nar : Int32) (r : UInt64 × Int32) : Prop := NN r.1 ∧ (r.2 = 0 ∨ r.2 = 1) ∧ (r.2 ≠ 0 → r.1 = FP.dconst0) ∧ nbd nar r.1
theorem ok_0 (nar : Int32) : OKv nar (FP.dconst0, 1) := ⟨nn0, .inr rfl, fun _ => rfl, .inr (.inl (by decide))⟩
theorem ok_x {nar : Int32} {x : UInt64} (h : NN x) (g : nbd nar x) : OKv nar (x, 0) := ⟨h, .inl rfl, fun c => absurd rfl c, g⟩
theorem ok_Br {nar : Int32} {x : UInt64} (h : Br nar x) : OKv nar (x, 0) := ok_x h.1 (Br_nbd h)
theorem sel_ok {nar : Int32} {X : Nat → UInt64} {XB : Nat → Int32} {lo n : Nat} {r : Int} : ∀ m, (∀ v, v < m → OKv nar (X v, 0)) → OKv nar (sel X XB lo n r m)
  | 0, _ => ok_0 nar
  | m + 1, h => by
    show OKv nar (if lo ≤ m ∧ XB m = 0 ∧ (rk X XB lo n m : Int) = r then (X m, 0) else sel X XB lo n r m)
    split
    · exact h m (by omega)
    · exact sel_ok m (fun v hv => h v (by omega))
theorem i2d_NN (v : Int32) : NN (FP.i2d v) := fn_nn (i2d_sm v).1
theorem RV_ok {nar ff fc : Int32} {X : Nat → UInt64} {XB : Nat → Int32} {Y : Nat → UInt64} {YB : Nat → Int32} {p : Nat} (hp : p < 16) (hX : Ar nar X XB) (hY : Ar nar Y YB) : OKv nar (RV nar ff fc X XB Y YB p) := by
  have hx : ∀ v, v < 16 → OKv nar (X v, 0) := fun v hv => ok_Br (hX v hv).1
  obtain ⟨xA, xB, xC⟩ := hX p hp
  obtain ⟨yA, yB, yC⟩ := hY p hp
  unfold RV
  by_cases c8 : ff ≤ 8
  · rw [if_pos c8]
    split
    · exact ok_x (ofOne ff (X p) nar xA).2.1 (ofOne ff (X p) nar xA).2.2
    · exact ok_0 nar
  · rw [if_neg c8]
    have n8 : ¬ ff.toInt ≤ 8 := by rw [i32_le] at c8; exact c8
    by_cases c16 : ff ≤ 16 ∨ ff = 26
    · rw [if_pos c16]
      have k16 : ff.toInt ≤ 16 ∨ ff.toInt = 26 := by
        rcases c16 with c | c
        · exact .inl (by rw [i32_le] at c; exact c)
        · exact .inr (by rw [c]; rfl)
      split
      · unfold wv
        by_cases hv : vd ff (X p) (Y p) = 0
        · rw [if_pos hv]
          have := ofTwo ff (X p) (Y p) nar xA yA (by omega) k16 hv
          exact ok_x this.2.1 this.2.2
        · rw [if_neg hv]; exact ok_0 nar
      · exact ok_0 nar
    · rw [if_neg c16]
      by_cases c : ff = 17
      · rw [if_pos c]; split
        · exact hx p hp
        · exact ok_0 nar
      rw [if_neg c]; clear c
      by_cases c : ff = 18
      · rw [if_pos c]; split
        · exact hx p hp
        · exact ⟨yA.1, yB, yC, Br_nbd yA⟩
      rw [if_neg c]; clear c
      by_cases c : ff = 19
      · rw [if_pos c]
        by_cases g : 1 ≤ p ∧ p ≤ 14 ∧ many XB (p - 1) (p + 2) = 3
        · rw [if_pos g]; exact sel_ok _ (fun v hv => hx v (by omega))
        · rw [if_neg g]; exact ok_0 nar
      rw [if_neg c]; clear c
      by_cases c : ff = 20
      · rw [if_pos c]; exact sel_ok _ (fun v hv => hx v (by omega))
      rw [if_neg c]; clear c
      by_cases c : ff = 21
      · rw [if_pos c]; exact sel_ok _ (fun v hv => hx v (by omega))
      rw [if_neg c]; clear c
      by_cases c : ff = 22
      · rw [if_pos c]; exact sel_ok _ (fun v hv => hx v (by omega))
      rw [if_neg c]; clear c
      by_cases c : ff = 23
      · rw [if_pos c]; split
        · exact ok_x (i2d_NN _) (nbd_i2d _ _)
        · exact ok_0 nar
      rw [if_neg c]; clear c
      by_cases c : ff = 24
      · rw [if_pos c]
        by_cases g : 1 ≤ p ∧ XB p = 0 ∧ XB (p - 1) = 0 ∧ vd 10 (X p) (X (p - 1)) = 0
        · rw [if_pos g]
          have := ofTwo 10 (X p) (X (p - 1)) nar xA (hX (p - 1) (by omega)).1 (by decide) (by decide) g.2.2.2
          exact ok_x this.2.1 this.2.2
        · rw [if_neg g]; exact ok_0 nar
      rw [if_neg c]
      exact ok_x (i2d_NN _) (nbd_i2d _ _)
abbrev PT : Type := (Nat → UInt64) × (Nat → Int32) × (Nat → Int32) × (Nat → Int32)
def pT (P : PT) : Nat → UInt64 := P.1
def pB (P : PT) : Nat → Int32 := P.2.1
def pN (P : PT) : Nat → Int32 := P.2.2.1
def pM (P : PT) : Nat → Int32 := P.2.2.2
def NW (P : PT) : Nat → Nat → UInt64 × Int32
  | 0 => fun k => (pT P k, pB P k)
  | n + 1 => fun k => if 16 * n ≤ k ∧ k < 16 * n + 16 ∧ 0 ≤ (pM P (4 * n)).toInt then RV (pN P n) (pM P (4 * n)) (pM P (4 * n + 3)) (fun p => br (pN P n) (NW P n (atN (pM P (4 * n + 1)) p)).1) (fun p => (NW P n (atN (pM P (4 * n + 1)) p)).2) (fun p => br (pN P n) (NW P n (atN (pM P (4 * n + 2)) p)).1) (fun p => (NW P n (atN (pM P (4 * n + 2)) p)).2) (k - 16 * n) else NW P n k
def nX (P : PT) (n p : Nat) : UInt64 := br (pN P n) (NW P n (atN (pM P (4 * n + 1)) p)).1
def nXB (P : PT) (n p : Nat) : Int32 := (NW P n (atN (pM P (4 * n + 1)) p)).2
def nY (P : PT) (n p : Nat) : UInt64 := br (pN P n) (NW P n (atN (pM P (4 * n + 2)) p)).1
def nYB (P : PT) (n p : Nat) : Int32 := (NW P n (atN (pM P (4 * n + 2)) p)).2
def nRV (P : PT) (n p : Nat) : UInt64 × Int32 := RV (pN P n) (pM P (4 * n)) (pM P (4 * n + 3)) (nX P n) (nXB P n) (nY P n) (nYB P n) p
theorem NW_s (P : PT) (n k : Nat) : NW P (n + 1) k = if 16 * n ≤ k ∧ k < 16 * n + 16 ∧ 0 ≤ (pM P (4 * n)).toInt then nRV P n (k - 16 * n) else NW P n k := rfl
theorem NW_in {P : PT} {n p : Nat} (hp : p < 16) (h : 0 ≤ (pM P (4 * n)).toInt) : NW P (n + 1) (16 * n + p) = nRV P n p := by
  rw [NW_s, if_pos ⟨by omega, by omega, h⟩, Nat.add_sub_cancel_left]
theorem NW_out {P : PT} {n k : Nat} (h : ¬ (16 * n ≤ k ∧ k < 16 * n + 16)) : NW P (n + 1) k = NW P n k := by
  rw [NW_s, if_neg (fun c => h ⟨c.1, c.2.1⟩)]
theorem NW_inp {P : PT} {n k : Nat} (h : (pM P (4 * n)).toInt < 0) : NW P (n + 1) k = NW P n k := by
  rw [NW_s, if_neg (fun c => absurd c.2.2 (by omega))]
theorem NW_keep {P : PT} {n k : Nat} : ∀ d, n + d ≤ 12 → (k < 16 * n ∨ 192 ≤ k) → NW P (n + d) k = NW P n k
  | 0, _, _ => rfl
  | d + 1, h1, h2 => by
    rw [← Nat.add_assoc, NW_out (by omega)]
    exact NW_keep d (by omega) h2
theorem NW_keep' {P : PT} {n m k : Nat} (h : n ≤ m) (hm : m ≤ 12) (hk : k < 16 * n ∨ 192 ≤ k) : NW P m k = NW P n k := by
  have := NW_keep (P := P) (n := n) (k := k) (m - n) (by omega) hk
  rwa [show n + (m - n) = m by omega] at this
theorem NW_told {P : PT} {i p : Nat} (hp : p < 16) (h : (pM P (4 * i)).toInt < 0) : ∀ n, NW P n (16 * i + p) = (pT P (16 * i + p), pB P (16 * i + p))
  | 0 => rfl
  | n + 1 => by
    by_cases e : n = i
    · subst e
      rw [NW_inp h]; exact NW_told hp h n
    · rw [NW_out (by omega)]; exact NW_told hp h n
theorem NW_const {P : PT} {n k : Nat} (hn : n ≤ 12) (h : 192 ≤ k) : NW P n k = (pT P k, pB P k) := NW_keep' (n := 0) (Nat.zero_le _) hn (.inr h)
def FA (P : PT) (i : Nat) : Prop := (0 ≤ (pM P (4 * i + 1)).toInt ∧ (pM P (4 * i + 1)).toInt < i) ∧ (0 ≤ (pM P (4 * i + 2)).toInt ∧ ((pM P (4 * i + 2)).toInt < i ∨ (16 ≤ (pM P (4 * i + 2)).toInt ∧ (pM P (4 * i + 2)).toInt < 24))) ∧ (0 ≤ (pM P (4 * i + 3)).toInt ∧ (pM P (4 * i + 3)).toInt ≤ 11)
def NOK (r : UInt64 × Int32) : Prop := NN r.1 ∧ (r.2 = 0 ∨ r.2 = 1) ∧ (r.2 ≠ 0 → r.1 = FP.dconst0)
def WF (P : PT) : Prop := (∀ k, k < 200 → NOK (pT P k, pB P k)) ∧ (∀ i, i < 12 → (pN P i = 0 ∨ pN P i = 1) ∧ (-1 ≤ (pM P (4 * i)).toInt ∧ (pM P (4 * i)).toInt ≤ 26) ∧ ((pM P (4 * i)).toInt < 0 → ∀ p, p < 16 → nbd (pN P i) (pT P (16 * i + p))) ∧ (0 ≤ (pM P (4 * i)).toInt → FA P i))
theorem atN_lt {a : Int32} {p i : Nat} (hp : p < 16) (ha : 0 ≤ a.toInt) (h : a.toInt < i ∨ (16 ≤ a.toInt ∧ a.toInt < 24)) (hi : i ≤ 12) : atN a p < 16 * i ∨ (192 ≤ atN a p ∧ atN a p < 200) := by
  obtain ⟨n, hn, rfl⟩ := ex_o (x := a) (n := 24) ha (by omega)
  rw [o_int (by omega)] at h
  unfold atN
  rw [tn (by omega), show (16 : Int32) = Int32.ofNat 16 from rfl]
  simp only [o_lt (show n < 2147483648 by omega) (show 16 < 2147483648 by decide)]
  split <;> omega
theorem at_a {P : PT} {n p : Nat} (hn : n < 12) (h : FA P n) (hp : p < 16) : atN (pM P (4 * n + 1)) p < 16 * n ∨ (192 ≤ atN (pM P (4 * n + 1)) p ∧ atN (pM P (4 * n + 1)) p < 200) := atN_lt hp h.1.1 (.inl h.1.2) (by omega)
theorem at_b {P : PT} {n p : Nat} (hn : n < 12) (h : FA P n) (hp : p < 16) : atN (pM P (4 * n + 2)) p < 16 * n ∨ (192 ≤ atN (pM P (4 * n + 2)) p ∧ atN (pM P (4 * n + 2)) p < 200) := atN_lt hp h.2.1.1 h.2.1.2 (by omega)
theorem Ar_of {nar : Int32} {f : Nat → UInt64 × Int32} (h : ∀ p, p < 16 → NOK (f p)) : Ar nar (fun p => br nar (f p).1) (fun p => (f p).2) := by
  intro p hp
  obtain ⟨a, b, c⟩ := h p hp
  refine ⟨br_Br nar a, b, fun d => ?_⟩
  show br nar (f p).1 = _
  rw [c d]; exact br0 nar
theorem NW_ok {P : PT} (hW : WF P) : ∀ n, n ≤ 12 → ∀ k, k < 200 → NOK (NW P n k)
  | 0, _, k, hk => hW.1 k hk
  | n + 1, hn, k, hk => by
    have ih := NW_ok hW n (by omega)
    rw [NW_s]
    split
    · rename_i c
      have hF := (hW.2 n (by omega)).2.2.2 c.2.2
      have hA : Ar (pN P n) (nX P n) (nXB P n) := Ar_of (f := fun p => NW P n (atN (pM P (4 * n + 1)) p)) (fun p hp => ih _ (by have := at_a (p := p) (by omega) hF hp; omega))
      have hB : Ar (pN P n) (nY P n) (nYB P n) := Ar_of (f := fun p => NW P n (atN (pM P (4 * n + 2)) p)) (fun p hp => ih _ (by have := at_b (p := p) (by omega) hF hp; omega))
      have := RV_ok (ff := pM P (4 * n)) (fc := pM P (4 * n + 3)) (p := k - 16 * n) (by omega) hA hB
      exact ⟨this.1, this.2.1, this.2.2.1⟩
    · exact ih k hk
theorem nAr {P : PT} (hW : WF P) {n : Nat} (hn : n < 12) (h : 0 ≤ (pM P (4 * n)).toInt) : Ar (pN P n) (nX P n) (nXB P n) ∧ Ar (pN P n) (nY P n) (nYB P n) := by
  have hF := (hW.2 n hn).2.2.2 h
  exact ⟨Ar_of (f := fun p => NW P n (atN (pM P (4 * n + 1)) p)) (fun p hp => NW_ok hW n (by omega) _ (by have := at_a (p := p) hn hF hp; omega)), Ar_of (f := fun p => NW P n (atN (pM P (4 * n + 2)) p)) (fun p hp => NW_ok hW n (by omega) _ (by have := at_b (p := p) hn hF hp; omega))⟩
theorem NW_row {P : PT} (hW : WF P) {i p : Nat} (hi : i < 12) (hp : p < 16) : OKv (pN P i) (NW P 12 (16 * i + p)) := by
  rw [NW_keep' (n := i + 1) (by omega) (Nat.le_refl _) (.inl (by omega))]
  by_cases h : 0 ≤ (pM P (4 * i)).toInt
  · rw [NW_in hp h]
    exact RV_ok hp (nAr hW hi h).1 (nAr hW hi h).2
  · rw [NW_told hp (by omega)]
    obtain ⟨a, b, c⟩ := hW.1 (16 * i + p) (by omega)
    exact ⟨a, b, c, (hW.2 i hi).2.2.1 (by omega) p hp⟩
def Agr (c : Nat) (P Q : PT) : Prop := (∀ j, j < c → pN P j = pN Q j ∧ pM P (4 * j) = pM Q (4 * j) ∧ pM P (4 * j + 1) = pM Q (4 * j + 1) ∧ pM P (4 * j + 2) = pM Q (4 * j + 2) ∧ pM P (4 * j + 3) = pM Q (4 * j + 3)) ∧ (∀ k, (k < 16 * c ∨ (192 ≤ k ∧ k < 200)) → pT P k = pT Q k ∧ pB P k = pB Q k)
theorem NW_agr {P Q : PT} (hW : WF P) {c : Nat} (hc : c ≤ 12) (hA : Agr c P Q) : ∀ n, n ≤ c → ∀ k, (k < 16 * c ∨ (192 ≤ k ∧ k < 200)) → NW P n k = NW Q n k
  | 0, _, k, hk => by
    show (pT P k, pB P k) = (pT Q k, pB Q k)
    rw [(hA.2 k hk).1, (hA.2 k hk).2]
  | n + 1, hn, k, hk => by
    have ih := NW_agr hW hc hA n (by omega)
    obtain ⟨e1, e2, e3, e4, e5⟩ := hA.1 n (by omega)
    rw [NW_s, NW_s, ← e2, ih k hk]
    by_cases h : 16 * n ≤ k ∧ k < 16 * n + 16 ∧ 0 ≤ (pM P (4 * n)).toInt
    · rw [if_pos h, if_pos h]
      have hF := (hW.2 n (by omega)).2.2.2 h.2.2
      unfold nRV
      rw [← e1, ← e2, ← e5]
      refine RV_congr (by omega) (fun q hq => ?_) (fun q hq => ?_)
      · have := at_a (p := q) (by omega) hF hq
        unfold nX nXB
        rw [← e1, ← e3, ih _ (by omega)]
        exact ⟨rfl, rfl⟩
      · have := at_b (p := q) (by omega) hF hq
        unfold nY nYB
        rw [← e1, ← e4, ih _ (by omega)]
        exact ⟨rfl, rfl⟩
    · rw [if_neg h, if_neg h]
theorem NW_agr12 {P Q : PT} (hW : WF P) {c : Nat} (hc : c ≤ 12) (hA : Agr c P Q) {k : Nat} (hk : k < 16 * c) : NW P 12 k = NW Q 12 k := by
  rw [NW_keep' (n := c) hc (Nat.le_refl _) (.inl hk), NW_keep' (n := c) hc (Nat.le_refl _) (.inl hk)]
  exact NW_agr hW hc hA c (Nat.le_refl _) k (.inl hk)
