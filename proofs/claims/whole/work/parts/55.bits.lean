/-! how many bits -/
theorem sh_l : ∀ p, p < 32 → ((Int32.ofNat p &&& 31).toBitVec.smod 32).toNat = p := by decide +kernel
theorem oand (a c : Nat) : Int32.ofNat a &&& Int32.ofNat c = Int32.ofNat (a &&& c) := by
  show Int32.ofBitVec (BitVec.ofNat 32 a &&& BitVec.ofNat 32 c) = Int32.ofBitVec (BitVec.ofNat 32 (a &&& c))
  rw [BitVec.ofNat_and]
theorem oor (a c : Nat) : Int32.ofNat a ||| Int32.ofNat c = Int32.ofNat (a ||| c) := by
  show Int32.ofBitVec (BitVec.ofNat 32 a ||| BitVec.ofNat 32 c) = Int32.ofBitVec (BitVec.ofNat 32 (a ||| c))
  rw [BitVec.ofNat_or]
theorem oshr {m p : Nat} (hm : m < 65536) (hp : p < 32) : Int32.ofNat m >>> (Int32.ofNat p &&& 31) = Int32.ofNat (m / 2 ^ p) := pk_shrN (n := m) (by omega) (Int32.ofNat p &&& 31) p (sh_l p hp)
theorem oshl {p : Nat} (hp : p < 16) : (1 : Int32) <<< (Int32.ofNat p &&& 31) = Int32.ofNat (2 ^ p) := by
  have h : 1 * 2 ^ p < 2 ^ 32 := by
    rw [Nat.one_mul]; exact Nat.pow_lt_pow_right (by decide) (by omega)
  have := pk_shlN (n := 1) (Int32.ofNat p &&& 31) p (sh_l p (by omega)) h
  rw [Nat.one_mul] at this
  exact this
def popn (m : Nat) : Nat → Nat
  | 0 => 0
  | p + 1 => popn m p + m / 2 ^ p % 2
theorem manyB {m : Nat} (hm : m < 65536) : gX11_manyBits (Int32.ofNat m) = some (Int32.ofNat (popn m 16)) := by
  unfold gX11_manyBits
  have lp : ∀ (k f p : Nat), p + k = 16 → k < f → lq2 (gX11_manyBits_4 (Int32.ofNat m)) f (Int32.ofNat (popn m p)) (Int32.ofNat p) = some (Int32.ofNat (popn m 16)) := by
    intro k
    induction k with
    | zero =>
      intro f p hp hf
      obtain ⟨f, rfl⟩ : ∃ g, f = g + 1 := ⟨f - 1, by omega⟩
      obtain rfl : p = 16 := by omega
      show gX11_manyBits_4 _ _ _ _ = _
      unfold gX11_manyBits_4
      rw [if_pos (by decide)]
    | succ k ih =>
      intro f p hp hf
      obtain ⟨f, rfl⟩ : ∃ g, f = g + 1 := ⟨f - 1, by omega⟩
      have := ih f (p + 1) (by omega) (by omega)
      show gX11_manyBits_4 _ (lq2 (gX11_manyBits_4 (Int32.ofNat m)) f) _ _ = _
      generalize lq2 (gX11_manyBits_4 (Int32.ofNat m)) f = K at this ⊢
      unfold gX11_manyBits_4
      rw [if_neg (by rw [l16, o_le (by omega) (by omega)]; omega), oshr hm (by omega), show (Int32.ofNat (m / 2 ^ p) &&& 1) = Int32.ofNat (m / 2 ^ p % 2) from by
        rw [← Nat.and_one_is_mod]; exact oand _ 1, o_add, o_succ]
      exact this
  exact lp 16 20 0 rfl (by decide)
def ib1 (x : Int32) : Int32 := x - ((x.toUInt32 >>> ((1 : Int32).toUInt32 &&& Int32.toUInt32 31)).toInt32 &&& 1431655765)
def ib2 (x : Int32) : Int32 := (x &&& 858993459) + ((x.toUInt32 >>> ((2 : Int32).toUInt32 &&& Int32.toUInt32 31)).toInt32 &&& 858993459)
def ib3 (x : Int32) : Int32 := (x + (x.toUInt32 >>> ((4 : Int32).toUInt32 &&& Int32.toUInt32 31)).toInt32) &&& 252645135
def ib4 (x : Int32) : Int32 := x + (x.toUInt32 >>> ((8 : Int32).toUInt32 &&& Int32.toUInt32 31)).toInt32
def ib5 (x : Int32) : Int32 := x + (x.toUInt32 >>> ((16 : Int32).toUInt32 &&& Int32.toUInt32 31)).toInt32
def nb1 (x : Nat) : Nat := x - (x / 2 ^ 1 &&& 1431655765)
def nb2 (x : Nat) : Nat := (x &&& 858993459) + (x / 2 ^ 2 &&& 858993459)
def nb3 (x : Nat) : Nat := (x + x / 2 ^ 4) &&& 252645135
def nb4 (x : Nat) : Nat := x + x / 2 ^ 8
def nb5 (x : Nat) : Nat := x + x / 2 ^ 16
theorem bc_ib (x : Int32) : gJ6_bitCount_0f7a4 x = some (ib5 (ib4 (ib3 (ib2 (ib1 x)))) &&& 63) := rfl
theorem ush {n : Nat} (hn : n < 2 ^ 32) (s : Int32) (k : Nat) (hs : ((s.toUInt32 &&& Int32.toUInt32 31).toBitVec % 32).toNat = k) : ((Int32.ofNat n).toUInt32 >>> (s.toUInt32 &&& Int32.toUInt32 31)).toInt32 = Int32.ofNat (n / 2 ^ k) := pk_ushrN hn s k hs
theorem ib1_eq {n : Nat} (hn : n < 2 ^ 32) : ib1 (Int32.ofNat n) = Int32.ofNat (nb1 n) ∧ nb1 n ≤ n := by
  have h : (n / 2 ^ 1 &&& 1431655765) ≤ n := Nat.le_trans Nat.and_le_left (Nat.div_le_self _ _)
  unfold ib1 nb1
  rw [ush hn 1 1 (by decide), show (1431655765 : Int32) = Int32.ofNat 1431655765 from rfl, oand, ← Int32.ofNat_sub _ _ h]
  exact ⟨rfl, Nat.sub_le _ _⟩
theorem ib2_eq {n : Nat} (hn : n < 2 ^ 32) : ib2 (Int32.ofNat n) = Int32.ofNat (nb2 n) ∧ nb2 n ≤ 1717986918 := by
  unfold ib2 nb2
  rw [ush hn 2 2 (by decide), show (858993459 : Int32) = Int32.ofNat 858993459 from rfl, oand, oand, o_add]
  have h1 : (n &&& 858993459) ≤ 858993459 := Nat.and_le_right
  have h2 : (n / 2 ^ 2 &&& 858993459) ≤ 858993459 := Nat.and_le_right
  exact ⟨rfl, by omega⟩
theorem ib3_eq {n : Nat} (hn : n < 2 ^ 32) : ib3 (Int32.ofNat n) = Int32.ofNat (nb3 n) ∧ nb3 n ≤ 252645135 := by
  unfold ib3 nb3
  rw [ush hn 4 4 (by decide), show (252645135 : Int32) = Int32.ofNat 252645135 from rfl, o_add, oand]
  exact ⟨rfl, Nat.and_le_right⟩
theorem ib4_eq {n : Nat} (hn : n < 2 ^ 32) : ib4 (Int32.ofNat n) = Int32.ofNat (nb4 n) ∧ nb4 n ≤ 2 * n := by
  unfold ib4 nb4
  rw [ush hn 8 8 (by decide), o_add]
  have := Nat.div_le_self n (2 ^ 8)
  exact ⟨rfl, by omega⟩
theorem ib5_eq {n : Nat} (hn : n < 2 ^ 32) : ib5 (Int32.ofNat n) = Int32.ofNat (nb5 n) := by
  unfold ib5 nb5
  rw [ush hn 16 16 (by decide), o_add]
theorem bitC {n : Nat} (hn : n < 65536) : gJ6_bitCount_0f7a4 (Int32.ofNat n) = some (Int32.ofNat (nb5 (nb4 (nb3 (nb2 (nb1 n)))) &&& 63)) := by
  have a1 := ib1_eq (n := n) (by omega)
  have a2 := ib2_eq (n := nb1 n) (by omega)
  have a3 := ib3_eq (n := nb2 (nb1 n)) (by omega)
  have a4 := ib4_eq (n := nb3 (nb2 (nb1 n))) (by omega)
  have a5 := ib5_eq (n := nb4 (nb3 (nb2 (nb1 n)))) (by omega)
  rw [bc_ib, a1.1, a2.1, a3.1, a4.1, a5, show (63 : Int32) = Int32.ofNat 63 from rfl, oand]
theorem asplit {hi lo c d : Nat} (hl : lo < 256) (hd : d < 256) : ((256 * hi + lo) &&& (256 * c + d)) = 256 * (hi &&& c) + (lo &&& d) := by
  have h3 : (lo &&& d) < 2 ^ 8 := Nat.lt_of_le_of_lt Nat.and_le_left hl
  apply Nat.eq_of_testBit_eq
  intro j
  have t1 := Nat.testBit_two_pow_mul_add (i := 8) (b := lo) hi hl j
  have t2 := Nat.testBit_two_pow_mul_add (i := 8) (b := d) c hd j
  have t3 := Nat.testBit_two_pow_mul_add (i := 8) (b := (lo &&& d)) (hi &&& c) h3 j
  rw [Nat.testBit_and]
  by_cases h : j < 8
  · rw [if_pos h] at t1 t2 t3
    rw [show 256 * hi + lo = 2 ^ 8 * hi + lo from rfl, show 256 * c + d = 2 ^ 8 * c + d from rfl, show 256 * (hi &&& c) + (lo &&& d) = 2 ^ 8 * (hi &&& c) + (lo &&& d) from rfl, t1, t2, t3, Nat.testBit_and]
  · rw [if_neg h] at t1 t2 t3
    rw [show 256 * hi + lo = 2 ^ 8 * hi + lo from rfl, show 256 * c + d = 2 ^ 8 * c + d from rfl, show 256 * (hi &&& c) + (lo &&& d) = 2 ^ 8 * (hi &&& c) + (lo &&& d) from rfl, t1, t2, t3, Nat.testBit_and]
def s1 (x : Nat) : Nat := x - (x / 2 &&& 85)
def s2 (x : Nat) : Nat := (x &&& 51) + (x / 4 &&& 51)
def s3 (x : Nat) : Nat := (x + x / 16) % 16
set_option maxRecDepth 100000 in
theorem E1 : ∀ r : Fin 2, ∀ x : Fin 128, (128 * r.val + x.val &&& 85) = (x.val &&& 85) := by decide +kernel
set_option maxRecDepth 100000 in
theorem E2 : ∀ x : Fin 256, (x.val &&& 5592405) = (x.val &&& 85) := by decide +kernel
set_option maxRecDepth 100000 in
theorem E3 : ∀ r : Fin 4, ∀ x : Fin 64, (64 * r.val + x.val &&& 51) = (x.val &&& 51) := by decide +kernel
set_option maxRecDepth 100000 in
theorem E4 : ∀ x : Fin 256, (x.val &&& 3355443) = (x.val &&& 51) := by decide +kernel
set_option maxRecDepth 100000 in
theorem E5 : ∀ x : Fin 256, s1 x.val < 256 ∧ s2 (s1 x.val) ≤ 68 ∧ s2 (s1 x.val) % 16 ≤ 4 := by decide +kernel
set_option maxRecDepth 100000 in
theorem E7 : ∀ x : Fin 256, (x.val &&& 986895) = x.val % 16 := by decide +kernel
set_option maxRecDepth 100000 in
theorem E8 : ∀ x : Fin 256, s3 (s2 (s1 x.val)) = popn x.val 8 := by decide +kernel
theorem and15 (x : Nat) : (x &&& 15) = x % 16 := Nat.and_two_pow_sub_one_eq_mod x 4
theorem and63 (x : Nat) : (x &&& 63) = x % 64 := Nat.and_two_pow_sub_one_eq_mod x 6
theorem st1 {a b : Nat} (ha : a < 256) (hb : b < 256) : nb1 (256 * a + b) = 256 * s1 a + s1 b := by
  unfold nb1 s1
  have e : (256 * a + b) / 2 ^ 1 = 256 * (a / 2) + (128 * (a % 2) + b / 2) := by omega
  have f1 := E1 ⟨a % 2, by omega⟩ ⟨b / 2, by omega⟩
  have f2 := E2 ⟨a / 2, by omega⟩
  have g1 : (b / 2 &&& 85) ≤ b / 2 := Nat.and_le_left
  have g2 : (a / 2 &&& 85) ≤ a / 2 := Nat.and_le_left
  have e2 := asplit (hi := a / 2) (lo := 128 * (a % 2) + b / 2) (c := 5592405) (d := 85) (by omega) (by omega)
  rw [e, show (1431655765 : Nat) = 256 * 5592405 + 85 from rfl, e2, f1, f2]
  simp only
  omega
theorem st2 {a b : Nat} (ha : a < 256) (hb : b < 256) : nb2 (256 * a + b) = 256 * s2 a + s2 b := by
  unfold nb2 s2
  have e : (256 * a + b) / 2 ^ 2 = 256 * (a / 4) + (64 * (a % 4) + b / 4) := by omega
  have f1 := E3 ⟨a % 4, by omega⟩ ⟨b / 4, by omega⟩
  have f2 := E4 ⟨a / 4, by omega⟩
  have f3 := E4 ⟨a, ha⟩
  have e2 := asplit (hi := a / 4) (lo := 64 * (a % 4) + b / 4) (c := 3355443) (d := 51) (by omega) (by omega)
  have e3 := asplit (hi := a) (lo := b) (c := 3355443) (d := 51) hb (by omega)
  rw [e, show (858993459 : Nat) = 256 * 3355443 + 51 from rfl, e2, e3, f1, f2, f3]
  simp only
  omega
theorem st3 {a b : Nat} (ha : a ≤ 68) (ha2 : a % 16 ≤ 4) (hb : b ≤ 68) : nb3 (256 * a + b) = 256 * s3 a + s3 b := by
  unfold nb3 s3
  have e : 256 * a + b + (256 * a + b) / 2 ^ 4 = 256 * (a + a / 16) + (b + 16 * (a % 16) + b / 16) := by omega
  have f2 := E7 ⟨a + a / 16, by omega⟩
  have e2 := asplit (hi := a + a / 16) (lo := b + 16 * (a % 16) + b / 16) (c := 986895) (d := 15) (by omega) (by omega)
  rw [e, show (252645135 : Nat) = 256 * 986895 + 15 from rfl, e2, and15, f2]
  simp only
  omega
theorem st4 {a b : Nat} (ha : a < 16) (hb : b < 16) : (nb5 (nb4 (256 * a + b)) &&& 63) = a + b := by
  rw [and63]
  unfold nb5 nb4
  have e1 : (256 * a + b) / 2 ^ 8 = a := by omega
  rw [e1]
  have e2 : (256 * a + b + a) / 2 ^ 16 = 0 := by omega
  rw [e2]
  omega
theorem s3_lt (x : Nat) : s3 x < 16 := Nat.mod_lt _ (by decide)
theorem popn_lo {a b : Nat} (hb : b < 256) : ∀ p, p ≤ 8 → popn (256 * a + b) p = popn b p
  | 0, _ => rfl
  | p + 1, hp => by
    show popn (256 * a + b) p + (256 * a + b) / 2 ^ p % 2 = popn b p + b / 2 ^ p % 2
    rw [popn_lo hb p (by omega)]
    have : (256 * a + b) / 2 ^ p % 2 = b / 2 ^ p % 2 := by
      rcases (show p = 0 ∨ p = 1 ∨ p = 2 ∨ p = 3 ∨ p = 4 ∨ p = 5 ∨ p = 6 ∨ p = 7 by omega) with rfl | rfl | rfl | rfl | rfl | rfl | rfl | rfl <;> omega
    rw [this]
theorem popn_hi {a b : Nat} (hb : b < 256) : ∀ p, popn (256 * a + b) (8 + p) = popn b 8 + popn a p
  | 0 => popn_lo hb 8 (Nat.le_refl _)
  | p + 1 => by
    show popn (256 * a + b) (8 + p) + (256 * a + b) / 2 ^ (8 + p) % 2 = popn b 8 + (popn a p + a / 2 ^ p % 2)
    rw [popn_hi hb p, Nat.pow_add, ← Nat.div_div_eq_div_mul, show (256 * a + b) / 2 ^ 8 = a by omega]
    omega
theorem pop_eq {m : Nat} (hm : m < 65536) : (nb5 (nb4 (nb3 (nb2 (nb1 m)))) &&& 63) = popn m 16 := by
  have e : m = 256 * (m / 256) + m % 256 := (Nat.div_add_mod m 256).symm
  have ha : m / 256 < 256 := by omega
  have hb : m % 256 < 256 := by omega
  generalize m / 256 = a at e ha
  generalize m % 256 = b at e hb
  subst e
  have qa := E5 ⟨a, ha⟩
  have qb := E5 ⟨b, hb⟩
  have pa := E8 ⟨a, ha⟩
  have pb := E8 ⟨b, hb⟩
  simp only at qa qb pa pb
  rw [st1 ha hb, st2 qa.1 qb.1, st3 qa.2.1 qa.2.2 qb.2.1, st4 (s3_lt _) (s3_lt _), pa, pb, show 16 = 8 + 8 from rfl, popn_hi hb 8]
  omega
theorem bits_same {x : Int32} (h : M16 x) : ∃ c, gJ6_bitCount_0f7a4 x = some c ∧ gX11_manyBits x = some c := by
  obtain ⟨m, hm, rfl⟩ := h
  refine ⟨_, bitC hm, ?_⟩
  rw [manyB hm, pop_eq hm]
theorem M16_0 : M16 0 := ⟨0, by decide, rfl⟩
theorem M16_or {x : Int32} {p : Nat} (h : M16 x) (hp : p < 16) : M16 (x ||| ((1 : Int32) <<< (Int32.ofNat p &&& 31))) := by
  obtain ⟨m, hm, rfl⟩ := h
  rw [oshl hp, oor]
  exact ⟨_, Nat.or_lt_two_pow (n := 16) hm (Nat.pow_lt_pow_right (by decide) hp), rfl⟩
theorem M16_and {x y : Int32} (h : M16 x) : M16 (x &&& y) := by
  obtain ⟨m, hm, rfl⟩ := h
  have e : y = Int32.ofNat y.toBitVec.toNat := by
    show y = Int32.ofBitVec (BitVec.ofNat 32 y.toBitVec.toNat)
    rw [BitVec.ofNat_toNat, BitVec.setWidth_eq]
    rfl
  rw [e, oand]
  exact ⟨_, Nat.lt_of_le_of_lt Nat.and_le_left hm, rfl⟩
