/-! changes of one reading -/
def rdQ (P : PT) (K : Nat) (x : UInt64) (v : Int32) : PT := (fun j => if j = K then x else pT P j, fun j => if j = K then v else pB P j, pN P, pM P)
theorem rdQ_T (P : PT) (K : Nat) (x : UInt64) (v : Int32) (j : Nat) : pT (rdQ P K x v) j = if j = K then x else pT P j := rfl
theorem rdQ_B (P : PT) (K : Nat) (x : UInt64) (v : Int32) (j : Nat) : pB (rdQ P K x v) j = if j = K then v else pB P j := rfl
theorem rdQ_WF {P : PT} (hW : WF P) {K : Nat} {x : UInt64} {v : Int32} (hx : NOK (x, v)) (hn : ∀ i p, i < 12 → p < 16 → 16 * i + p = K → (pM P (4 * i)).toInt < 0 → nbd (pN P i) x) : WF (rdQ P K x v) := by
  refine ⟨fun k hk => ?_, fun i hi => ?_⟩
  · show NOK (if k = K then x else pT P k, if k = K then v else pB P k)
    by_cases e : k = K
    · rw [if_pos e, if_pos e]; exact hx
    · rw [if_neg e, if_neg e]; exact hW.1 k hk
  · obtain ⟨w1, w2, w3, w4⟩ := hW.2 i hi
    refine ⟨w1, w2, fun hf p hp => ?_, w4⟩
    show nbd (pN P i) (if 16 * i + p = K then x else pT P (16 * i + p))
    by_cases e : 16 * i + p = K
    · rw [if_pos e]; exact hn i p hi hp e hf
    · rw [if_neg e]; exact w3 hf p hp
theorem rdQ_SR {P : PT} {K : Nat} {x : UInt64} {v : Int32} {nb : UInt64} {bk : Int32} (h1 : pT P K = nb) (h2 : pB P K = bk) : SR (rdQ P K x v) P K nb bk := by
  refine ⟨fun j _ => rfl, fun j _ => rfl, fun j _ => ?_⟩
  rw [rdQ_T, rdQ_B]
  by_cases e : j = K
  · rw [if_pos e, if_pos e, e]; exact ⟨h1, h2⟩
  · simp only [if_neg e]; exact ⟨trivial, trivial⟩
theorem ch_col {G : GG} {z t : Nat} {β : BS} {b : Nat → va_E} {N : Nat} {σ : MS} {n : Nat} {P : Nat → PT} {fr am : Nat} (h : IV G z t β b N σ n P fr am) {i p : Nat} (hi : i < 12) (hp : p < 16) (hf : (pM (P n) (4 * i)).toInt < 0) {x : UInt64} {v : Int32} (hx : OKv (pN (P n) i) (x, v)) :
    Inv G z (t + 1) (cgS β z N n (min i fr) (b_nar β) (b_ff β) (b_fa β) (b_fb β) (b_fc β) (va_up (b_num β) i (vf_upd (b_num β i) p x)) (va_up (b_bl β) i (upd (b_bl β i) p v)) (b_cn β) (b_cb β)) (va_up b N (.inr (3, [b_lat β, .int (Int32.ofNat i), .ref (z + (13 + 4 * i + 1)), .int (Int32.ofNat p), .double (b_num β i p), .int (b_bl β i p)]))) (N + 1) (chS σ n (vf_upd (m_told σ) (16 * i + p) x) (upd (m_blank σ) (16 * i + p) v) (m_narrow σ) (m_made σ) (m_now σ) (m_none σ) (m_worth σ) (m_isNone σ)) := by
  obtain ⟨hx1, hx2, hx3, hx4⟩ := hx
  have h' := h
  obtain ⟨g1, g2, g3, g4, g5, g6⟩ := h
  have hWn := g2 n (Nat.le_refl _)
  refine inv_change (Q := rdQ (P n) (16 * i + p) x v) (fr' := min i fr) h' (by omega) ?_ ?_ ?_ rfl ?_ ?_ rfl rfl rfl (by omega) ?_ ?_ (cg_ALM g6)
  · exact rdQ_WF hWn ⟨hx1, hx2, hx3⟩ (fun j q hj hq e hf' => by
      obtain rfl : j = i := by omega
      exact hx4)
  · refine ch_MP (fun k hk => ?_) (fun j hj => g3.1.2.1 j hj) (fun k hk => g3.1.2.2 k hk)
    show (if k = 16 * i + p then x else m_told σ k) = (if k = 16 * i + p then x else pT (P n) k) ∧ (if k = 16 * i + p then v else m_blank σ k) = (if k = 16 * i + p then v else pB (P n) k)
    rw [(g3.1.1 k hk).1, (g3.1.1 k hk).2]; exact ⟨rfl, rfl⟩
  · exact ch_MT g3.1 g3.2.1
  · rw [cg_BR]
    refine ⟨fun j hj => ?_, fun k hk => ?_⟩
    · obtain ⟨n1, n2, n3, n4, n5, n6, n7⟩ := g4.1.1 j hj
      refine ⟨n1, n2, n3, n4, n5, fun hneg q hq => ?_, fun q hq => ?_⟩
      · rw [rdQ_T, rdQ_B]
        by_cases e : j = i
        · subst e
          rw [va_up_self, va_up_self]
          show (if q = p then x else b_num β j q) = _ ∧ (if q = p then v else b_bl β j q) = _
          by_cases e : q = p
          · subst e; simp only [if_pos]; exact ⟨trivial, trivial⟩
          · rw [if_neg e, if_neg e, if_neg (by omega), if_neg (by omega)]; exact n6 hneg q hq
        · rw [va_up_ne _ _ e, va_up_ne _ _ e, if_neg (by omega), if_neg (by omega)]; exact n6 hneg q hq
      · by_cases e : j = i
        · subst e
          rw [va_up_self, va_up_self]
          show NN (if q = p then x else b_num β j q) ∧ ((if q = p then v else b_bl β j q) = 0 ∨ (if q = p then v else b_bl β j q) = 1)
          by_cases e : q = p
          · rw [if_pos e, if_pos e]; exact ⟨hx1, hx2⟩
          · rw [if_neg e, if_neg e]; exact n7 q hq
        · rw [va_up_ne _ _ e, va_up_ne _ _ e]; exact n7 q hq
    · rw [rdQ_T, rdQ_B, if_neg (by omega), if_neg (by omega)]; exact g4.1.2 k hk
  · rw [cg_FR]
    refine FR_step hWn (by omega) ⟨fun j hj => ⟨rfl, rfl, rfl, rfl, rfl⟩, fun k hk => ?_⟩ g4.2.1 (fun j hj q hq => ?_)
    · rw [rdQ_T, rdQ_B, if_neg (by omega), if_neg (by omega)]; exact ⟨rfl, rfl⟩
    · rw [va_up_ne _ _ (by omega), va_up_ne _ _ (by omega)]; exact ⟨rfl, rfl⟩
  · intro k hk
    exact va_up_ne _ _ (by omega)
  · have e6 := (g4.1.1 i hi).2.2.2.2.2.1 hf p hp
    exact .inl ⟨i, p, b_num β i p, b_bl β i p, by omega, hi, hp, by rw [va_up_self], rdQ_SR e6.1.symm e6.2.symm⟩
theorem ch_con {G : GG} {z t : Nat} {β : BS} {b : Nat → va_E} {N : Nat} {σ : MS} {n : Nat} {P : Nat → PT} {fr am : Nat} (h : IV G z t β b N σ n P fr am) {k : Nat} (hk : k < 8) {x : UInt64} {v : Int32} (hx : NOK (x, v)) :
    Inv G z (t + 1) (cgS β z N n (min 0 fr) (b_nar β) (b_ff β) (b_fa β) (b_fb β) (b_fc β) (b_num β) (b_bl β) (vf_upd (b_cn β) k x) (upd (b_cb β) k v)) (va_up b N (.inr (3, [b_lat β, .int (0 : Int32), .ref (z + 2), .int (Int32.ofNat k), .double (b_cn β k), .int (b_cb β k)]))) (N + 1) (chS σ n (vf_upd (m_told σ) (192 + k) x) (upd (m_blank σ) (192 + k) v) (m_narrow σ) (m_made σ) (m_now σ) (m_none σ) (m_worth σ) (m_isNone σ)) := by
  have h' := h
  obtain ⟨g1, g2, g3, g4, g5, g6⟩ := h
  have hWn := g2 n (Nat.le_refl _)
  refine inv_change (Q := rdQ (P n) (192 + k) x v) (fr' := min 0 fr) h' (by omega) ?_ ?_ ?_ rfl ?_ ?_ rfl rfl rfl (by omega) ?_ ?_ (cg_ALM g6)
  · exact rdQ_WF hWn hx (fun j q hj hq e hf' => absurd e (by omega))
  · refine ch_MP (fun j hj => ?_) (fun j hj => g3.1.2.1 j hj) (fun k hk => g3.1.2.2 k hk)
    show (if j = 192 + k then x else m_told σ j) = (if j = 192 + k then x else pT (P n) j) ∧ (if j = 192 + k then v else m_blank σ j) = (if j = 192 + k then v else pB (P n) j)
    rw [(g3.1.1 j hj).1, (g3.1.1 j hj).2]; exact ⟨rfl, rfl⟩
  · exact ch_MT g3.1 g3.2.1
  · rw [cg_BR]
    refine ⟨fun j hj => ?_, fun q hq => ?_⟩
    · obtain ⟨n1, n2, n3, n4, n5, n6, n7⟩ := g4.1.1 j hj
      refine ⟨n1, n2, n3, n4, n5, fun hneg q hq => ?_, n7⟩
      rw [rdQ_T, rdQ_B, if_neg (by omega), if_neg (by omega)]; exact n6 hneg q hq
    · rw [rdQ_T, rdQ_B]
      show (if q = k then x else b_cn β q) = _ ∧ (if q = k then v else b_cb β q) = _
      by_cases e : q = k
      · subst e; simp only [if_pos]; exact ⟨trivial, trivial⟩
      · rw [if_neg e, if_neg e, if_neg (by omega), if_neg (by omega)]; exact g4.1.2 q hq
  · intro i hi
    exact absurd hi (by omega)
  · intro j hj
    exact va_up_ne _ _ (by omega)
  · have e6 := g4.1.2 k hk
    exact .inr (.inl ⟨k, b_cn β k, b_cb β k, by omega, hk, by rw [va_up_self], rdQ_SR e6.1.symm e6.2.symm⟩)
def rmS (β : BS) (z N n f : Nat) : BS := bgS β (b_nar β) (b_ff β) (b_fa β) (b_fb β) (b_fc β) (b_num β) (b_bl β) (b_cn β) (b_cb β) (b_xn β) (b_xb β) (b_yn β) (b_yb β) (.ref (z + N)) (Int32.ofNat (n + 1)) (Int32.ofNat f)
theorem rem3 {β : BS} {n fr i : Nat} (z N : Nat) (hc : b_chg β = Int32.ofNat n) (hf : b_frs β = Int32.ofNat fr) (h1 : i ≤ 12) (h2 : fr ≤ 12) : gX10_remember3 β z N (Int32.ofNat i) = some (rmS β z N n (min i fr)) := by
  show some (b_frs_ (b_chg_ (b_lat_ β (Value.ref (z + N))) (b_chg β + (1 : Int32))) (if Int32.ofNat i < b_frs β then Int32.ofNat i else b_frs β)) = _
  rw [hc, hf, frs_min h1 h2, o_succ]
  rfl
theorem rem2 {β : BS} {n fr i : Nat} (z N : Nat) (hc : b_chg β = Int32.ofNat n) (hf : b_frs β = Int32.ofNat fr) (h1 : i ≤ 12) (h2 : fr ≤ 12) : gX10_remember2 β z N (Int32.ofNat i) = some (rmS β z N n (min i fr)) := rem3 z N hc hf h1 h2
theorem i7 {m p : Nat} (F : Nat → UInt64) (H : Nat → Int32) (x : Int32) (hp : p < m) (hq : p < 2147483648) (hb : H p = 0 ∨ H p = 1) : gX7_init m F H x (Int32.ofNat p) = some (F p, H p) := by
  unfold gX7_init
  rw [c_at F H hp hq]
  simp only [Option.bind_some]
  rw [c_blank F H hp hq hb]
  simp only [Option.bind_some]
  rw [if_pos (nar01 hb)]
theorem ff_neg {β : BS} {P : PT} (hB : BR β P) (hW : WF P) {i : Nat} (hi : i < 12) (hf : (pM P (4 * i)).toInt < 0) : b_ff β i = -1 := by
  have := (hW.2 i hi).2.1.1
  exact (hB.1 i hi).2.1.trans (Int32.toInt.inj (by rw [show (-1 : Int32).toInt = -1 from by decide]; omega))
theorem ff_pos {β : BS} {P : PT} (hB : BR β P) {i : Nat} (hi : i < 12) (hf : 0 ≤ (pM P (4 * i)).toInt) : ¬ b_ff β i = -1 := by
  intro c
  rw [(hB.1 i hi).2.1.symm.trans c] at hf
  exact absurd hf (by decide)
theorem takes1 {G : GG} {z t : Nat} {β : BS} {b : Nat → va_E} {N : Nat} {σ : MS} {n : Nat} {P : Nat → PT} {fr am : Nat} (h : IV G z t β b N σ n P fr am) (ht : t < 512) {i : Nat} (hi : i < 12) (hf : (pM (P n) (4 * i)).toInt < 0) : gX10_takesReadings β (Int32.ofNat i) = some 1 := by
  obtain ⟨g1, g2, g3, g4, g5, g6⟩ := h
  unfold gX10_takesReadings gX3_hasFormula
  rw [col1 (oC hi)]
  simp only [Option.bind_some]
  rw [if_neg (by decide), if_pos ((ixo (by omega)).mpr hi), tn (by omega), if_pos (ff_neg g4.1 (g2 n (Nat.le_refl _)) hi hf)]
  simp only [Option.bind_some]
  rw [if_pos trivial, room_eq g4.2.2.2 (by omega)]
  simp only [Option.bind_some]
  rw [if_neg (by decide)]
theorem takes0 {G : GG} {z t : Nat} {β : BS} {b : Nat → va_E} {N : Nat} {σ : MS} {n : Nat} {P : Nat → PT} {fr am : Nat} (h : IV G z t β b N σ n P fr am) {i : Nat} (hi : i < 12) (hf : 0 ≤ (pM (P n) (4 * i)).toInt) : gX10_takesReadings β (Int32.ofNat i) = some 0 := by
  obtain ⟨g1, g2, g3, g4, g5, g6⟩ := h
  unfold gX10_takesReadings gX3_hasFormula
  rw [col1 (oC hi)]
  simp only [Option.bind_some]
  rw [if_neg (by decide), if_pos ((ixo (by omega)).mpr hi), tn (by omega), if_neg (ff_pos g4.1 hi hf)]
  simp only [Option.bind_some]
  rw [if_neg (by decide)]
theorem takes_c (β : BS) {x : Int32} (hx : ¬ (0 ≤ x.toInt ∧ x.toInt < 12)) : gX10_takesReadings β x = some 0 := by
  unfold gX10_takesReadings
  rw [col0 hx]
  simp only [Option.bind_some]
  rw [if_pos trivial]
theorem o4 (i : Nat) : (4 : Int32) * Int32.ofNat i = Int32.ofNat (4 * i) := o_mul 4 i
theorem can1 {G : GG} {z t : Nat} {β : BS} {b : Nat → va_E} {N : Nat} {σ : MS} {n : Nat} {P : Nat → PT} {fr am : Nat} (h : IV G z t β b N σ n P fr am) {i p : Nat} (hi : i < 12) (hp : p < 16) (hf : (pM (P n) (4 * i)).toInt < 0) : gX11_canSet σ (Int32.ofNat i) (Int32.ofNat p) = some 1 := by
  obtain ⟨g1, g2, g3, g4, g5, g6⟩ := h
  unfold gX11_canSet
  rw [inC1 (oC hi), inP1 (oP hp), o4]
  simp only [Option.bind_some]
  rw [if_neg (by decide), if_neg (by decide), if_pos ((ixo (by omega)).mpr (by omega)), tn (by omega), g3.1.2.2 (4 * i) (by omega), if_neg (by rw [i32_0]; omega)]
theorem can0 {G : GG} {z t : Nat} {β : BS} {b : Nat → va_E} {N : Nat} {σ : MS} {n : Nat} {P : Nat → PT} {fr am : Nat} (h : IV G z t β b N σ n P fr am) {i : Nat} (hi : i < 12) (hf : 0 ≤ (pM (P n) (4 * i)).toInt) (x : Int32) : gX11_canSet σ (Int32.ofNat i) x = some 0 := by
  obtain ⟨g1, g2, g3, g4, g5, g6⟩ := h
  unfold gX11_canSet
  rw [inC1 (oC hi), o4]
  simp only [Option.bind_some]
  rw [if_neg (by decide)]
  by_cases hp : 0 ≤ x.toInt ∧ x.toInt < 16
  · rw [inP1 hp]
    simp only [Option.bind_some]
    rw [if_neg (by decide), if_pos ((ixo (by omega)).mpr (by omega)), tn (by omega), g3.1.2.2 (4 * i) (by omega), if_pos (by rw [i32_0]; omega)]
  · rw [inP0 hp]
    simp only [Option.bind_some]
    rw [if_pos trivial]
theorem can_c (σ : MS) {x : Int32} (hx : ¬ (0 ≤ x.toInt ∧ x.toInt < 12)) (y : Int32) : gX11_canSet σ x y = some 0 := by
  unfold gX11_canSet
  rw [inC0 hx]
  simp only [Option.bind_some]
  rw [if_pos trivial]
theorem can_p (σ : MS) {i : Nat} (hi : i < 12) {y : Int32} (hy : ¬ (0 ≤ y.toInt ∧ y.toInt < 16)) : gX11_canSet σ (Int32.ofNat i) y = some 0 := by
  unfold gX11_canSet
  rw [inC1 (oC hi), inP0 hy]
  simp only [Option.bind_some]
  rw [if_neg (by decide), if_pos trivial]
theorem putM (σ : MS) {K : Nat} (hK : K < 200) (x : UInt64) : gX11_put σ (Int32.ofNat K) x = some (m_blank_ (m_told_ σ (vf_upd (m_told σ) K x)) (upd (m_blank σ) K 0)) := by
  unfold gX11_put
  rw [if_pos ((ixo (by omega)).mpr hK), if_pos ((ixo (by omega)).mpr hK), tn (by omega), nar01 (.inl rfl)]
  rfl
theorem chg1 {σ : MS} {n K : Nat} {x : UInt64} {v : Int32} (hc : m_changes σ = Int32.ofNat n) : gX11_changed (m_blank_ (m_told_ (pcN σ n) (vf_upd (m_told (pcN σ n)) K x)) (upd (m_blank (pcN σ n)) K v)) = some (chS σ n (vf_upd (m_told σ) K x) (upd (m_blank σ) K v) (m_narrow σ) (m_made σ) (m_now σ) (m_none σ) (m_worth σ) (m_isNone σ), 1) := by
  show some (gS σ (vf_upd (m_told σ) K x) (upd (m_blank σ) K v) (m_narrow σ) (m_made σ) (m_now σ) (m_none σ) (cpy 200 n 200 (m_told σ) (m_toldThen σ)) (cpy 200 n 200 (m_blank σ) (m_blankThen σ)) (cpy 12 n 12 (m_narrow σ) (m_narrowThen σ)) (cpy 48 n 48 (m_made σ) (m_madeThen σ)) (m_changes σ + (1 : Int32)) (m_worth σ) (m_isNone σ), (1 : Int32)) = _
  rw [hc, o_succ]
  rfl
def spv (what nar : Int32) : UInt64 := if what = 0 then FP.dconst0 else if what = (1 : Int32) then (9218868437227405312 : UInt64) else if what = (2 : Int32) then (18442240474082181120 : UInt64) else if what = (3 : Int32) then (9223372036854775808 : UInt64) else if what = (4 : Int32) then (if nar = 0 then (9218868437227405311 : UInt64) else (5183643170566569984 : UInt64)) else (if nar = 0 then (1 : UInt64) else (3936146074321813504 : UInt64))
def spb (what : Int32) : Int32 := if what = 0 then 1 else 0
theorem spC {m p : Nat} (F : Nat → UInt64) (H : Nat → Int32) (what nar : Int32) (hp : p < m) (hq : p < 2147483648) : gX8_putSpecial m F H (Int32.ofNat p) what nar = some (vf_upd F p (spv what nar), upd H p (spb what)) := by
  unfold gX8_putSpecial spv spb
  by_cases c0 : what = 0
  · rw [if_pos c0, if_pos c0, if_pos c0, c_clear F H hp hq]; rfl
  · rw [if_neg c0, if_neg c0, if_neg c0]
    have e : gX6_named what nar = some (if what = (1 : Int32) then (9218868437227405312 : UInt64) else if what = (2 : Int32) then (18442240474082181120 : UInt64) else if what = (3 : Int32) then (9223372036854775808 : UInt64) else if what = (4 : Int32) then (if nar = 0 then (9218868437227405311 : UInt64) else (5183643170566569984 : UInt64)) else (if nar = 0 then (1 : UInt64) else (3936146074321813504 : UInt64))) := by
      unfold gX6_named
      (repeat' split) <;> rfl
    rw [e]
    simp only [Option.bind_some]
    rw [c_put F H _ hp hq]
    rfl
theorem spM (σ : MS) {K : Nat} (hK : K < 200) (what nar : Int32) : gX11_putSpecial σ (Int32.ofNat K) what nar = some (m_blank_ (m_told_ σ (vf_upd (m_told σ) K (spv what nar))) (upd (m_blank σ) K (spb what))) := by
  have hix : ix (Int32.ofNat K) 200 := (ixo (by omega)).mpr hK
  unfold gX11_putSpecial gX11_putSpecial_101 gX11_putSpecial_122 spv spb
  simp only [putM σ hK, Option.bind_some, if_pos hix, tn (show K < 2147483648 by omega), nar01 (b := 1) (.inr rfl)]
  by_cases c0 : what = 0
  · simp only [if_pos c0]; rfl
  simp only [if_neg c0]
  (repeat' split) <;> rfl
theorem sp_nn (what nar : Int32) : NN (spv what nar) := by
  unfold spv
  (repeat' split) <;> decide +kernel
theorem sp_nbd {what nar : Int32} : nbd nar (spv what nar) := by
  unfold spv
  by_cases hn : nar = 0
  · exact .inl hn
  · simp only [if_neg hn]
    refine .inr ?_
    (repeat' split) <;> decide +kernel
theorem sp_ok {what nar : Int32} : OKv nar (spv what nar, spb what) := by
  refine ⟨sp_nn _ _, ?_, fun c => ?_, sp_nbd⟩
  · show spb what = 0 ∨ spb what = 1
    unfold spb; split
    · exact .inr rfl
    · exact .inl rfl
  · have c0 : what = 0 := Classical.byContradiction (fun e => c (show spb what = 0 from if_neg e))
    show spv what nar = FP.dconst0
    unfold spv; rw [if_pos c0]
