/-! back: the three kinds of change -/
theorem brc_rd {na ff fa fb fc : Nat → Int32} {nu : Nat → Nat → UInt64} {bl : Nat → Nat → Int32} {cn : Nat → UInt64} {cb : Nat → Int32} {P Q : PT} {i pl : Nat} {nb : UInt64} {bk : Int32} (hi : i < 12) (hp : pl < 16) (hB : BRc na ff fa fb fc nu bl cn cb P) (hS : SR P Q (16 * i + pl) nb bk) (hk : NOK (nb, bk)) : BRc na ff fa fb fc (va_up nu i (vf_upd (nu i) pl nb)) (va_up bl i (upd (bl i) pl bk)) cn cb Q := by
  obtain ⟨s1, s2, s3⟩ := hS
  refine ⟨fun j hj => ?_, fun k hk => ?_⟩
  · obtain ⟨n1, n2, n3, n4, n5, n6, n7⟩ := hB.1 j hj
    rw [s1 j hj, s2 (4 * j) (by omega), s2 (4 * j + 1) (by omega), s2 (4 * j + 2) (by omega), s2 (4 * j + 3) (by omega)]
    refine ⟨n1, n2, n3, n4, n5, fun hneg q hq => ?_, fun q hq => ?_⟩
    · have a := s3 (16 * j + q) (by omega)
      rw [a.1, a.2]
      by_cases e : j = i
      · subst e
        rw [va_up_self, va_up_self]
        show (if q = pl then nb else nu j q) = _ ∧ (if q = pl then bk else bl j q) = _
        by_cases e : q = pl
        · subst e; simp only [if_pos]; exact ⟨trivial, trivial⟩
        · rw [if_neg e, if_neg e, if_neg (by omega), if_neg (by omega)]; exact n6 hneg q hq
      · rw [va_up_ne _ _ e, va_up_ne _ _ e, if_neg (by omega), if_neg (by omega)]; exact n6 hneg q hq
    · by_cases e : j = i
      · subst e
        rw [va_up_self, va_up_self]
        show NN (if q = pl then nb else nu j q) ∧ ((if q = pl then bk else bl j q) = 0 ∨ (if q = pl then bk else bl j q) = 1)
        by_cases e : q = pl
        · rw [if_pos e, if_pos e]; exact ⟨hk.1, hk.2.1⟩
        · rw [if_neg e, if_neg e]; exact n7 q hq
      · rw [va_up_ne _ _ e, va_up_ne _ _ e]; exact n7 q hq
  · have a := s3 (192 + k) (by omega)
    rw [a.1, a.2, if_neg (by omega), if_neg (by omega)]; exact hB.2 k hk
theorem agr_rd {P Q : PT} {i pl : Nat} {nb : UInt64} {bk : Int32} (hi : i < 12) (hp : pl < 16) (hS : SR P Q (16 * i + pl) nb bk) : Agr i P Q := by
  obtain ⟨s1, s2, s3⟩ := hS
  refine ⟨fun j hj => ⟨(s1 j (by omega)).symm, (s2 (4 * j) (by omega)).symm, (s2 (4 * j + 1) (by omega)).symm, (s2 (4 * j + 2) (by omega)).symm, (s2 (4 * j + 3) (by omega)).symm⟩, fun k hk => ?_⟩
  have a := s3 k (by omega)
  rw [a.1, a.2, if_neg (by omega), if_neg (by omega)]; exact ⟨rfl, rfl⟩
theorem brc_rk {na ff fa fb fc : Nat → Int32} {nu : Nat → Nat → UInt64} {bl : Nat → Nat → Int32} {cn : Nat → UInt64} {cb : Nat → Int32} {P Q : PT} {k : Nat} {nb : UInt64} {bk : Int32} (hk8 : k < 8) (hB : BRc na ff fa fb fc nu bl cn cb P) (hS : SR P Q (192 + k) nb bk) : BRc na ff fa fb fc nu bl (vf_upd cn k nb) (upd cb k bk) Q := by
  obtain ⟨s1, s2, s3⟩ := hS
  refine ⟨fun j hj => ?_, fun q hq => ?_⟩
  · obtain ⟨n1, n2, n3, n4, n5, n6, n7⟩ := hB.1 j hj
    rw [s1 j hj, s2 (4 * j) (by omega), s2 (4 * j + 1) (by omega), s2 (4 * j + 2) (by omega), s2 (4 * j + 3) (by omega)]
    refine ⟨n1, n2, n3, n4, n5, fun hneg q hq => ?_, n7⟩
    have a := s3 (16 * j + q) (by omega)
    rw [a.1, a.2, if_neg (by omega), if_neg (by omega)]; exact n6 hneg q hq
  · have a := s3 (192 + q) (by omega)
    rw [a.1, a.2]
    show (if q = k then nb else cn q) = _ ∧ (if q = k then bk else cb q) = _
    by_cases e : q = k
    · subst e; simp only [if_pos]; exact ⟨trivial, trivial⟩
    · rw [if_neg e, if_neg e, if_neg (by omega), if_neg (by omega)]; exact hB.2 q hq
theorem brc_co {na ff fa fb fc : Nat → Int32} {nu : Nat → Nat → UInt64} {bl : Nat → Nat → Int32} {cn : Nat → UInt64} {cb : Nat → Int32} {P Q : PT} {i : Nat} {nar2 ff2 fa2 fb2 fc2 : Int32} {F2 : Nat → UInt64} {H2 : Nat → Int32} (hi : i < 12) (hB : BRc na ff fa fb fc nu bl cn cb P) (hS : SC P Q i nar2 ff2 fa2 fb2 fc2 F2 H2) : BRc (va_up na i nar2) (va_up ff i ff2) (va_up fa i fa2) (va_up fb i fb2) (va_up fc i fc2) (va_up nu i (cp 16 F2 (nu i))) (va_up bl i (cp 16 H2 (bl i))) cn cb Q := by
  obtain ⟨c1, c2, c3, c4, c5⟩ := hS
  refine ⟨fun j hj => ?_, fun k hk => ?_⟩
  · by_cases e : j = i
    · subst e
      rw [va_up_self, va_up_self, va_up_self, va_up_self, va_up_self, va_up_self, va_up_self, c2.1, c2.2.1, c2.2.2.1, c2.2.2.2.1, c2.2.2.2.2]
      refine ⟨rfl, rfl, rfl, rfl, rfl, fun hneg p hp => ?_, fun p hp => ?_⟩
      · rw [cp_in hp, cp_in hp]; exact ⟨(c4 hneg p hp).1.symm, (c4 hneg p hp).2.symm⟩
      · rw [cp_in hp, cp_in hp]; exact c5 p hp
    · obtain ⟨n1, n2, n3, n4, n5, n6, n7⟩ := hB.1 j hj
      obtain ⟨q1, q2, q3, q4, q5⟩ := c1 j hj e
      rw [va_up_ne _ _ e, va_up_ne _ _ e, va_up_ne _ _ e, va_up_ne _ _ e, va_up_ne _ _ e, va_up_ne _ _ e, va_up_ne _ _ e, q1, q2, q3, q4, q5]
      refine ⟨n1, n2, n3, n4, n5, fun hneg p hp => ?_, n7⟩
      have a := c3 (16 * j + p) (by omega) (by omega)
      rw [a.1, a.2]; exact n6 hneg p hp
  · have a := c3 (192 + k) (by omega) (by omega)
    rw [a.1, a.2]; exact hB.2 k hk
theorem agr_co {P Q : PT} {i : Nat} {nar2 ff2 fa2 fb2 fc2 : Int32} {F2 : Nat → UInt64} {H2 : Nat → Int32} (hi : i < 12) (hS : SC P Q i nar2 ff2 fa2 fb2 fc2 F2 H2) : Agr i P Q := by
  obtain ⟨c1, c2, c3, c4, c5⟩ := hS
  refine ⟨fun j hj => ?_, fun k hk => ?_⟩
  · obtain ⟨q1, q2, q3, q4, q5⟩ := c1 j (by omega) (by omega)
    exact ⟨q1.symm, q2.symm, q3.symm, q4.symm, q5.symm⟩
  · have a := c3 k (by omega) (by omega)
    exact ⟨a.1.symm, a.2.symm⟩
theorem op_back {G : GG} {z t : Nat} {β : BS} {b : Nat → va_E} {N : Nat} {σ : MS} {n : Nat} {P : Nat → PT} {fr am : Nat} (h : IV G z t β b N σ n P fr am) (ht : t < 512) (l : Launch) : ∃ (β' : BS) (σ' : MS) (r : Int32), Ct G l yX10_back cX10_back 2 (some .int) ({ frames := 4, cells := 0, slots := 0, locals := 88 } : Room) [.ref (z + 0)] z (ctB G z β (ctM G z b σ)) N (some (.int r)) (ctB G z β' (ctM G z b σ)) N ∧ gX11_back σ = some (σ', r) ∧ Inv G z (t + 1) β' b N σ' := by
  cases n with
  | zero =>
    have h' := h
    obtain ⟨g1, g2, g3, g4, g5, g6⟩ := h
    have ct := tX10_backN (G := G) (l := l) (z := z) (N := N) (b := ctM G z b σ) (by omega) β g5 (r := (β, -1)) rfl
    refine ⟨β, σ, -1, Ct.wide (by decide) (by decide) (by rfl) (by rfl) ct, ?_, inv_refuse h'⟩
    unfold gX11_back
    rw [g3.2.2, if_pos (show Int32.ofNat 0 = 0 from rfl)]
  | succ n =>
    have h' := h
    obtain ⟨g1, g2, g3, g4, g5, g6⟩ := h
    obtain ⟨t0, w', e, ht0, hTB, hC⟩ : ∃ (t0 : Nat) (w' : Value), b_lat β = .ref (z + t0) ∧ 86 ≤ t0 ∧ TB G z b N t0 w' (P (n + 1)) (P n) ∧ CH G z b N P n w' := g5
    have hWQ := g2 n (by omega)
    have hWP := g2 (n + 1) (Nat.le_refl _)
    have hbk := bkE (show n < 512 by omega) g3.2.2 (g3.2.1 n (by omega)) hWQ
    rcases hTB with ⟨i, pl, nb, bk, h1, hi, hp, hb, hS⟩ | ⟨k, nb, bk, h1, hk8, hb, hS⟩ | ⟨i, nar2, ff2, fa2, fb2, fc2, F2, H2, h1, hi, hb, hb1, hb2, hb3, hb4, hS⟩
    · have hK := hS.2.2 (16 * i + pl) (by omega)
      rw [if_pos rfl, if_pos rfl] at hK
      have hk : NOK (nb, bk) := by rw [← hK.1, ← hK.2]; exact hWQ.1 _ (by omega)
      have ct := tX10_backRc (G := G) (l := l) (z := z) (N := N) (b := ctM G z b σ) (t := t0) (by omega) (show 71 ≤ t0 by omega) h1 (CH_R hC) hi (by rw [cm_ge ht0]; exact hb) β e (backRc g4.2.2.2 g4.2.2.1 (by omega) g1.2.2 hp hk)
      refine ⟨_, _, _, Ct.wide (by decide) (by decide) (by rfl) (by rfl) ct, hbk, bk_inv h' hC (by omega) (brc_rd hi hp g4.1 hS hk) ?_⟩
      refine FR_step hWP (by omega) (agr_rd hi hp hS) g4.2.1 (fun j hj q hq => ?_)
      rw [va_up_ne _ _ (by omega), va_up_ne _ _ (by omega)]; exact ⟨rfl, rfl⟩
    · have hK := hS.2.2 (192 + k) (by omega)
      rw [if_pos rfl, if_pos rfl] at hK
      have hk : NOK (nb, bk) := by rw [← hK.1, ← hK.2]; exact hWQ.1 _ (by omega)
      have ct := tX10_backRk (G := G) (l := l) (z := z) (N := N) (b := ctM G z b σ) (t := t0) (by omega) (show 71 ≤ t0 by omega) h1 (CH_R hC) (by rw [cm_ge ht0]; exact hb) β e (backRk g4.2.2.2 g4.2.2.1 g1.2.2 hk8 hk)
      refine ⟨_, _, _, Ct.wide (by decide) (by decide) (by rfl) (by rfl) ct, hbk, bk_inv h' hC (by omega) (brc_rk hk8 g4.1 hS) ?_⟩
      intro i hi
      exact absurd hi (by omega)
    · have hn : nar2 = 0 ∨ nar2 = 1 := by rw [← hS.2.1.1]; exact (hWQ.2 i hi).1
      have ct := tX10_backC (G := G) (l := l) (z := z) (N := N) (b := ctM G z b σ) (t := t0) (by omega) (show 71 ≤ t0 by omega) h1 (CH_R hC) hi (by rw [cm_ge ht0]; exact hb) (by rw [cm_ge (by omega)]; exact hb1) (by rw [cm_ge (by omega)]; exact hb2) (by rw [cm_ge (by omega)]; exact hb3) (by rw [cm_ge (by omega)]; exact hb4) β e (backC g4.2.2.2 g4.2.2.1 (by omega) g1.2.2 hn hS.2.2.2.2)
      refine ⟨_, _, _, Ct.wide (by decide) (by decide) (by rfl) (by rfl) ct, hbk, bk_inv h' hC (by omega) (brc_co hi g4.1 hS) ?_⟩
      refine FR_step hWP (by omega) (agr_co hi hS) g4.2.1 (fun j hj q hq => ?_)
      rw [va_up_ne _ _ (by omega), va_up_ne _ _ (by omega)]; exact ⟨rfl, rfl⟩
