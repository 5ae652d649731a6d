theorem ctBM {G : GG} {z : Nat} {β : BS} {b : Nat → va_E} {σ : MS} : ctB G z β (ctM G z b σ) = ctM G z (ctB G z β b) σ := by
  funext k
  by_cases h : k < 71
  · have e : ∀ x : Nat → va_E, ctM G z x σ k = x k := fun x => by
      unfold ctM
      simp only [if_neg (show ¬ k = 71 by omega), if_neg (show ¬ k = 72 by omega), if_neg (show ¬ k = 73 by omega), if_neg (show ¬ k = 74 by omega), if_neg (show ¬ k = 75 by omega), if_neg (show ¬ k = 76 by omega), if_neg (show ¬ k = 77 by omega), if_neg (show ¬ k = 78 by omega), if_neg (show ¬ k = 79 by omega), if_neg (show ¬ k = 80 by omega), if_neg (show ¬ k = 81 by omega), if_neg (show ¬ k = 82 by omega), if_neg (show ¬ k = 83 by omega), if_neg (show ¬ k = 84 by omega), if_neg (show ¬ k = 85 by omega)]
    rw [e]
    unfold ctB
    by_cases h1 : k < 13
    · rw [if_pos h1, if_pos h1]
    · rw [if_neg h1, if_neg h1]
      by_cases h2 : k < 61
      · rw [if_pos h2, if_pos h2]
      · rw [if_neg h2, if_neg h2, if_pos h, if_pos h]
  · rw [cb_ge (by omega)]
    unfold ctM
    rw [cb_ge (b := b) (by omega)]
theorem j_sld {G : GG} {p : Program} {l : Launch} {e : Env} {R : Room} {s : State} {m : MethodId} {args : Array Value} {below : List Frame} {meth : Method} {c : Code} {cc : ByteArray} {nL : Nat} {own : String} {z : Nat} {ret : Option FieldType} {nme : String} {Q : State → Prop} {ct : Nat → va_E} {N cells slots pc : Nat} {lv : List (Nat × Value)} {rest : List Value} {bs L : Nat} {xs : Nat → Int32} (C : Cx G p s m args meth c cc nL own z ret nme) (hX : va_X bs L xs s s.heap) (hbz : bs < z) {i : Int32} (j : Nat) (hi : i = nI j) (hj : j < L) (hL : L ≤ 3072) (d : decode cc pc = .ok (.iaload, 1)) (k : J G p l e R s m args below meth c z nL Q ct N cells slots (pc + 1) lv (.int (xs j) :: rest)) : J G p l e R s m args below meth c z nL Q ct N cells slots pc lv (.int i :: .ref bs :: rest) := by
  intro H locs ls hP hS hl
  refine va_sld C.x C.b hX (Nat.lt_of_lt_of_le hbz C.zz) (show ¬ zA z bs from Nat.not_le.mpr hbz) hS (by rw [hi]; exact vp_in_nI hj (by omega)) d ?_
  rw [hi, nI_clamp (by omega)]
  exact k H locs ls hP hS hl
theorem j_slen {G : GG} {p : Program} {l : Launch} {e : Env} {R : Room} {s : State} {m : MethodId} {args : Array Value} {below : List Frame} {meth : Method} {c : Code} {cc : ByteArray} {nL : Nat} {own : String} {z : Nat} {ret : Option FieldType} {nme : String} {Q : State → Prop} {ct : Nat → va_E} {N cells slots pc : Nat} {lv : List (Nat × Value)} {rest : List Value} {bs L : Nat} {xs : Nat → Int32} (C : Cx G p s m args meth c cc nL own z ret nme) (hX : va_X bs L xs s s.heap) (hbz : bs < z) (d : decode cc pc = .ok (.arraylength, 1)) (k : J G p l e R s m args below meth c z nL Q ct N cells slots (pc + 1) lv (.int (nI L) :: rest)) : J G p l e R s m args below meth c z nL Q ct N cells slots pc lv (.ref bs :: rest) := fun H locs ls hP hS hl => va_slen C.x C.b hX (Nat.lt_of_lt_of_le hbz C.zz) (show ¬ zA z bs from Nat.not_le.mpr hbz) hS d (k H locs ls hP hS hl)
theorem lw_more {L t : Nat} (hL : L ≤ 3072) (ht : t ≤ 512) (h : ¬ (nI L - 6 < nI (6 * t))) : 6 * t + 6 ≤ L := by
  have e1 : (nI L - nI 6).toInt = (L : Int) - 6 := pk_sub_toInt (by omega) (by decide)
  have e2 : (nI (6 * t)).toInt = ((6 * t : Nat) : Int) := nI_toInt (by omega)
  have h2 : ¬ (nI L - nI 6 < nI (6 * t)) := h
  rw [Int32.lt_iff_toInt_lt, e1, e2] at h2
  omega
theorem lg_self (x : Int64) : lg_cmp x x = 0 := by
  unfold lg_cmp
  simp
set_option maxHeartbeats 8000000 in
set_option maxRecDepth 100000 in
theorem law_loop {G : GG} {p : Program} {l : Launch} {e : Env} {s : State} {m : MethodId} {args : Array Value} {below : List Frame} {meth : Method} {c : Code} {z : Nat} {Q : State → Prop} {bs L : Nat} {xs : Nat → Int32} {nme : String} (C : Cx G p s m args meth c code 8 RL z (some .boolean) nme) (hX : va_X bs L xs s s.heap) (hbz : bs < z) (hL : L ≤ 3072) (Inv : Nat → BS → (Nat → va_E) → Nat → MS → Prop) (hInvN : ∀ t β b N σ, Inv t β b N σ → 86 ≤ N) (hInvS : ∀ t β b N σ, t < 512 → Inv t β b N σ → Inv (t + 1) β b N σ) (S0 : ∀ (t : Nat) (β : BS) (b : Nat → va_E) (N : Nat) (σ : MS), t < 512 → Inv t β b N σ → ∀ (x0 x1 x2 x3 : Int32), ∃ (β' : BS) (b' : Nat → va_E) (N' : Nat) (σ' : MS) (r : Int32), Ct G l yX10_set cX10_set 6 (some .int) ({ frames := 3, cells := 1, slots := 6, locals := 66 } : Room) [.ref (z + 0), .int x0, .int x1, .int x2, .int x3] z (ctB G z β (ctM G z b σ)) N (some (.int r)) (ctB G z β' (ctM G z b' σ)) N' ∧ Ct G l yX11_set cX11_set 5 (some .int) ({ frames := 2, cells := 0, slots := 0, locals := 44 } : Room) [.ref (z + 71), .int x0, .int x1, .int x2, .int x3] z (ctM G z (ctB G z β' b') σ) N' (some (.int r)) (ctM G z (ctB G z β' b') σ') N' ∧ Inv (t + 1) β' b' N' σ') (S1 : ∀ (t : Nat) (β : BS) (b : Nat → va_E) (N : Nat) (σ : MS), t < 512 → Inv t β b N σ → ∀ (x0 x1 x2 : Int32), ∃ (β' : BS) (b' : Nat → va_E) (N' : Nat) (σ' : MS) (r : Int32), Ct G l yX10_special cX10_special 5 (some .int) ({ frames := 3, cells := 1, slots := 6, locals := 66 } : Room) [.ref (z + 0), .int x0, .int x1, .int x2] z (ctB G z β (ctM G z b σ)) N (some (.int r)) (ctB G z β' (ctM G z b' σ)) N' ∧ Ct G l yX11_special cX11_special 4 (some .int) ({ frames := 2, cells := 0, slots := 0, locals := 46 } : Room) [.ref (z + 71), .int x0, .int x1, .int x2] z (ctM G z (ctB G z β' b') σ) N' (some (.int r)) (ctM G z (ctB G z β' b') σ') N' ∧ Inv (t + 1) β' b' N' σ') (S2 : ∀ (t : Nat) (β : BS) (b : Nat → va_E) (N : Nat) (σ : MS), t < 512 → Inv t β b N σ → ∀ (x0 x1 x2 : Int32), ∃ (β' : BS) (b' : Nat → va_E) (N' : Nat) (σ' : MS) (r : Int32), Ct G l yX10_constant cX10_constant 4 (some .int) ({ frames := 3, cells := 1, slots := 6, locals := 66 } : Room) [.ref (z + 0), .int x0, .int x1, .int x2] z (ctB G z β (ctM G z b σ)) N (some (.int r)) (ctB G z β' (ctM G z b' σ)) N' ∧ Ct G l yX11_constant cX11_constant 4 (some .int) ({ frames := 1, cells := 0, slots := 0, locals := 24 } : Room) [.ref (z + 71), .int x0, .int x1, .int x2] z (ctM G z (ctB G z β' b') σ) N' (some (.int r)) (ctM G z (ctB G z β' b') σ') N' ∧ Inv (t + 1) β' b' N' σ') (S3 : ∀ (t : Nat) (β : BS) (b : Nat → va_E) (N : Nat) (σ : MS), t < 512 → Inv t β b N σ → ∀ (x0 x1 : Int32), ∃ (β' : BS) (b' : Nat → va_E) (N' : Nat) (σ' : MS) (r : Int32), Ct G l yX10_constantSpecial cX10_constantSpecial 3 (some .int) ({ frames := 3, cells := 1, slots := 6, locals := 66 } : Room) [.ref (z + 0), .int x0, .int x1] z (ctB G z β (ctM G z b σ)) N (some (.int r)) (ctB G z β' (ctM G z b' σ)) N' ∧ Ct G l yX11_constantSpecial cX11_constantSpecial 3 (some .int) ({ frames := 2, cells := 0, slots := 0, locals := 46 } : Room) [.ref (z + 71), .int x0, .int x1] z (ctM G z (ctB G z β' b') σ) N' (some (.int r)) (ctM G z (ctB G z β' b') σ') N' ∧ Inv (t + 1) β' b' N' σ') (S4 : ∀ (t : Nat) (β : BS) (b : Nat → va_E) (N : Nat) (σ : MS), t < 512 → Inv t β b N σ → ∀ (x0 x1 x2 x3 x4 : Int32), ∃ (β' : BS) (b' : Nat → va_E) (N' : Nat) (σ' : MS) (r : Int32), Ct G l yX10_formula cX10_formula 7 (some .int) ({ frames := 4, cells := 5, slots := 44, locals := 91 } : Room) [.ref (z + 0), .int x0, .int x1, .int x2, .int x3, .int x4] z (ctB G z β (ctM G z b σ)) N (some (.int r)) (ctB G z β' (ctM G z b' σ)) N' ∧ Ct G l yX11_formula cX11_formula 7 (some .int) ({ frames := 1, cells := 0, slots := 0, locals := 22 } : Room) [.ref (z + 71), .int x0, .int x1, .int x2, .int x3, .int x4] z (ctM G z (ctB G z β' b') σ) N' (some (.int r)) (ctM G z (ctB G z β' b') σ') N' ∧ Inv (t + 1) β' b' N' σ') (S5 : ∀ (t : Nat) (β : BS) (b : Nat → va_E) (N : Nat) (σ : MS), t < 512 → Inv t β b N σ → ∀ (x0 : Int32), ∃ (β' : BS) (b' : Nat → va_E) (N' : Nat) (σ' : MS) (r : Int32), Ct G l yX10_input cX10_input 3 (some .int) ({ frames := 6, cells := 5, slots := 44, locals := 166 } : Room) [.ref (z + 0), .int x0] z (ctB G z β (ctM G z b σ)) N (some (.int r)) (ctB G z β' (ctM G z b' σ)) N' ∧ Ct G l yX11_input cX11_input 3 (some .int) ({ frames := 7, cells := 0, slots := 0, locals := 168 } : Room) [.ref (z + 71), .int x0] z (ctM G z (ctB G z β' b') σ) N' (some (.int r)) (ctM G z (ctB G z β' b') σ') N' ∧ Inv (t + 1) β' b' N' σ') (S6 : ∀ (t : Nat) (β : BS) (b : Nat → va_E) (N : Nat) (σ : MS), t < 512 → Inv t β b N σ → ∀ (x0 x1 : Int32), (x1 = 0 ∨ x1 = 1) → ∃ (β' : BS) (b' : Nat → va_E) (N' : Nat) (σ' : MS) (r : Int32), Ct G l yX10_width cX10_width 5 (some .int) ({ frames := 4, cells := 5, slots := 44, locals := 91 } : Room) [.ref (z + 0), .int x0, .int x1] z (ctB G z β (ctM G z b σ)) N (some (.int r)) (ctB G z β' (ctM G z b' σ)) N' ∧ Ct G l yX11_width cX11_width 4 (some .int) ({ frames := 1, cells := 0, slots := 0, locals := 22 } : Room) [.ref (z + 71), .int x0, .int x1] z (ctM G z (ctB G z β' b') σ) N' (some (.int r)) (ctM G z (ctB G z β' b') σ') N' ∧ Inv (t + 1) β' b' N' σ') (S7 : ∀ (t : Nat) (β : BS) (b : Nat → va_E) (N : Nat) (σ : MS), t < 512 → Inv t β b N σ → ∃ (β' : BS) (b' : Nat → va_E) (N' : Nat) (σ' : MS) (r : Int32), Ct G l yX10_back cX10_back 2 (some .int) ({ frames := 4, cells := 0, slots := 0, locals := 88 } : Room) [.ref (z + 0)] z (ctB G z β (ctM G z b σ)) N (some (.int r)) (ctB G z β' (ctM G z b' σ)) N' ∧ Ct G l yX11_back cX11_back 2 (some .int) ({ frames := 0, cells := 0, slots := 0, locals := 0 } : Room) [.ref (z + 71)] z (ctM G z (ctB G z β' b') σ) N' (some (.int r)) (ctM G z (ctB G z β' b') σ') N' ∧ Inv (t + 1) β' b' N' σ') (S8 : ∀ (t : Nat) (β : BS) (b : Nat → va_E) (N : Nat) (σ : MS), t < 512 → Inv t β b N σ → ∀ (x0 x1 x2 : Int32), ∃ (β' : BS) (b' : Nat → va_E) (N' : Nat) (σ' : MS) (r : Int32), Ct G l yX10_alarm cX10_alarm 5 (some .int) ({ frames := 1, cells := 0, slots := 0, locals := 20 } : Room) [.ref (z + 0), .int x0, .int x1, .int x2] z (ctB G z β (ctM G z b σ)) N (some (.int r)) (ctB G z β' (ctM G z b' σ)) N' ∧ Ct G l yX11_alarm cX11_alarm 4 (some .int) ({ frames := 1, cells := 0, slots := 0, locals := 22 } : Room) [.ref (z + 71), .int x0, .int x1, .int x2] z (ctM G z (ctB G z β' b') σ) N' (some (.int r)) (ctM G z (ctB G z β' b') σ') N' ∧ Inv (t + 1) β' b' N' σ') (S9 : ∀ (t : Nat) (β : BS) (b : Nat → va_E) (N : Nat) (σ : MS), t < 512 → Inv t β b N σ → ∃ (β' : BS) (b' : Nat → va_E) (N' : Nat) (σ' : MS) (r : Int32), Ct G l yX10_ring cX10_ring 3 (some .int) ({ frames := 6, cells := 0, slots := 0, locals := 166 } : Room) [.ref (z + 0)] z (ctB G z β (ctM G z b σ)) N (some (.int r)) (ctB G z β' (ctM G z b' σ)) N' ∧ Ct G l yX11_ring cX11_ring 5 (some .int) ({ frames := 7, cells := 0, slots := 0, locals := 168 } : Room) [.ref (z + 71)] z (ctM G z (ctB G z β' b') σ) N' (some (.int r)) (ctM G z (ctB G z β' b') σ') N' ∧ Inv (t + 1) β' b' N' σ') (S10 : ∀ (t : Nat) (β : BS) (b : Nat → va_E) (N : Nat) (σ : MS), t < 512 → Inv t β b N σ → ∀ (x0 x1 : Int32), ∃ (β' : BS) (b' : Nat → va_E) (N' : Nat) (σ' : MS) (r : UInt64), Ct G l yX10_reading cX10_reading 3 (some .double) ({ frames := 6, cells := 0, slots := 0, locals := 166 } : Room) [.ref (z + 0), .int x0, .int x1] z (ctB G z β (ctM G z b σ)) N (some (.double r)) (ctB G z β' (ctM G z b' σ)) N' ∧ Ct G l yX11_reading cX11_reading 3 (some .double) ({ frames := 8, cells := 0, slots := 0, locals := 190 } : Room) [.ref (z + 71), .int x0, .int x1] z (ctM G z (ctB G z β' b') σ) N' (some (.double r)) (ctM G z (ctB G z β' b') σ') N' ∧ Inv (t + 1) β' b' N' σ') (S11 : ∀ (t : Nat) (β : BS) (b : Nat → va_E) (N : Nat) (σ : MS), t < 512 → Inv t β b N σ → ∀ (x0 x1 : Int32), ∃ (β' : BS) (b' : Nat → va_E) (N' : Nat) (σ' : MS) (r : Int32), Ct G l yX10_isBlank cX10_isBlank 3 (some .boolean) ({ frames := 6, cells := 0, slots := 0, locals := 166 } : Room) [.ref (z + 0), .int x0, .int x1] z (ctB G z β (ctM G z b σ)) N (some (.int r)) (ctB G z β' (ctM G z b' σ)) N' ∧ Ct G l yX11_isBlank cX11_isBlank 3 (some .boolean) ({ frames := 8, cells := 0, slots := 0, locals := 190 } : Room) [.ref (z + 71), .int x0, .int x1] z (ctM G z (ctB G z β' b') σ) N' (some (.int r)) (ctM G z (ctB G z β' b') σ') N' ∧ Inv (t + 1) β' b' N' σ') (S12 : ∀ (t : Nat) (β : BS) (b : Nat → va_E) (N : Nat) (σ : MS), t < 512 → Inv t β b N σ → ∀ (x0 x1 : Int32), ∃ (β' : BS) (b' : Nat → va_E) (N' : Nat) (σ' : MS) (r : Int32), Ct G l yX10_isMinus cX10_isMinus 3 (some .boolean) ({ frames := 6, cells := 0, slots := 0, locals := 166 } : Room) [.ref (z + 0), .int x0, .int x1] z (ctB G z β (ctM G z b σ)) N (some (.int r)) (ctB G z β' (ctM G z b' σ)) N' ∧ Ct G l yX11_isMinus cX11_isMinus 3 (some .boolean) ({ frames := 8, cells := 0, slots := 0, locals := 190 } : Room) [.ref (z + 71), .int x0, .int x1] z (ctM G z (ctB G z β' b') σ) N' (some (.int r)) (ctM G z (ctB G z β' b') σ') N' ∧ Inv (t + 1) β' b' N' σ') (S13 : ∀ (t : Nat) (β : BS) (b : Nat → va_E) (N : Nat) (σ : MS), t < 512 → Inv t β b N σ → ∀ (x0 x1 : Int32), ∃ (β' : BS) (b' : Nat → va_E) (N' : Nat) (σ' : MS) (r : Int64), Ct G l yX10_bits cX10_bits 3 (some .long) ({ frames := 6, cells := 0, slots := 0, locals := 166 } : Room) [.ref (z + 0), .int x0, .int x1] z (ctB G z β (ctM G z b σ)) N (some (.long r)) (ctB G z β' (ctM G z b' σ)) N' ∧ Ct G l yX11_bits cX11_bits 9 (some .long) ({ frames := 8, cells := 0, slots := 0, locals := 190 } : Room) [.ref (z + 71), .int x0, .int x1] z (ctM G z (ctB G z β' b') σ) N' (some (.long r)) (ctM G z (ctB G z β' b') σ') N' ∧ Inv (t + 1) β' b' N' σ') (S14 : ∀ (t : Nat) (β : BS) (b : Nat → va_E) (N : Nat) (σ : MS), t < 512 → Inv t β b N σ → ∀ (x0 x1 x2 : Int32), ∃ (β' : BS) (b' : Nat → va_E) (N' : Nat) (σ' : MS) (r : Int32), Ct G l yX10_compared cX10_compared 8 (some .int) ({ frames := 6, cells := 0, slots := 0, locals := 166 } : Room) [.ref (z + 0), .int x0, .int x1, .int x2] z (ctB G z β (ctM G z b σ)) N (some (.int r)) (ctB G z β' (ctM G z b' σ)) N' ∧ Ct G l yX11_compared cX11_compared 8 (some .int) ({ frames := 7, cells := 0, slots := 0, locals := 168 } : Room) [.ref (z + 71), .int x0, .int x1, .int x2] z (ctM G z (ctB G z β' b') σ) N' (some (.int r)) (ctM G z (ctB G z β' b') σ') N' ∧ Inv (t + 1) β' b' N' σ') (S15 : ∀ (t : Nat) (β : BS) (b : Nat → va_E) (N : Nat) (σ : MS), t < 512 → Inv t β b N σ → ∀ (x0 x1 : Int32), ∃ (β' : BS) (b' : Nat → va_E) (N' : Nat) (σ' : MS) (r : Int32), Ct G l yX10_alarmed cX10_alarmed 3 (some .int) ({ frames := 2, cells := 0, slots := 0, locals := 42 } : Room) [.ref (z + 0), .int x0, .int x1] z (ctB G z β (ctM G z b σ)) N (some (.int r)) (ctB G z β' (ctM G z b' σ)) N' ∧ Ct G l yX11_alarmed cX11_alarmed 4 (some .int) ({ frames := 1, cells := 0, slots := 0, locals := 22 } : Room) [.ref (z + 71), .int x0, .int x1] z (ctM G z (ctB G z β' b') σ) N' (some (.int r)) (ctM G z (ctB G z β' b') σ') N' ∧ Inv (t + 1) β' b' N' σ') (S16 : ∀ (t : Nat) (β : BS) (b : Nat → va_E) (N : Nat) (σ : MS), t < 512 → Inv t β b N σ → ∀ (x0 x1 : Int32), ∃ (β' : BS) (b' : Nat → va_E) (N' : Nat) (σ' : MS) (r : Int32), Ct G l yX10_told cX10_told 3 (some .int) ({ frames := 6, cells := 0, slots := 0, locals := 166 } : Room) [.ref (z + 0), .int x0, .int x1] z (ctB G z β (ctM G z b σ)) N (some (.int r)) (ctB G z β' (ctM G z b' σ)) N' ∧ Ct G l yX11_told cX11_told 5 (some .int) ({ frames := 9, cells := 0, slots := 0, locals := 212 } : Room) [.ref (z + 71), .int x0, .int x1] z (ctM G z (ctB G z β' b') σ) N' (some (.int r)) (ctM G z (ctB G z β' b') σ') N' ∧ Inv (t + 1) β' b' N' σ') (hEnd : ∀ (ct : Nat → va_E) (N k n : Nat) (lv : List (Nat × Value)), k ≤ 600000 → n ≤ 7302250 → J G p l e room_1 s m args below meth c z 8 Q ct N k n 768 lv []) : ∀ (n t : Nat) (β : BS) (b : Nat → va_E) (N : Nat) (σ : MS), t ≤ 512 → 513 ≤ t + n → Inv t β b N σ → J G p l e room_1 s m args below meth c z 8 Q (ctB G z β (ctM G z b σ)) N (86 + 5 * t) (237118 + 44 * t) 18 [(0, .ref bs), (1, .ref (z + 0)), (2, .ref (z + 71)), (3, .int (nI (6 * t)))] [] := by
  intro n
  induction n with
  | zero => intro t β b N σ h1 h2; exact absurd h2 (by omega)
  | succ n ih =>
      intro t β b N σ ht hn hI
      have hN := hInvN _ _ _ _ _ hI
      refine j_iload_n C dL_law_18 3 rfl rfl ?_
      refine j_aload_n C dL_law_19 0 rfl rfl ?_
      refine j_slen C hX hbz dL_law_20 ?_
      refine j_bipush (v := 6) C dL_law_21 (by decide) ?_
      refine j_isub C dL_law_23 ?_
      by_cases hx9 : nI L - 6 < nI (6 * t)
      · refine j_icmp_gt C 768 (icmp_t hx9) dL_law_24 (by decide) (fun _ => ?_) (fun h => by cases h)
        exact hEnd _ _ _ _ _ (by omega) (by omega)
      have hmore := lw_more hL ht hx9
      refine j_icmp_gt C 768 (icmp_f hx9) dL_law_24 (by decide) (fun h => by cases h) (fun _ => ?_)
      have ht5 : t < 512 := by omega
      have NX : ∀ (β : BS) (b : Nat → va_E) (N : Nat) (σ : MS) (k n : Nat) (lv9 : List (Nat × Value)), Inv (t + 1) β b N σ → k ≤ 86 + 5 * t + 5 → n ≤ 237118 + 44 * t + 44 → (lv9 = [(0, .ref bs), (1, .ref (z + 0)), (2, .ref (z + 71)), (3, .int (nI (6 * t)))] ∨ ∃ r, lv9 = (6, .double r) :: (4, .double r) :: [(0, .ref bs), (1, .ref (z + 0)), (2, .ref (z + 71)), (3, .int (nI (6 * t)))]) → J G p l e room_1 s m args below meth c z 8 Q (ctB G z β (ctM G z b σ)) N k n 762 lv9 [] := by
        intro β b N σ k n lv9 hI hk hn9 hl9
        have K : J G p l e room_1 s m args below meth c z 8 Q (ctB G z β (ctM G z b σ)) N k n 762 [(0, .ref bs), (1, .ref (z + 0)), (2, .ref (z + 71)), (3, .int (nI (6 * t)))] [] := by
          refine j_iinc C [(3, .int (nI (6 * (t + 1)))), (0, .ref bs), (1, .ref (z + 0)), (2, .ref (z + 71))] dL_law_762 3 rfl ?_ (by decide) rfl ?_
          · show nI (6 * t) + nI 6 = _
            rw [nI_add, Nat.mul_succ]
          refine j_goto C 18 dL_law_765 (by decide) ?_
          refine j_wide (k := 86 + 5 * (t + 1)) (n := 237118 + 44 * (t + 1)) (by omega) (by omega) ?_
          exact j_re [1, 2, 3, 0] rfl (ih (t + 1) β b N σ (by omega) (by omega) hI)
        rcases hl9 with rfl | ⟨r, rfl⟩
        · exact K
        · exact j_re [2, 3, 4, 5] rfl K
      refine j_aload_n C dL_law_27 0 rfl rfl ?_
      refine j_iload_n C dL_law_28 3 rfl rfl ?_
      refine j_sld C hX hbz (6 * t) rfl (by omega) hL dL_law_29 ?_
      refine j_bipush (v := 31) C dL_law_30 (by decide) ?_
      refine j_iand C dL_law_32 ?_
      generalize xs (6 * t) &&& 31 = x9
      by_cases e9_0 : x9 = 0
      · subst e9_0
        refine j_tableIn (off := 83) C 116 dL_law_33 (by decide) (by decide) rfl (by decide) ?_
        refine j_aload_n C dL_law_116 1 rfl rfl ?_
        refine j_aload_n C dL_law_117 0 rfl rfl ?_
        refine j_iload_n C dL_law_118 3 rfl rfl ?_
        refine j_iconst (v := 1) C dL_law_119 (by decide) ?_
        refine j_iadd C dL_law_120 ?_
        refine j_sld C hX hbz (6 * t + 1) (nI_add _ 1) (by omega) hL dL_law_121 ?_
        refine j_aload_n C dL_law_122 0 rfl rfl ?_
        refine j_iload_n C dL_law_123 3 rfl rfl ?_
        refine j_iconst (v := 2) C dL_law_124 (by decide) ?_
        refine j_iadd C dL_law_125 ?_
        refine j_sld C hX hbz (6 * t + 2) (nI_add _ 2) (by omega) hL dL_law_126 ?_
        refine j_aload_n C dL_law_127 0 rfl rfl ?_
        refine j_iload_n C dL_law_128 3 rfl rfl ?_
        refine j_iconst (v := 3) C dL_law_129 (by decide) ?_
        refine j_iadd C dL_law_130 ?_
        refine j_sld C hX hbz (6 * t + 3) (nI_add _ 3) (by omega) hL dL_law_131 ?_
        refine j_aload_n C dL_law_132 0 rfl rfl ?_
        refine j_iload_n C dL_law_133 3 rfl rfl ?_
        refine j_iconst (v := 4) C dL_law_134 (by decide) ?_
        refine j_iadd C dL_law_135 ?_
        refine j_sld C hX hbz (6 * t + 4) (nI_add _ 4) (by omega) hL dL_law_136 ?_
        obtain ⟨β1, b1, N1, σ1, r9, hC9, hM9, hI9⟩ := S0 t β b N σ ht5 hI (xs (6 * t + 1)) (xs (6 * t + 2)) (xs (6 * t + 3)) (xs (6 * t + 4))
        have hN1 := hInvN _ _ _ _ _ hI9
        refine j_callV C [.int (xs (6 * t + 1)), .int (xs (6 * t + 2)), .int (xs (6 * t + 3)), .int (xs (6 * t + 4))] hC9 (by omega) cb_0 rfl q1_155 q1_1 q1_153 q1_154 q1_152 hd_X10_set rfl dL_law_137 rfl (Nat.le_of_ble_eq_true rfl) ⟨(Nat.le_of_ble_eq_true rfl), (Nat.le_of_ble_eq_true rfl)⟩ ⟨(by show 86 + 5 * t + 1 ≤ 600000; omega), (by show 237118 + 44 * t + 6 ≤ 7302250; omega)⟩ (j_ct ctBM ?_)
        refine j_aload_n C dL_law_140 2 rfl rfl ?_
        refine j_aload_n C dL_law_141 0 rfl rfl ?_
        refine j_iload_n C dL_law_142 3 rfl rfl ?_
        refine j_iconst (v := 1) C dL_law_143 (by decide) ?_
        refine j_iadd C dL_law_144 ?_
        refine j_sld C hX hbz (6 * t + 1) (nI_add _ 1) (by omega) hL dL_law_145 ?_
        refine j_aload_n C dL_law_146 0 rfl rfl ?_
        refine j_iload_n C dL_law_147 3 rfl rfl ?_
        refine j_iconst (v := 2) C dL_law_148 (by decide) ?_
        refine j_iadd C dL_law_149 ?_
        refine j_sld C hX hbz (6 * t + 2) (nI_add _ 2) (by omega) hL dL_law_150 ?_
        refine j_aload_n C dL_law_151 0 rfl rfl ?_
        refine j_iload_n C dL_law_152 3 rfl rfl ?_
        refine j_iconst (v := 3) C dL_law_153 (by decide) ?_
        refine j_iadd C dL_law_154 ?_
        refine j_sld C hX hbz (6 * t + 3) (nI_add _ 3) (by omega) hL dL_law_155 ?_
        refine j_aload_n C dL_law_156 0 rfl rfl ?_
        refine j_iload_n C dL_law_157 3 rfl rfl ?_
        refine j_iconst (v := 4) C dL_law_158 (by decide) ?_
        refine j_iadd C dL_law_159 ?_
        refine j_sld C hX hbz (6 * t + 4) (nI_add _ 4) (by omega) hL dL_law_160 ?_
        refine j_callV C [.int (xs (6 * t + 1)), .int (xs (6 * t + 2)), .int (xs (6 * t + 3)), .int (xs (6 * t + 4))] hM9 (by omega) cq_obj rfl q3_169 q1_6 q3_167 q3_168 q3_166 hd_X11_set rfl dL_law_161 rfl (Nat.le_of_ble_eq_true rfl) ⟨(Nat.le_of_ble_eq_true rfl), (Nat.le_of_ble_eq_true rfl)⟩ ⟨(by show 86 + 5 * t + 1 + 0 ≤ 600000; omega), (by show 237118 + 44 * t + 6 + 0 ≤ 7302250; omega)⟩ (j_ct ctBM.symm ?_)
        exact j_icmp_eq C 762 (icmp_t rfl) dL_law_164 (by decide) (fun _ => (NX β1 b1 N1 σ1 _ _ _ hI9 (by show 86 + 5 * t + 1 + 0 ≤ _; omega) (by show 237118 + 44 * t + 6 + 0 ≤ _; omega) (Or.inl rfl))) (fun h => by cases h)
      by_cases e9_1 : x9 = 1
      · subst e9_1
        refine j_tableIn (off := 136) C 169 dL_law_33 (by decide) (by decide) rfl (by decide) ?_
        refine j_aload_n C dL_law_169 1 rfl rfl ?_
        refine j_aload_n C dL_law_170 0 rfl rfl ?_
        refine j_iload_n C dL_law_171 3 rfl rfl ?_
        refine j_iconst (v := 1) C dL_law_172 (by decide) ?_
        refine j_iadd C dL_law_173 ?_
        refine j_sld C hX hbz (6 * t + 1) (nI_add _ 1) (by omega) hL dL_law_174 ?_
        refine j_aload_n C dL_law_175 0 rfl rfl ?_
        refine j_iload_n C dL_law_176 3 rfl rfl ?_
        refine j_iconst (v := 2) C dL_law_177 (by decide) ?_
        refine j_iadd C dL_law_178 ?_
        refine j_sld C hX hbz (6 * t + 2) (nI_add _ 2) (by omega) hL dL_law_179 ?_
        refine j_aload_n C dL_law_180 0 rfl rfl ?_
        refine j_iload_n C dL_law_181 3 rfl rfl ?_
        refine j_iconst (v := 3) C dL_law_182 (by decide) ?_
        refine j_iadd C dL_law_183 ?_
        refine j_sld C hX hbz (6 * t + 3) (nI_add _ 3) (by omega) hL dL_law_184 ?_
        obtain ⟨β1, b1, N1, σ1, r9, hC9, hM9, hI9⟩ := S1 t β b N σ ht5 hI (xs (6 * t + 1)) (xs (6 * t + 2)) (xs (6 * t + 3))
        have hN1 := hInvN _ _ _ _ _ hI9
        refine j_callV C [.int (xs (6 * t + 1)), .int (xs (6 * t + 2)), .int (xs (6 * t + 3))] hC9 (by omega) cb_0 rfl q1_237 q1_1 q1_235 q1_236 q1_234 hd_X10_special rfl dL_law_185 rfl (Nat.le_of_ble_eq_true rfl) ⟨(Nat.le_of_ble_eq_true rfl), (Nat.le_of_ble_eq_true rfl)⟩ ⟨(by show 86 + 5 * t + 1 ≤ 600000; omega), (by show 237118 + 44 * t + 6 ≤ 7302250; omega)⟩ (j_ct ctBM ?_)
        refine j_aload_n C dL_law_188 2 rfl rfl ?_
        refine j_aload_n C dL_law_189 0 rfl rfl ?_
        refine j_iload_n C dL_law_190 3 rfl rfl ?_
        refine j_iconst (v := 1) C dL_law_191 (by decide) ?_
        refine j_iadd C dL_law_192 ?_
        refine j_sld C hX hbz (6 * t + 1) (nI_add _ 1) (by omega) hL dL_law_193 ?_
        refine j_aload_n C dL_law_194 0 rfl rfl ?_
        refine j_iload_n C dL_law_195 3 rfl rfl ?_
        refine j_iconst (v := 2) C dL_law_196 (by decide) ?_
        refine j_iadd C dL_law_197 ?_
        refine j_sld C hX hbz (6 * t + 2) (nI_add _ 2) (by omega) hL dL_law_198 ?_
        refine j_aload_n C dL_law_199 0 rfl rfl ?_
        refine j_iload_n C dL_law_200 3 rfl rfl ?_
        refine j_iconst (v := 3) C dL_law_201 (by decide) ?_
        refine j_iadd C dL_law_202 ?_
        refine j_sld C hX hbz (6 * t + 3) (nI_add _ 3) (by omega) hL dL_law_203 ?_
        refine j_callV C [.int (xs (6 * t + 1)), .int (xs (6 * t + 2)), .int (xs (6 * t + 3))] hM9 (by omega) cq_obj rfl q3_199 q1_6 q3_197 q3_198 q3_196 hd_X11_special rfl dL_law_204 rfl (Nat.le_of_ble_eq_true rfl) ⟨(Nat.le_of_ble_eq_true rfl), (Nat.le_of_ble_eq_true rfl)⟩ ⟨(by show 86 + 5 * t + 1 + 0 ≤ 600000; omega), (by show 237118 + 44 * t + 6 + 0 ≤ 7302250; omega)⟩ (j_ct ctBM.symm ?_)
        exact j_icmp_eq C 762 (icmp_t rfl) dL_law_207 (by decide) (fun _ => (NX β1 b1 N1 σ1 _ _ _ hI9 (by show 86 + 5 * t + 1 + 0 ≤ _; omega) (by show 237118 + 44 * t + 6 + 0 ≤ _; omega) (Or.inl rfl))) (fun h => by cases h)
      by_cases e9_2 : x9 = 2
      · subst e9_2
        refine j_tableIn (off := 179) C 212 dL_law_33 (by decide) (by decide) rfl (by decide) ?_
        refine j_aload_n C dL_law_212 1 rfl rfl ?_
        refine j_aload_n C dL_law_213 0 rfl rfl ?_
        refine j_iload_n C dL_law_214 3 rfl rfl ?_
        refine j_iconst (v := 1) C dL_law_215 (by decide) ?_
        refine j_iadd C dL_law_216 ?_
        refine j_sld C hX hbz (6 * t + 1) (nI_add _ 1) (by omega) hL dL_law_217 ?_
        refine j_aload_n C dL_law_218 0 rfl rfl ?_
        refine j_iload_n C dL_law_219 3 rfl rfl ?_
        refine j_iconst (v := 2) C dL_law_220 (by decide) ?_
        refine j_iadd C dL_law_221 ?_
        refine j_sld C hX hbz (6 * t + 2) (nI_add _ 2) (by omega) hL dL_law_222 ?_
        refine j_aload_n C dL_law_223 0 rfl rfl ?_
        refine j_iload_n C dL_law_224 3 rfl rfl ?_
        refine j_iconst (v := 3) C dL_law_225 (by decide) ?_
        refine j_iadd C dL_law_226 ?_
        refine j_sld C hX hbz (6 * t + 3) (nI_add _ 3) (by omega) hL dL_law_227 ?_
        obtain ⟨β1, b1, N1, σ1, r9, hC9, hM9, hI9⟩ := S2 t β b N σ ht5 hI (xs (6 * t + 1)) (xs (6 * t + 2)) (xs (6 * t + 3))
        have hN1 := hInvN _ _ _ _ _ hI9
        refine j_callV C [.int (xs (6 * t + 1)), .int (xs (6 * t + 2)), .int (xs (6 * t + 3))] hC9 (by omega) cb_0 rfl q2_23 q1_1 q2_21 q2_22 q2_20 hd_X10_constant rfl dL_law_228 rfl (Nat.le_of_ble_eq_true rfl) ⟨(Nat.le_of_ble_eq_true rfl), (Nat.le_of_ble_eq_true rfl)⟩ ⟨(by show 86 + 5 * t + 1 ≤ 600000; omega), (by show 237118 + 44 * t + 6 ≤ 7302250; omega)⟩ (j_ct ctBM ?_)
        refine j_aload_n C dL_law_231 2 rfl rfl ?_
        refine j_aload_n C dL_law_232 0 rfl rfl ?_
        refine j_iload_n C dL_law_233 3 rfl rfl ?_
        refine j_iconst (v := 1) C dL_law_234 (by decide) ?_
        refine j_iadd C dL_law_235 ?_
        refine j_sld C hX hbz (6 * t + 1) (nI_add _ 1) (by omega) hL dL_law_236 ?_
        refine j_aload_n C dL_law_237 0 rfl rfl ?_
        refine j_iload_n C dL_law_238 3 rfl rfl ?_
        refine j_iconst (v := 2) C dL_law_239 (by decide) ?_
        refine j_iadd C dL_law_240 ?_
        refine j_sld C hX hbz (6 * t + 2) (nI_add _ 2) (by omega) hL dL_law_241 ?_
        refine j_aload_n C dL_law_242 0 rfl rfl ?_
        refine j_iload_n C dL_law_243 3 rfl rfl ?_
        refine j_iconst (v := 3) C dL_law_244 (by decide) ?_
        refine j_iadd C dL_law_245 ?_
        refine j_sld C hX hbz (6 * t + 3) (nI_add _ 3) (by omega) hL dL_law_246 ?_
        refine j_callV C [.int (xs (6 * t + 1)), .int (xs (6 * t + 2)), .int (xs (6 * t + 3))] hM9 (by omega) cq_obj rfl q3_214 q1_6 q3_212 q3_213 q3_211 hd_X11_constant rfl dL_law_247 rfl (Nat.le_of_ble_eq_true rfl) ⟨(Nat.le_of_ble_eq_true rfl), (Nat.le_of_ble_eq_true rfl)⟩ ⟨(by show 86 + 5 * t + 1 + 0 ≤ 600000; omega), (by show 237118 + 44 * t + 6 + 0 ≤ 7302250; omega)⟩ (j_ct ctBM.symm ?_)
        exact j_icmp_eq C 762 (icmp_t rfl) dL_law_250 (by decide) (fun _ => (NX β1 b1 N1 σ1 _ _ _ hI9 (by show 86 + 5 * t + 1 + 0 ≤ _; omega) (by show 237118 + 44 * t + 6 + 0 ≤ _; omega) (Or.inl rfl))) (fun h => by cases h)
      by_cases e9_3 : x9 = 3
      · subst e9_3
        refine j_tableIn (off := 222) C 255 dL_law_33 (by decide) (by decide) rfl (by decide) ?_
        refine j_aload_n C dL_law_255 1 rfl rfl ?_
        refine j_aload_n C dL_law_256 0 rfl rfl ?_
        refine j_iload_n C dL_law_257 3 rfl rfl ?_
        refine j_iconst (v := 1) C dL_law_258 (by decide) ?_
        refine j_iadd C dL_law_259 ?_
        refine j_sld C hX hbz (6 * t + 1) (nI_add _ 1) (by omega) hL dL_law_260 ?_
        refine j_aload_n C dL_law_261 0 rfl rfl ?_
        refine j_iload_n C dL_law_262 3 rfl rfl ?_
        refine j_iconst (v := 2) C dL_law_263 (by decide) ?_
        refine j_iadd C dL_law_264 ?_
        refine j_sld C hX hbz (6 * t + 2) (nI_add _ 2) (by omega) hL dL_law_265 ?_
        obtain ⟨β1, b1, N1, σ1, r9, hC9, hM9, hI9⟩ := S3 t β b N σ ht5 hI (xs (6 * t + 1)) (xs (6 * t + 2))
        have hN1 := hInvN _ _ _ _ _ hI9
        refine j_callV C [.int (xs (6 * t + 1)), .int (xs (6 * t + 2))] hC9 (by omega) cb_0 rfl q2_30 q1_1 q2_28 q2_29 q2_27 hd_X10_constantSpecial rfl dL_law_266 rfl (Nat.le_of_ble_eq_true rfl) ⟨(Nat.le_of_ble_eq_true rfl), (Nat.le_of_ble_eq_true rfl)⟩ ⟨(by show 86 + 5 * t + 1 ≤ 600000; omega), (by show 237118 + 44 * t + 6 ≤ 7302250; omega)⟩ (j_ct ctBM ?_)
        refine j_aload_n C dL_law_269 2 rfl rfl ?_
        refine j_aload_n C dL_law_270 0 rfl rfl ?_
        refine j_iload_n C dL_law_271 3 rfl rfl ?_
        refine j_iconst (v := 1) C dL_law_272 (by decide) ?_
        refine j_iadd C dL_law_273 ?_
        refine j_sld C hX hbz (6 * t + 1) (nI_add _ 1) (by omega) hL dL_law_274 ?_
        refine j_aload_n C dL_law_275 0 rfl rfl ?_
        refine j_iload_n C dL_law_276 3 rfl rfl ?_
        refine j_iconst (v := 2) C dL_law_277 (by decide) ?_
        refine j_iadd C dL_law_278 ?_
        refine j_sld C hX hbz (6 * t + 2) (nI_add _ 2) (by omega) hL dL_law_279 ?_
        refine j_callV C [.int (xs (6 * t + 1)), .int (xs (6 * t + 2))] hM9 (by omega) cq_obj rfl q3_218 q1_6 q3_216 q3_217 q3_215 hd_X11_constantSpecial rfl dL_law_280 rfl (Nat.le_of_ble_eq_true rfl) ⟨(Nat.le_of_ble_eq_true rfl), (Nat.le_of_ble_eq_true rfl)⟩ ⟨(by show 86 + 5 * t + 1 + 0 ≤ 600000; omega), (by show 237118 + 44 * t + 6 + 0 ≤ 7302250; omega)⟩ (j_ct ctBM.symm ?_)
        exact j_icmp_eq C 762 (icmp_t rfl) dL_law_283 (by decide) (fun _ => (NX β1 b1 N1 σ1 _ _ _ hI9 (by show 86 + 5 * t + 1 + 0 ≤ _; omega) (by show 237118 + 44 * t + 6 + 0 ≤ _; omega) (Or.inl rfl))) (fun h => by cases h)
      by_cases e9_4 : x9 = 4
      · subst e9_4
        refine j_tableIn (off := 255) C 288 dL_law_33 (by decide) (by decide) rfl (by decide) ?_
        refine j_aload_n C dL_law_288 1 rfl rfl ?_
        refine j_aload_n C dL_law_289 0 rfl rfl ?_
        refine j_iload_n C dL_law_290 3 rfl rfl ?_
        refine j_iconst (v := 1) C dL_law_291 (by decide) ?_
        refine j_iadd C dL_law_292 ?_
        refine j_sld C hX hbz (6 * t + 1) (nI_add _ 1) (by omega) hL dL_law_293 ?_
        refine j_aload_n C dL_law_294 0 rfl rfl ?_
        refine j_iload_n C dL_law_295 3 rfl rfl ?_
        refine j_iconst (v := 2) C dL_law_296 (by decide) ?_
        refine j_iadd C dL_law_297 ?_
        refine j_sld C hX hbz (6 * t + 2) (nI_add _ 2) (by omega) hL dL_law_298 ?_
        refine j_aload_n C dL_law_299 0 rfl rfl ?_
        refine j_iload_n C dL_law_300 3 rfl rfl ?_
        refine j_iconst (v := 3) C dL_law_301 (by decide) ?_
        refine j_iadd C dL_law_302 ?_
        refine j_sld C hX hbz (6 * t + 3) (nI_add _ 3) (by omega) hL dL_law_303 ?_
        refine j_aload_n C dL_law_304 0 rfl rfl ?_
        refine j_iload_n C dL_law_305 3 rfl rfl ?_
        refine j_iconst (v := 4) C dL_law_306 (by decide) ?_
        refine j_iadd C dL_law_307 ?_
        refine j_sld C hX hbz (6 * t + 4) (nI_add _ 4) (by omega) hL dL_law_308 ?_
        refine j_aload_n C dL_law_309 0 rfl rfl ?_
        refine j_iload_n C dL_law_310 3 rfl rfl ?_
        refine j_iconst (v := 5) C dL_law_311 (by decide) ?_
        refine j_iadd C dL_law_312 ?_
        refine j_sld C hX hbz (6 * t + 5) (nI_add _ 5) (by omega) hL dL_law_313 ?_
        obtain ⟨β1, b1, N1, σ1, r9, hC9, hM9, hI9⟩ := S4 t β b N σ ht5 hI (xs (6 * t + 1)) (xs (6 * t + 2)) (xs (6 * t + 3)) (xs (6 * t + 4)) (xs (6 * t + 5))
        have hN1 := hInvN _ _ _ _ _ hI9
        refine j_callV C [.int (xs (6 * t + 1)), .int (xs (6 * t + 2)), .int (xs (6 * t + 3)), .int (xs (6 * t + 4)), .int (xs (6 * t + 5))] hC9 (by omega) cb_0 rfl q2_34 q1_1 q2_32 q2_33 q2_31 hd_X10_formula rfl dL_law_314 rfl (Nat.le_of_ble_eq_true rfl) ⟨(Nat.le_of_ble_eq_true rfl), (Nat.le_of_ble_eq_true rfl)⟩ ⟨(by show 86 + 5 * t + 5 ≤ 600000; omega), (by show 237118 + 44 * t + 44 ≤ 7302250; omega)⟩ (j_ct ctBM ?_)
        refine j_aload_n C dL_law_317 2 rfl rfl ?_
        refine j_aload_n C dL_law_318 0 rfl rfl ?_
        refine j_iload_n C dL_law_319 3 rfl rfl ?_
        refine j_iconst (v := 1) C dL_law_320 (by decide) ?_
        refine j_iadd C dL_law_321 ?_
        refine j_sld C hX hbz (6 * t + 1) (nI_add _ 1) (by omega) hL dL_law_322 ?_
        refine j_aload_n C dL_law_323 0 rfl rfl ?_
        refine j_iload_n C dL_law_324 3 rfl rfl ?_
        refine j_iconst (v := 2) C dL_law_325 (by decide) ?_
        refine j_iadd C dL_law_326 ?_
        refine j_sld C hX hbz (6 * t + 2) (nI_add _ 2) (by omega) hL dL_law_327 ?_
        refine j_aload_n C dL_law_328 0 rfl rfl ?_
        refine j_iload_n C dL_law_329 3 rfl rfl ?_
        refine j_iconst (v := 3) C dL_law_330 (by decide) ?_
        refine j_iadd C dL_law_331 ?_
        refine j_sld C hX hbz (6 * t + 3) (nI_add _ 3) (by omega) hL dL_law_332 ?_
        refine j_aload_n C dL_law_333 0 rfl rfl ?_
        refine j_iload_n C dL_law_334 3 rfl rfl ?_
        refine j_iconst (v := 4) C dL_law_335 (by decide) ?_
        refine j_iadd C dL_law_336 ?_
        refine j_sld C hX hbz (6 * t + 4) (nI_add _ 4) (by omega) hL dL_law_337 ?_
        refine j_aload_n C dL_law_338 0 rfl rfl ?_
        refine j_iload_n C dL_law_339 3 rfl rfl ?_
        refine j_iconst (v := 5) C dL_law_340 (by decide) ?_
        refine j_iadd C dL_law_341 ?_
        refine j_sld C hX hbz (6 * t + 5) (nI_add _ 5) (by omega) hL dL_law_342 ?_
        refine j_callV C [.int (xs (6 * t + 1)), .int (xs (6 * t + 2)), .int (xs (6 * t + 3)), .int (xs (6 * t + 4)), .int (xs (6 * t + 5))] hM9 (by omega) cq_obj rfl q3_222 q1_6 q3_220 q3_221 q3_219 hd_X11_formula rfl dL_law_343 rfl (Nat.le_of_ble_eq_true rfl) ⟨(Nat.le_of_ble_eq_true rfl), (Nat.le_of_ble_eq_true rfl)⟩ ⟨(by show 86 + 5 * t + 5 + 0 ≤ 600000; omega), (by show 237118 + 44 * t + 44 + 0 ≤ 7302250; omega)⟩ (j_ct ctBM.symm ?_)
        exact j_icmp_eq C 762 (icmp_t rfl) dL_law_346 (by decide) (fun _ => (NX β1 b1 N1 σ1 _ _ _ hI9 (by show 86 + 5 * t + 5 + 0 ≤ _; omega) (by show 237118 + 44 * t + 44 + 0 ≤ _; omega) (Or.inl rfl))) (fun h => by cases h)
      by_cases e9_5 : x9 = 5
      · subst e9_5
        refine j_tableIn (off := 318) C 351 dL_law_33 (by decide) (by decide) rfl (by decide) ?_
        refine j_aload_n C dL_law_351 1 rfl rfl ?_
        refine j_aload_n C dL_law_352 0 rfl rfl ?_
        refine j_iload_n C dL_law_353 3 rfl rfl ?_
        refine j_iconst (v := 1) C dL_law_354 (by decide) ?_
        refine j_iadd C dL_law_355 ?_
        refine j_sld C hX hbz (6 * t + 1) (nI_add _ 1) (by omega) hL dL_law_356 ?_
        obtain ⟨β1, b1, N1, σ1, r9, hC9, hM9, hI9⟩ := S5 t β b N σ ht5 hI (xs (6 * t + 1))
        have hN1 := hInvN _ _ _ _ _ hI9
        refine j_callV C [.int (xs (6 * t + 1))] hC9 (by omega) cb_0 rfl q2_70 q1_1 q2_68 q2_69 q2_67 hd_X10_input rfl dL_law_357 rfl (Nat.le_of_ble_eq_true rfl) ⟨(Nat.le_of_ble_eq_true rfl), (Nat.le_of_ble_eq_true rfl)⟩ ⟨(by show 86 + 5 * t + 5 ≤ 600000; omega), (by show 237118 + 44 * t + 44 ≤ 7302250; omega)⟩ (j_ct ctBM ?_)
        refine j_aload_n C dL_law_360 2 rfl rfl ?_
        refine j_aload_n C dL_law_361 0 rfl rfl ?_
        refine j_iload_n C dL_law_362 3 rfl rfl ?_
        refine j_iconst (v := 1) C dL_law_363 (by decide) ?_
        refine j_iadd C dL_law_364 ?_
        refine j_sld C hX hbz (6 * t + 1) (nI_add _ 1) (by omega) hL dL_law_365 ?_
        refine j_callV C [.int (xs (6 * t + 1))] hM9 (by omega) cq_obj rfl q3_226 q1_6 q3_224 q3_225 q3_223 hd_X11_input rfl dL_law_366 rfl (Nat.le_of_ble_eq_true rfl) ⟨(Nat.le_of_ble_eq_true rfl), (Nat.le_of_ble_eq_true rfl)⟩ ⟨(by show 86 + 5 * t + 5 + 0 ≤ 600000; omega), (by show 237118 + 44 * t + 44 + 0 ≤ 7302250; omega)⟩ (j_ct ctBM.symm ?_)
        exact j_icmp_eq C 762 (icmp_t rfl) dL_law_369 (by decide) (fun _ => (NX β1 b1 N1 σ1 _ _ _ hI9 (by show 86 + 5 * t + 5 + 0 ≤ _; omega) (by show 237118 + 44 * t + 44 + 0 ≤ _; omega) (Or.inl rfl))) (fun h => by cases h)
      by_cases e9_6 : x9 = 6
      · subst e9_6
        refine j_tableIn (off := 341) C 374 dL_law_33 (by decide) (by decide) rfl (by decide) ?_
        refine j_aload_n C dL_law_374 1 rfl rfl ?_
        by_cases hb9 : xs (6 * t + 2) = 0
        · refine j_aload_n C dL_law_375 0 rfl rfl ?_
          refine j_iload_n C dL_law_376 3 rfl rfl ?_
          refine j_iconst (v := 1) C dL_law_377 (by decide) ?_
          refine j_iadd C dL_law_378 ?_
          refine j_sld C hX hbz (6 * t + 1) (nI_add _ 1) (by omega) hL dL_law_379 ?_
          refine j_aload_n C dL_law_380 0 rfl rfl ?_
          refine j_iload_n C dL_law_381 3 rfl rfl ?_
          refine j_iconst (v := 2) C dL_law_382 (by decide) ?_
          refine j_iadd C dL_law_383 ?_
          refine j_sld C hX hbz (6 * t + 2) (nI_add _ 2) (by omega) hL dL_law_384 ?_
          refine j_if_eq C 392 (icmp_t hb9) dL_law_385 (by decide) (fun _ => ?_) (fun h => by cases h)
          refine j_iconst (v := 0) C dL_law_392 (by decide) ?_
          obtain ⟨β1, b1, N1, σ1, r9, hC9, hM9, hI9⟩ := S6 t β b N σ ht5 hI (xs (6 * t + 1)) 0 (Or.inl rfl)
          have hN1 := hInvN _ _ _ _ _ hI9
          refine j_callV C [.int (xs (6 * t + 1)), .int (0)] hC9 (by omega) cb_0 rfl q2_230 q1_1 q2_228 q2_229 q2_227 hd_X10_width rfl dL_law_393 rfl (Nat.le_of_ble_eq_true rfl) ⟨(Nat.le_of_ble_eq_true rfl), (Nat.le_of_ble_eq_true rfl)⟩ ⟨(by show 86 + 5 * t + 5 ≤ 600000; omega), (by show 237118 + 44 * t + 44 ≤ 7302250; omega)⟩ (j_ct ctBM ?_)
          refine j_aload_n C dL_law_396 2 rfl rfl ?_
          refine j_aload_n C dL_law_397 0 rfl rfl ?_
          refine j_iload_n C dL_law_398 3 rfl rfl ?_
          refine j_iconst (v := 1) C dL_law_399 (by decide) ?_
          refine j_iadd C dL_law_400 ?_
          refine j_sld C hX hbz (6 * t + 1) (nI_add _ 1) (by omega) hL dL_law_401 ?_
          refine j_aload_n C dL_law_402 0 rfl rfl ?_
          refine j_iload_n C dL_law_403 3 rfl rfl ?_
          refine j_iconst (v := 2) C dL_law_404 (by decide) ?_
          refine j_iadd C dL_law_405 ?_
          refine j_sld C hX hbz (6 * t + 2) (nI_add _ 2) (by omega) hL dL_law_406 ?_
          refine j_if_eq C 414 (icmp_t hb9) dL_law_407 (by decide) (fun _ => ?_) (fun h => by cases h)
          refine j_iconst (v := 0) C dL_law_414 (by decide) ?_
          refine j_callV C [.int (xs (6 * t + 1)), .int (0)] hM9 (by omega) cq_obj rfl q4_97 q1_6 q4_95 q4_96 q4_94 hd_X11_width rfl dL_law_415 rfl (Nat.le_of_ble_eq_true rfl) ⟨(Nat.le_of_ble_eq_true rfl), (Nat.le_of_ble_eq_true rfl)⟩ ⟨(by show 86 + 5 * t + 5 + 0 ≤ 600000; omega), (by show 237118 + 44 * t + 44 + 0 ≤ 7302250; omega)⟩ (j_ct ctBM.symm ?_)
          exact j_icmp_eq C 762 (icmp_t rfl) dL_law_418 (by decide) (fun _ => (NX β1 b1 N1 σ1 _ _ _ hI9 (by show 86 + 5 * t + 5 + 0 ≤ _; omega) (by show 237118 + 44 * t + 44 + 0 ≤ _; omega) (Or.inl rfl))) (fun h => by cases h)
        refine j_aload_n C dL_law_375 0 rfl rfl ?_
        refine j_iload_n C dL_law_376 3 rfl rfl ?_
        refine j_iconst (v := 1) C dL_law_377 (by decide) ?_
        refine j_iadd C dL_law_378 ?_
        refine j_sld C hX hbz (6 * t + 1) (nI_add _ 1) (by omega) hL dL_law_379 ?_
        refine j_aload_n C dL_law_380 0 rfl rfl ?_
        refine j_iload_n C dL_law_381 3 rfl rfl ?_
        refine j_iconst (v := 2) C dL_law_382 (by decide) ?_
        refine j_iadd C dL_law_383 ?_
        refine j_sld C hX hbz (6 * t + 2) (nI_add _ 2) (by omega) hL dL_law_384 ?_
        refine j_if_eq C 392 (icmp_f hb9) dL_law_385 (by decide) (fun h => by cases h) (fun _ => ?_)
        refine j_iconst (v := 1) C dL_law_388 (by decide) ?_
        refine j_goto C 393 dL_law_389 (by decide) ?_
        obtain ⟨β1, b1, N1, σ1, r9, hC9, hM9, hI9⟩ := S6 t β b N σ ht5 hI (xs (6 * t + 1)) 1 (Or.inr rfl)
        have hN1 := hInvN _ _ _ _ _ hI9
        refine j_callV C [.int (xs (6 * t + 1)), .int (1)] hC9 (by omega) cb_0 rfl q2_230 q1_1 q2_228 q2_229 q2_227 hd_X10_width rfl dL_law_393 rfl (Nat.le_of_ble_eq_true rfl) ⟨(Nat.le_of_ble_eq_true rfl), (Nat.le_of_ble_eq_true rfl)⟩ ⟨(by show 86 + 5 * t + 5 ≤ 600000; omega), (by show 237118 + 44 * t + 44 ≤ 7302250; omega)⟩ (j_ct ctBM ?_)
        refine j_aload_n C dL_law_396 2 rfl rfl ?_
        refine j_aload_n C dL_law_397 0 rfl rfl ?_
        refine j_iload_n C dL_law_398 3 rfl rfl ?_
        refine j_iconst (v := 1) C dL_law_399 (by decide) ?_
        refine j_iadd C dL_law_400 ?_
        refine j_sld C hX hbz (6 * t + 1) (nI_add _ 1) (by omega) hL dL_law_401 ?_
        refine j_aload_n C dL_law_402 0 rfl rfl ?_
        refine j_iload_n C dL_law_403 3 rfl rfl ?_
        refine j_iconst (v := 2) C dL_law_404 (by decide) ?_
        refine j_iadd C dL_law_405 ?_
        refine j_sld C hX hbz (6 * t + 2) (nI_add _ 2) (by omega) hL dL_law_406 ?_
        refine j_if_eq C 414 (icmp_f hb9) dL_law_407 (by decide) (fun h => by cases h) (fun _ => ?_)
        refine j_iconst (v := 1) C dL_law_410 (by decide) ?_
        refine j_goto C 415 dL_law_411 (by decide) ?_
        refine j_callV C [.int (xs (6 * t + 1)), .int (1)] hM9 (by omega) cq_obj rfl q4_97 q1_6 q4_95 q4_96 q4_94 hd_X11_width rfl dL_law_415 rfl (Nat.le_of_ble_eq_true rfl) ⟨(Nat.le_of_ble_eq_true rfl), (Nat.le_of_ble_eq_true rfl)⟩ ⟨(by show 86 + 5 * t + 5 + 0 ≤ 600000; omega), (by show 237118 + 44 * t + 44 + 0 ≤ 7302250; omega)⟩ (j_ct ctBM.symm ?_)
        exact j_icmp_eq C 762 (icmp_t rfl) dL_law_418 (by decide) (fun _ => (NX β1 b1 N1 σ1 _ _ _ hI9 (by show 86 + 5 * t + 5 + 0 ≤ _; omega) (by show 237118 + 44 * t + 44 + 0 ≤ _; omega) (Or.inl rfl))) (fun h => by cases h)
      by_cases e9_7 : x9 = 7
      · subst e9_7
        refine j_tableIn (off := 390) C 423 dL_law_33 (by decide) (by decide) rfl (by decide) ?_
        refine j_aload_n C dL_law_423 1 rfl rfl ?_
        obtain ⟨β1, b1, N1, σ1, r9, hC9, hM9, hI9⟩ := S7 t β b N σ ht5 hI
        have hN1 := hInvN _ _ _ _ _ hI9
        refine j_callV C [] hC9 (by omega) cb_0 rfl q2_234 q1_1 q2_232 q2_233 q2_231 hd_X10_back rfl dL_law_424 rfl (Nat.le_of_ble_eq_true rfl) ⟨(Nat.le_of_ble_eq_true rfl), (Nat.le_of_ble_eq_true rfl)⟩ ⟨(by show 86 + 5 * t + 0 ≤ 600000; omega), (by show 237118 + 44 * t + 0 ≤ 7302250; omega)⟩ (j_ct ctBM ?_)
        refine j_aload_n C dL_law_427 2 rfl rfl ?_
        refine j_callV C [] hM9 (by omega) cq_obj rfl q3_165 q1_6 q3_163 q3_164 q3_162 hd_X11_back rfl dL_law_428 rfl (Nat.le_of_ble_eq_true rfl) ⟨(Nat.le_of_ble_eq_true rfl), (Nat.le_of_ble_eq_true rfl)⟩ ⟨(by show 86 + 5 * t + 0 + 0 ≤ 600000; omega), (by show 237118 + 44 * t + 0 + 0 ≤ 7302250; omega)⟩ (j_ct ctBM.symm ?_)
        exact j_icmp_eq C 762 (icmp_t rfl) dL_law_431 (by decide) (fun _ => (NX β1 b1 N1 σ1 _ _ _ hI9 (by show 86 + 5 * t + 0 + 0 ≤ _; omega) (by show 237118 + 44 * t + 0 + 0 ≤ _; omega) (Or.inl rfl))) (fun h => by cases h)
      by_cases e9_8 : x9 = 8
      · subst e9_8
        refine j_tableIn (off := 403) C 436 dL_law_33 (by decide) (by decide) rfl (by decide) ?_
        refine j_aload_n C dL_law_436 1 rfl rfl ?_
        refine j_aload_n C dL_law_437 0 rfl rfl ?_
        refine j_iload_n C dL_law_438 3 rfl rfl ?_
        refine j_iconst (v := 1) C dL_law_439 (by decide) ?_
        refine j_iadd C dL_law_440 ?_
        refine j_sld C hX hbz (6 * t + 1) (nI_add _ 1) (by omega) hL dL_law_441 ?_
        refine j_aload_n C dL_law_442 0 rfl rfl ?_
        refine j_iload_n C dL_law_443 3 rfl rfl ?_
        refine j_iconst (v := 2) C dL_law_444 (by decide) ?_
        refine j_iadd C dL_law_445 ?_
        refine j_sld C hX hbz (6 * t + 2) (nI_add _ 2) (by omega) hL dL_law_446 ?_
        refine j_aload_n C dL_law_447 0 rfl rfl ?_
        refine j_iload_n C dL_law_448 3 rfl rfl ?_
        refine j_iconst (v := 3) C dL_law_449 (by decide) ?_
        refine j_iadd C dL_law_450 ?_
        refine j_sld C hX hbz (6 * t + 3) (nI_add _ 3) (by omega) hL dL_law_451 ?_
        obtain ⟨β1, b1, N1, σ1, r9, hC9, hM9, hI9⟩ := S8 t β b N σ ht5 hI (xs (6 * t + 1)) (xs (6 * t + 2)) (xs (6 * t + 3))
        have hN1 := hInvN _ _ _ _ _ hI9
        refine j_callV C [.int (xs (6 * t + 1)), .int (xs (6 * t + 2)), .int (xs (6 * t + 3))] hC9 (by omega) cb_0 rfl q3_9 q1_1 q3_7 q3_8 q3_6 hd_X10_alarm rfl dL_law_452 rfl (Nat.le_of_ble_eq_true rfl) ⟨(Nat.le_of_ble_eq_true rfl), (Nat.le_of_ble_eq_true rfl)⟩ ⟨(by show 86 + 5 * t + 0 ≤ 600000; omega), (by show 237118 + 44 * t + 0 ≤ 7302250; omega)⟩ (j_ct ctBM ?_)
        refine j_aload_n C dL_law_455 2 rfl rfl ?_
        refine j_aload_n C dL_law_456 0 rfl rfl ?_
        refine j_iload_n C dL_law_457 3 rfl rfl ?_
        refine j_iconst (v := 1) C dL_law_458 (by decide) ?_
        refine j_iadd C dL_law_459 ?_
        refine j_sld C hX hbz (6 * t + 1) (nI_add _ 1) (by omega) hL dL_law_460 ?_
        refine j_aload_n C dL_law_461 0 rfl rfl ?_
        refine j_iload_n C dL_law_462 3 rfl rfl ?_
        refine j_iconst (v := 2) C dL_law_463 (by decide) ?_
        refine j_iadd C dL_law_464 ?_
        refine j_sld C hX hbz (6 * t + 2) (nI_add _ 2) (by omega) hL dL_law_465 ?_
        refine j_aload_n C dL_law_466 0 rfl rfl ?_
        refine j_iload_n C dL_law_467 3 rfl rfl ?_
        refine j_iconst (v := 3) C dL_law_468 (by decide) ?_
        refine j_iadd C dL_law_469 ?_
        refine j_sld C hX hbz (6 * t + 3) (nI_add _ 3) (by omega) hL dL_law_470 ?_
        refine j_callV C [.int (xs (6 * t + 1)), .int (xs (6 * t + 2)), .int (xs (6 * t + 3))] hM9 (by omega) cq_obj rfl q4_101 q1_6 q4_99 q4_100 q4_98 hd_X11_alarm rfl dL_law_471 rfl (Nat.le_of_ble_eq_true rfl) ⟨(Nat.le_of_ble_eq_true rfl), (Nat.le_of_ble_eq_true rfl)⟩ ⟨(by show 86 + 5 * t + 0 + 0 ≤ 600000; omega), (by show 237118 + 44 * t + 0 + 0 ≤ 7302250; omega)⟩ (j_ct ctBM.symm ?_)
        exact j_icmp_eq C 762 (icmp_t rfl) dL_law_474 (by decide) (fun _ => (NX β1 b1 N1 σ1 _ _ _ hI9 (by show 86 + 5 * t + 0 + 0 ≤ _; omega) (by show 237118 + 44 * t + 0 + 0 ≤ _; omega) (Or.inl rfl))) (fun h => by cases h)
      by_cases e9_9 : x9 = 9
      · subst e9_9
        refine j_tableIn (off := 446) C 479 dL_law_33 (by decide) (by decide) rfl (by decide) ?_
        refine j_aload_n C dL_law_479 1 rfl rfl ?_
        obtain ⟨β1, b1, N1, σ1, r9, hC9, hM9, hI9⟩ := S9 t β b N σ ht5 hI
        have hN1 := hInvN _ _ _ _ _ hI9
        refine j_callV C [] hC9 (by omega) cb_0 rfl q3_13 q1_1 q3_11 q3_12 q3_10 hd_X10_ring rfl dL_law_480 rfl (Nat.le_of_ble_eq_true rfl) ⟨(Nat.le_of_ble_eq_true rfl), (Nat.le_of_ble_eq_true rfl)⟩ ⟨(by show 86 + 5 * t + 0 ≤ 600000; omega), (by show 237118 + 44 * t + 0 ≤ 7302250; omega)⟩ (j_ct ctBM ?_)
        refine j_aload_n C dL_law_483 2 rfl rfl ?_
        refine j_callV C [] hM9 (by omega) cq_obj rfl q4_105 q1_6 q4_103 q4_104 q4_102 hd_X11_ring rfl dL_law_484 rfl (Nat.le_of_ble_eq_true rfl) ⟨(Nat.le_of_ble_eq_true rfl), (Nat.le_of_ble_eq_true rfl)⟩ ⟨(by show 86 + 5 * t + 0 + 0 ≤ 600000; omega), (by show 237118 + 44 * t + 0 + 0 ≤ 7302250; omega)⟩ (j_ct ctBM.symm ?_)
        exact j_icmp_eq C 762 (icmp_t rfl) dL_law_487 (by decide) (fun _ => (NX β1 b1 N1 σ1 _ _ _ hI9 (by show 86 + 5 * t + 0 + 0 ≤ _; omega) (by show 237118 + 44 * t + 0 + 0 ≤ _; omega) (Or.inl rfl))) (fun h => by cases h)
      by_cases e9_10 : x9 = 10
      · subst e9_10
        refine j_tableIn (off := 459) C 492 dL_law_33 (by decide) (by decide) rfl (by decide) ?_
        refine j_aload_n C dL_law_492 1 rfl rfl ?_
        refine j_aload_n C dL_law_493 0 rfl rfl ?_
        refine j_iload_n C dL_law_494 3 rfl rfl ?_
        refine j_iconst (v := 1) C dL_law_495 (by decide) ?_
        refine j_iadd C dL_law_496 ?_
        refine j_sld C hX hbz (6 * t + 1) (nI_add _ 1) (by omega) hL dL_law_497 ?_
        refine j_aload_n C dL_law_498 0 rfl rfl ?_
        refine j_iload_n C dL_law_499 3 rfl rfl ?_
        refine j_iconst (v := 2) C dL_law_500 (by decide) ?_
        refine j_iadd C dL_law_501 ?_
        refine j_sld C hX hbz (6 * t + 2) (nI_add _ 2) (by omega) hL dL_law_502 ?_
        obtain ⟨β1, b1, N1, σ1, r9, hC9, hM9, hI9⟩ := S10 t β b N σ ht5 hI (xs (6 * t + 1)) (xs (6 * t + 2))
        have hN1 := hInvN _ _ _ _ _ hI9
        refine j_callV C [.int (xs (6 * t + 1)), .int (xs (6 * t + 2))] hC9 (by omega) cb_0 rfl q3_32 q1_1 q3_30 q3_31 q3_29 hd_X10_reading rfl dL_law_503 rfl (Nat.le_of_ble_eq_true rfl) ⟨(Nat.le_of_ble_eq_true rfl), (Nat.le_of_ble_eq_true rfl)⟩ ⟨(by show 86 + 5 * t + 0 ≤ 600000; omega), (by show 237118 + 44 * t + 0 ≤ 7302250; omega)⟩ (j_ct ctBM ?_)
        refine j_dstore C [(4, .double r9), (0, .ref bs), (1, .ref (z + 0)), (2, .ref (z + 71)), (3, .int (nI (6 * t)))] dL_law_506 (by decide) rfl ?_
        refine j_aload_n C dL_law_508 3 rfl rfl ?_
        refine j_aload_n C dL_law_509 1 rfl rfl ?_
        refine j_iload_n C dL_law_510 4 rfl rfl ?_
        refine j_iconst (v := 1) C dL_law_511 (by decide) ?_
        refine j_iadd C dL_law_512 ?_
        refine j_sld C hX hbz (6 * t + 1) (nI_add _ 1) (by omega) hL dL_law_513 ?_
        refine j_aload_n C dL_law_514 1 rfl rfl ?_
        refine j_iload_n C dL_law_515 4 rfl rfl ?_
        refine j_iconst (v := 2) C dL_law_516 (by decide) ?_
        refine j_iadd C dL_law_517 ?_
        refine j_sld C hX hbz (6 * t + 2) (nI_add _ 2) (by omega) hL dL_law_518 ?_
        refine j_callV C [.int (xs (6 * t + 1)), .int (xs (6 * t + 2))] hM9 (by omega) cq_obj rfl q4_120 q1_6 q4_118 q4_119 q4_117 hd_X11_reading rfl dL_law_519 rfl (Nat.le_of_ble_eq_true rfl) ⟨(Nat.le_of_ble_eq_true rfl), (Nat.le_of_ble_eq_true rfl)⟩ ⟨(by show 86 + 5 * t + 0 + 0 ≤ 600000; omega), (by show 237118 + 44 * t + 0 + 0 ≤ 7302250; omega)⟩ (j_ct ctBM.symm ?_)
        refine j_dstore C [(6, .double r9), (4, .double r9), (0, .ref bs), (1, .ref (z + 0)), (2, .ref (z + 71)), (3, .int (nI (6 * t)))] dL_law_522 (by decide) rfl ?_
        refine j_dload C dL_law_524 1 rfl ?_
        refine j_dload C dL_law_526 0 rfl ?_
        refine j_dcmp C dL_law_528 ?_
        have GO : J G p l e room_1 s m args below meth c z 8 Q (ctB G z β1 (ctM G z b1 σ1)) N1 _ _ 550 [(6, .double r9), (4, .double r9), (0, .ref bs), (1, .ref (z + 0)), (2, .ref (z + 71)), (3, .int (nI (6 * t)))] [] := j_goto C 762 dL_law_550 (by decide) (NX β1 b1 N1 σ1 _ _ _ hI9 (by show 86 + 5 * t + 0 + 0 ≤ _; omega) (by show 237118 + 44 * t + 0 + 0 ≤ _; omega) (Or.inr ⟨r9, rfl⟩))
        by_cases hq9 : Op.cmpValue (FP.dcmp r9 r9) CmpOp.l = 0
        · exact j_if_eq C 550 (icmp_t hq9) dL_law_529 (by decide) (fun _ => GO) (fun h => by cases h)
        refine j_if_eq C 550 (icmp_f hq9) dL_law_529 (by decide) (fun h => by cases h) (fun _ => ?_)
        refine j_dload C dL_law_532 1 rfl ?_
        refine j_dload C dL_law_534 1 rfl ?_
        refine j_dcmp C dL_law_536 ?_
        refine j_if_eq C 548 (icmp_f hq9) dL_law_537 (by decide) (fun h => by cases h) (fun _ => ?_)
        refine j_dload C dL_law_540 0 rfl ?_
        refine j_dload C dL_law_542 0 rfl ?_
        refine j_dcmp C dL_law_544 ?_
        exact j_if_ne C 550 (a := some ()) (b := none) (r := ()) (if_neg hq9) dL_law_545 (by decide) (fun _ => GO) (fun h => by cases h)
      by_cases e9_11 : x9 = 11
      · subst e9_11
        refine j_tableIn (off := 520) C 553 dL_law_33 (by decide) (by decide) rfl (by decide) ?_
        refine j_aload_n C dL_law_553 1 rfl rfl ?_
        refine j_aload_n C dL_law_554 0 rfl rfl ?_
        refine j_iload_n C dL_law_555 3 rfl rfl ?_
        refine j_iconst (v := 1) C dL_law_556 (by decide) ?_
        refine j_iadd C dL_law_557 ?_
        refine j_sld C hX hbz (6 * t + 1) (nI_add _ 1) (by omega) hL dL_law_558 ?_
        refine j_aload_n C dL_law_559 0 rfl rfl ?_
        refine j_iload_n C dL_law_560 3 rfl rfl ?_
        refine j_iconst (v := 2) C dL_law_561 (by decide) ?_
        refine j_iadd C dL_law_562 ?_
        refine j_sld C hX hbz (6 * t + 2) (nI_add _ 2) (by omega) hL dL_law_563 ?_
        obtain ⟨β1, b1, N1, σ1, r9, hC9, hM9, hI9⟩ := S11 t β b N σ ht5 hI (xs (6 * t + 1)) (xs (6 * t + 2))
        have hN1 := hInvN _ _ _ _ _ hI9
        refine j_callV C [.int (xs (6 * t + 1)), .int (xs (6 * t + 2))] hC9 (by omega) cb_0 rfl q3_37 q1_1 q3_35 q3_36 q3_34 hd_X10_isBlank rfl dL_law_564 rfl (Nat.le_of_ble_eq_true rfl) ⟨(Nat.le_of_ble_eq_true rfl), (Nat.le_of_ble_eq_true rfl)⟩ ⟨(by show 86 + 5 * t + 0 ≤ 600000; omega), (by show 237118 + 44 * t + 0 ≤ 7302250; omega)⟩ (j_ct ctBM ?_)
        refine j_aload_n C dL_law_567 2 rfl rfl ?_
        refine j_aload_n C dL_law_568 0 rfl rfl ?_
        refine j_iload_n C dL_law_569 3 rfl rfl ?_
        refine j_iconst (v := 1) C dL_law_570 (by decide) ?_
        refine j_iadd C dL_law_571 ?_
        refine j_sld C hX hbz (6 * t + 1) (nI_add _ 1) (by omega) hL dL_law_572 ?_
        refine j_aload_n C dL_law_573 0 rfl rfl ?_
        refine j_iload_n C dL_law_574 3 rfl rfl ?_
        refine j_iconst (v := 2) C dL_law_575 (by decide) ?_
        refine j_iadd C dL_law_576 ?_
        refine j_sld C hX hbz (6 * t + 2) (nI_add _ 2) (by omega) hL dL_law_577 ?_
        refine j_callV C [.int (xs (6 * t + 1)), .int (xs (6 * t + 2))] hM9 (by omega) cq_obj rfl q4_128 q1_6 q4_126 q4_127 q4_125 hd_X11_isBlank rfl dL_law_578 rfl (Nat.le_of_ble_eq_true rfl) ⟨(Nat.le_of_ble_eq_true rfl), (Nat.le_of_ble_eq_true rfl)⟩ ⟨(by show 86 + 5 * t + 0 + 0 ≤ 600000; omega), (by show 237118 + 44 * t + 0 + 0 ≤ 7302250; omega)⟩ (j_ct ctBM.symm ?_)
        exact j_icmp_eq C 762 (icmp_t rfl) dL_law_581 (by decide) (fun _ => (NX β1 b1 N1 σ1 _ _ _ hI9 (by show 86 + 5 * t + 0 + 0 ≤ _; omega) (by show 237118 + 44 * t + 0 + 0 ≤ _; omega) (Or.inl rfl))) (fun h => by cases h)
      by_cases e9_12 : x9 = 12
      · subst e9_12
        refine j_tableIn (off := 553) C 586 dL_law_33 (by decide) (by decide) rfl (by decide) ?_
        refine j_aload_n C dL_law_586 1 rfl rfl ?_
        refine j_aload_n C dL_law_587 0 rfl rfl ?_
        refine j_iload_n C dL_law_588 3 rfl rfl ?_
        refine j_iconst (v := 1) C dL_law_589 (by decide) ?_
        refine j_iadd C dL_law_590 ?_
        refine j_sld C hX hbz (6 * t + 1) (nI_add _ 1) (by omega) hL dL_law_591 ?_
        refine j_aload_n C dL_law_592 0 rfl rfl ?_
        refine j_iload_n C dL_law_593 3 rfl rfl ?_
        refine j_iconst (v := 2) C dL_law_594 (by decide) ?_
        refine j_iadd C dL_law_595 ?_
        refine j_sld C hX hbz (6 * t + 2) (nI_add _ 2) (by omega) hL dL_law_596 ?_
        obtain ⟨β1, b1, N1, σ1, r9, hC9, hM9, hI9⟩ := S12 t β b N σ ht5 hI (xs (6 * t + 1)) (xs (6 * t + 2))
        have hN1 := hInvN _ _ _ _ _ hI9
        refine j_callV C [.int (xs (6 * t + 1)), .int (xs (6 * t + 2))] hC9 (by omega) cb_0 rfl q3_42 q1_1 q3_40 q3_41 q3_39 hd_X10_isMinus rfl dL_law_597 rfl (Nat.le_of_ble_eq_true rfl) ⟨(Nat.le_of_ble_eq_true rfl), (Nat.le_of_ble_eq_true rfl)⟩ ⟨(by show 86 + 5 * t + 0 ≤ 600000; omega), (by show 237118 + 44 * t + 0 ≤ 7302250; omega)⟩ (j_ct ctBM ?_)
        refine j_aload_n C dL_law_600 2 rfl rfl ?_
        refine j_aload_n C dL_law_601 0 rfl rfl ?_
        refine j_iload_n C dL_law_602 3 rfl rfl ?_
        refine j_iconst (v := 1) C dL_law_603 (by decide) ?_
        refine j_iadd C dL_law_604 ?_
        refine j_sld C hX hbz (6 * t + 1) (nI_add _ 1) (by omega) hL dL_law_605 ?_
        refine j_aload_n C dL_law_606 0 rfl rfl ?_
        refine j_iload_n C dL_law_607 3 rfl rfl ?_
        refine j_iconst (v := 2) C dL_law_608 (by decide) ?_
        refine j_iadd C dL_law_609 ?_
        refine j_sld C hX hbz (6 * t + 2) (nI_add _ 2) (by omega) hL dL_law_610 ?_
        refine j_callV C [.int (xs (6 * t + 1)), .int (xs (6 * t + 2))] hM9 (by omega) cq_obj rfl q4_132 q1_6 q4_130 q4_131 q4_129 hd_X11_isMinus rfl dL_law_611 rfl (Nat.le_of_ble_eq_true rfl) ⟨(Nat.le_of_ble_eq_true rfl), (Nat.le_of_ble_eq_true rfl)⟩ ⟨(by show 86 + 5 * t + 0 + 0 ≤ 600000; omega), (by show 237118 + 44 * t + 0 + 0 ≤ 7302250; omega)⟩ (j_ct ctBM.symm ?_)
        exact j_icmp_eq C 762 (icmp_t rfl) dL_law_614 (by decide) (fun _ => (NX β1 b1 N1 σ1 _ _ _ hI9 (by show 86 + 5 * t + 0 + 0 ≤ _; omega) (by show 237118 + 44 * t + 0 + 0 ≤ _; omega) (Or.inl rfl))) (fun h => by cases h)
      by_cases e9_13 : x9 = 13
      · subst e9_13
        refine j_tableIn (off := 586) C 619 dL_law_33 (by decide) (by decide) rfl (by decide) ?_
        refine j_aload_n C dL_law_619 1 rfl rfl ?_
        refine j_aload_n C dL_law_620 0 rfl rfl ?_
        refine j_iload_n C dL_law_621 3 rfl rfl ?_
        refine j_iconst (v := 1) C dL_law_622 (by decide) ?_
        refine j_iadd C dL_law_623 ?_
        refine j_sld C hX hbz (6 * t + 1) (nI_add _ 1) (by omega) hL dL_law_624 ?_
        refine j_aload_n C dL_law_625 0 rfl rfl ?_
        refine j_iload_n C dL_law_626 3 rfl rfl ?_
        refine j_iconst (v := 2) C dL_law_627 (by decide) ?_
        refine j_iadd C dL_law_628 ?_
        refine j_sld C hX hbz (6 * t + 2) (nI_add _ 2) (by omega) hL dL_law_629 ?_
        obtain ⟨β1, b1, N1, σ1, r9, hC9, hM9, hI9⟩ := S13 t β b N σ ht5 hI (xs (6 * t + 1)) (xs (6 * t + 2))
        have hN1 := hInvN _ _ _ _ _ hI9
        refine j_callV C [.int (xs (6 * t + 1)), .int (xs (6 * t + 2))] hC9 (by omega) cb_0 rfl q3_47 q1_1 q3_45 q3_46 q3_44 hd_X10_bits rfl dL_law_630 rfl (Nat.le_of_ble_eq_true rfl) ⟨(Nat.le_of_ble_eq_true rfl), (Nat.le_of_ble_eq_true rfl)⟩ ⟨(by show 86 + 5 * t + 0 ≤ 600000; omega), (by show 237118 + 44 * t + 0 ≤ 7302250; omega)⟩ (j_ct ctBM ?_)
        refine j_aload_n C dL_law_633 2 rfl rfl ?_
        refine j_aload_n C dL_law_634 0 rfl rfl ?_
        refine j_iload_n C dL_law_635 3 rfl rfl ?_
        refine j_iconst (v := 1) C dL_law_636 (by decide) ?_
        refine j_iadd C dL_law_637 ?_
        refine j_sld C hX hbz (6 * t + 1) (nI_add _ 1) (by omega) hL dL_law_638 ?_
        refine j_aload_n C dL_law_639 0 rfl rfl ?_
        refine j_iload_n C dL_law_640 3 rfl rfl ?_
        refine j_iconst (v := 2) C dL_law_641 (by decide) ?_
        refine j_iadd C dL_law_642 ?_
        refine j_sld C hX hbz (6 * t + 2) (nI_add _ 2) (by omega) hL dL_law_643 ?_
        refine j_callV C [.int (xs (6 * t + 1)), .int (xs (6 * t + 2))] hM9 (by omega) cq_obj rfl q4_136 q1_6 q4_134 q4_135 q4_133 hd_X11_bits rfl dL_law_644 rfl (Nat.le_of_ble_eq_true rfl) ⟨(Nat.le_of_ble_eq_true rfl), (Nat.le_of_ble_eq_true rfl)⟩ ⟨(by show 86 + 5 * t + 0 + 0 ≤ 600000; omega), (by show 237118 + 44 * t + 0 + 0 ≤ 7302250; omega)⟩ (j_ct ctBM.symm ?_)
        refine j_lcmp C dL_law_647 ?_
        exact j_if_eq C 762 (icmp_t (lg_self r9)) dL_law_648 (by decide) (fun _ => (NX β1 b1 N1 σ1 _ _ _ hI9 (by show 86 + 5 * t + 0 + 0 ≤ _; omega) (by show 237118 + 44 * t + 0 + 0 ≤ _; omega) (Or.inl rfl))) (fun h => by cases h)
      by_cases e9_14 : x9 = 14
      · subst e9_14
        refine j_tableIn (off := 620) C 653 dL_law_33 (by decide) (by decide) rfl (by decide) ?_
        refine j_aload_n C dL_law_653 1 rfl rfl ?_
        refine j_aload_n C dL_law_654 0 rfl rfl ?_
        refine j_iload_n C dL_law_655 3 rfl rfl ?_
        refine j_iconst (v := 1) C dL_law_656 (by decide) ?_
        refine j_iadd C dL_law_657 ?_
        refine j_sld C hX hbz (6 * t + 1) (nI_add _ 1) (by omega) hL dL_law_658 ?_
        refine j_aload_n C dL_law_659 0 rfl rfl ?_
        refine j_iload_n C dL_law_660 3 rfl rfl ?_
        refine j_iconst (v := 2) C dL_law_661 (by decide) ?_
        refine j_iadd C dL_law_662 ?_
        refine j_sld C hX hbz (6 * t + 2) (nI_add _ 2) (by omega) hL dL_law_663 ?_
        refine j_aload_n C dL_law_664 0 rfl rfl ?_
        refine j_iload_n C dL_law_665 3 rfl rfl ?_
        refine j_iconst (v := 3) C dL_law_666 (by decide) ?_
        refine j_iadd C dL_law_667 ?_
        refine j_sld C hX hbz (6 * t + 3) (nI_add _ 3) (by omega) hL dL_law_668 ?_
        obtain ⟨β1, b1, N1, σ1, r9, hC9, hM9, hI9⟩ := S14 t β b N σ ht5 hI (xs (6 * t + 1)) (xs (6 * t + 2)) (xs (6 * t + 3))
        have hN1 := hInvN _ _ _ _ _ hI9
        refine j_callV C [.int (xs (6 * t + 1)), .int (xs (6 * t + 2)), .int (xs (6 * t + 3))] hC9 (by omega) cb_0 rfl q3_65 q1_1 q3_63 q3_64 q3_62 hd_X10_compared rfl dL_law_669 rfl (Nat.le_of_ble_eq_true rfl) ⟨(Nat.le_of_ble_eq_true rfl), (Nat.le_of_ble_eq_true rfl)⟩ ⟨(by show 86 + 5 * t + 0 ≤ 600000; omega), (by show 237118 + 44 * t + 0 ≤ 7302250; omega)⟩ (j_ct ctBM ?_)
        refine j_aload_n C dL_law_672 2 rfl rfl ?_
        refine j_aload_n C dL_law_673 0 rfl rfl ?_
        refine j_iload_n C dL_law_674 3 rfl rfl ?_
        refine j_iconst (v := 1) C dL_law_675 (by decide) ?_
        refine j_iadd C dL_law_676 ?_
        refine j_sld C hX hbz (6 * t + 1) (nI_add _ 1) (by omega) hL dL_law_677 ?_
        refine j_aload_n C dL_law_678 0 rfl rfl ?_
        refine j_iload_n C dL_law_679 3 rfl rfl ?_
        refine j_iconst (v := 2) C dL_law_680 (by decide) ?_
        refine j_iadd C dL_law_681 ?_
        refine j_sld C hX hbz (6 * t + 2) (nI_add _ 2) (by omega) hL dL_law_682 ?_
        refine j_aload_n C dL_law_683 0 rfl rfl ?_
        refine j_iload_n C dL_law_684 3 rfl rfl ?_
        refine j_iconst (v := 3) C dL_law_685 (by decide) ?_
        refine j_iadd C dL_law_686 ?_
        refine j_sld C hX hbz (6 * t + 3) (nI_add _ 3) (by omega) hL dL_law_687 ?_
        refine j_callV C [.int (xs (6 * t + 1)), .int (xs (6 * t + 2)), .int (xs (6 * t + 3))] hM9 (by omega) cq_obj rfl q4_146 q1_6 q4_144 q4_145 q4_143 hd_X11_compared rfl dL_law_688 rfl (Nat.le_of_ble_eq_true rfl) ⟨(Nat.le_of_ble_eq_true rfl), (Nat.le_of_ble_eq_true rfl)⟩ ⟨(by show 86 + 5 * t + 0 + 0 ≤ 600000; omega), (by show 237118 + 44 * t + 0 + 0 ≤ 7302250; omega)⟩ (j_ct ctBM.symm ?_)
        exact j_icmp_eq C 762 (icmp_t rfl) dL_law_691 (by decide) (fun _ => (NX β1 b1 N1 σ1 _ _ _ hI9 (by show 86 + 5 * t + 0 + 0 ≤ _; omega) (by show 237118 + 44 * t + 0 + 0 ≤ _; omega) (Or.inl rfl))) (fun h => by cases h)
      by_cases e9_15 : x9 = 15
      · subst e9_15
        refine j_tableIn (off := 663) C 696 dL_law_33 (by decide) (by decide) rfl (by decide) ?_
        refine j_aload_n C dL_law_696 1 rfl rfl ?_
        refine j_aload_n C dL_law_697 0 rfl rfl ?_
        refine j_iload_n C dL_law_698 3 rfl rfl ?_
        refine j_iconst (v := 1) C dL_law_699 (by decide) ?_
        refine j_iadd C dL_law_700 ?_
        refine j_sld C hX hbz (6 * t + 1) (nI_add _ 1) (by omega) hL dL_law_701 ?_
        refine j_aload_n C dL_law_702 0 rfl rfl ?_
        refine j_iload_n C dL_law_703 3 rfl rfl ?_
        refine j_iconst (v := 2) C dL_law_704 (by decide) ?_
        refine j_iadd C dL_law_705 ?_
        refine j_sld C hX hbz (6 * t + 2) (nI_add _ 2) (by omega) hL dL_law_706 ?_
        obtain ⟨β1, b1, N1, σ1, r9, hC9, hM9, hI9⟩ := S15 t β b N σ ht5 hI (xs (6 * t + 1)) (xs (6 * t + 2))
        have hN1 := hInvN _ _ _ _ _ hI9
        refine j_callV C [.int (xs (6 * t + 1)), .int (xs (6 * t + 2))] hC9 (by omega) cb_0 rfl q3_69 q1_1 q3_67 q3_68 q3_66 hd_X10_alarmed rfl dL_law_707 rfl (Nat.le_of_ble_eq_true rfl) ⟨(Nat.le_of_ble_eq_true rfl), (Nat.le_of_ble_eq_true rfl)⟩ ⟨(by show 86 + 5 * t + 0 ≤ 600000; omega), (by show 237118 + 44 * t + 0 ≤ 7302250; omega)⟩ (j_ct ctBM ?_)
        refine j_aload_n C dL_law_710 2 rfl rfl ?_
        refine j_aload_n C dL_law_711 0 rfl rfl ?_
        refine j_iload_n C dL_law_712 3 rfl rfl ?_
        refine j_iconst (v := 1) C dL_law_713 (by decide) ?_
        refine j_iadd C dL_law_714 ?_
        refine j_sld C hX hbz (6 * t + 1) (nI_add _ 1) (by omega) hL dL_law_715 ?_
        refine j_aload_n C dL_law_716 0 rfl rfl ?_
        refine j_iload_n C dL_law_717 3 rfl rfl ?_
        refine j_iconst (v := 2) C dL_law_718 (by decide) ?_
        refine j_iadd C dL_law_719 ?_
        refine j_sld C hX hbz (6 * t + 2) (nI_add _ 2) (by omega) hL dL_law_720 ?_
        refine j_callV C [.int (xs (6 * t + 1)), .int (xs (6 * t + 2))] hM9 (by omega) cq_obj rfl q4_116 q1_6 q4_114 q4_115 q4_113 hd_X11_alarmed rfl dL_law_721 rfl (Nat.le_of_ble_eq_true rfl) ⟨(Nat.le_of_ble_eq_true rfl), (Nat.le_of_ble_eq_true rfl)⟩ ⟨(by show 86 + 5 * t + 0 + 0 ≤ 600000; omega), (by show 237118 + 44 * t + 0 + 0 ≤ 7302250; omega)⟩ (j_ct ctBM.symm ?_)
        exact j_icmp_eq C 762 (icmp_t rfl) dL_law_724 (by decide) (fun _ => (NX β1 b1 N1 σ1 _ _ _ hI9 (by show 86 + 5 * t + 0 + 0 ≤ _; omega) (by show 237118 + 44 * t + 0 + 0 ≤ _; omega) (Or.inl rfl))) (fun h => by cases h)
      by_cases e9_16 : x9 = 16
      · subst e9_16
        refine j_tableIn (off := 696) C 729 dL_law_33 (by decide) (by decide) rfl (by decide) ?_
        refine j_aload_n C dL_law_729 1 rfl rfl ?_
        refine j_aload_n C dL_law_730 0 rfl rfl ?_
        refine j_iload_n C dL_law_731 3 rfl rfl ?_
        refine j_iconst (v := 1) C dL_law_732 (by decide) ?_
        refine j_iadd C dL_law_733 ?_
        refine j_sld C hX hbz (6 * t + 1) (nI_add _ 1) (by omega) hL dL_law_734 ?_
        refine j_aload_n C dL_law_735 0 rfl rfl ?_
        refine j_iload_n C dL_law_736 3 rfl rfl ?_
        refine j_iconst (v := 2) C dL_law_737 (by decide) ?_
        refine j_iadd C dL_law_738 ?_
        refine j_sld C hX hbz (6 * t + 2) (nI_add _ 2) (by omega) hL dL_law_739 ?_
        obtain ⟨β1, b1, N1, σ1, r9, hC9, hM9, hI9⟩ := S16 t β b N σ ht5 hI (xs (6 * t + 1)) (xs (6 * t + 2))
        have hN1 := hInvN _ _ _ _ _ hI9
        refine j_callV C [.int (xs (6 * t + 1)), .int (xs (6 * t + 2))] hC9 (by omega) cb_0 rfl q3_82 q1_1 q3_80 q3_81 q3_79 hd_X10_told rfl dL_law_740 rfl (Nat.le_of_ble_eq_true rfl) ⟨(Nat.le_of_ble_eq_true rfl), (Nat.le_of_ble_eq_true rfl)⟩ ⟨(by show 86 + 5 * t + 0 ≤ 600000; omega), (by show 237118 + 44 * t + 0 ≤ 7302250; omega)⟩ (j_ct ctBM ?_)
        refine j_aload_n C dL_law_743 2 rfl rfl ?_
        refine j_aload_n C dL_law_744 0 rfl rfl ?_
        refine j_iload_n C dL_law_745 3 rfl rfl ?_
        refine j_iconst (v := 1) C dL_law_746 (by decide) ?_
        refine j_iadd C dL_law_747 ?_
        refine j_sld C hX hbz (6 * t + 1) (nI_add _ 1) (by omega) hL dL_law_748 ?_
        refine j_aload_n C dL_law_749 0 rfl rfl ?_
        refine j_iload_n C dL_law_750 3 rfl rfl ?_
        refine j_iconst (v := 2) C dL_law_751 (by decide) ?_
        refine j_iadd C dL_law_752 ?_
        refine j_sld C hX hbz (6 * t + 2) (nI_add _ 2) (by omega) hL dL_law_753 ?_
        refine j_callV C [.int (xs (6 * t + 1)), .int (xs (6 * t + 2))] hM9 (by omega) cq_obj rfl q4_150 q1_6 q4_148 q4_149 q4_147 hd_X11_told rfl dL_law_754 rfl (Nat.le_of_ble_eq_true rfl) ⟨(Nat.le_of_ble_eq_true rfl), (Nat.le_of_ble_eq_true rfl)⟩ ⟨(by show 86 + 5 * t + 0 + 0 ≤ 600000; omega), (by show 237118 + 44 * t + 0 + 0 ≤ 7302250; omega)⟩ (j_ct ctBM.symm ?_)
        exact j_icmp_eq C 762 (icmp_t rfl) dL_law_757 (by decide) (fun _ => (NX β1 b1 N1 σ1 _ _ _ hI9 (by show 86 + 5 * t + 0 + 0 ≤ _; omega) (by show 237118 + 44 * t + 0 + 0 ≤ _; omega) (Or.inl rfl))) (fun h => by cases h)
      have ho : x9.toInt < 0 ∨ 16 < x9.toInt := by
        by_cases ho : x9.toInt < 0 ∨ 16 < x9.toInt
        · exact ho
        · obtain ⟨k, hk, hx⟩ := sw_in ho
          exfalso
          match k, hk, hx with
          | 0, _, hx => exact absurd (Int32.toInt_inj.mp (hx.trans (by decide))) e9_0
          | 1, _, hx => exact absurd (Int32.toInt_inj.mp (hx.trans (by decide))) e9_1
          | 2, _, hx => exact absurd (Int32.toInt_inj.mp (hx.trans (by decide))) e9_2
          | 3, _, hx => exact absurd (Int32.toInt_inj.mp (hx.trans (by decide))) e9_3
          | 4, _, hx => exact absurd (Int32.toInt_inj.mp (hx.trans (by decide))) e9_4
          | 5, _, hx => exact absurd (Int32.toInt_inj.mp (hx.trans (by decide))) e9_5
          | 6, _, hx => exact absurd (Int32.toInt_inj.mp (hx.trans (by decide))) e9_6
          | 7, _, hx => exact absurd (Int32.toInt_inj.mp (hx.trans (by decide))) e9_7
          | 8, _, hx => exact absurd (Int32.toInt_inj.mp (hx.trans (by decide))) e9_8
          | 9, _, hx => exact absurd (Int32.toInt_inj.mp (hx.trans (by decide))) e9_9
          | 10, _, hx => exact absurd (Int32.toInt_inj.mp (hx.trans (by decide))) e9_10
          | 11, _, hx => exact absurd (Int32.toInt_inj.mp (hx.trans (by decide))) e9_11
          | 12, _, hx => exact absurd (Int32.toInt_inj.mp (hx.trans (by decide))) e9_12
          | 13, _, hx => exact absurd (Int32.toInt_inj.mp (hx.trans (by decide))) e9_13
          | 14, _, hx => exact absurd (Int32.toInt_inj.mp (hx.trans (by decide))) e9_14
          | 15, _, hx => exact absurd (Int32.toInt_inj.mp (hx.trans (by decide))) e9_15
          | 16, _, hx => exact absurd (Int32.toInt_inj.mp (hx.trans (by decide))) e9_16
          | k + 17, hk, _ => exact absurd hk (Nat.not_lt.mpr (Nat.le_add_left _ _))
      refine j_tableOut C 762 dL_law_33 ho (by decide) ?_
      exact NX β b N σ _ _ _ (hInvS _ _ _ _ _ ht5 hI) (by omega) (by omega) (Or.inl rfl)
