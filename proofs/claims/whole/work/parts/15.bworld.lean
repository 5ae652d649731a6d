abbrev BS : Type := (Nat → Int32) × (Nat → Int32) × (Nat → Int32) × (Nat → Int32) × (Nat → Int32) × (Nat → Nat → UInt64) × (Nat → Nat → Int32) × (Nat → UInt64) × (Nat → Int32) × (Nat → UInt64) × (Nat → Int32) × (Nat → UInt64) × (Nat → Int32) × (Nat → Int32) × (Nat → Int32) × (Nat → Int32) × (Nat → Int32) × (Nat → Int32) × (Nat → Int32) × (Int32) × (Int32) × (Value) × (Int32) × (Int32)
def b_nar (β : BS) : Nat → Int32 := β.1
def b_nar_ (β : BS) (v : Nat → Int32) : BS := (v, β.2)
def b_ff (β : BS) : Nat → Int32 := β.2.1
def b_ff_ (β : BS) (v : Nat → Int32) : BS := (β.1, v, β.2.2)
def b_fa (β : BS) : Nat → Int32 := β.2.2.1
def b_fa_ (β : BS) (v : Nat → Int32) : BS := (β.1, β.2.1, v, β.2.2.2)
def b_fb (β : BS) : Nat → Int32 := β.2.2.2.1
def b_fb_ (β : BS) (v : Nat → Int32) : BS := (β.1, β.2.1, β.2.2.1, v, β.2.2.2.2)
def b_fc (β : BS) : Nat → Int32 := β.2.2.2.2.1
def b_fc_ (β : BS) (v : Nat → Int32) : BS := (β.1, β.2.1, β.2.2.1, β.2.2.2.1, v, β.2.2.2.2.2)
def b_num (β : BS) : Nat → Nat → UInt64 := β.2.2.2.2.2.1
def b_num_ (β : BS) (v : Nat → Nat → UInt64) : BS := (β.1, β.2.1, β.2.2.1, β.2.2.2.1, β.2.2.2.2.1, v, β.2.2.2.2.2.2)
def b_bl (β : BS) : Nat → Nat → Int32 := β.2.2.2.2.2.2.1
def b_bl_ (β : BS) (v : Nat → Nat → Int32) : BS := (β.1, β.2.1, β.2.2.1, β.2.2.2.1, β.2.2.2.2.1, β.2.2.2.2.2.1, v, β.2.2.2.2.2.2.2)
def b_cn (β : BS) : Nat → UInt64 := β.2.2.2.2.2.2.2.1
def b_cn_ (β : BS) (v : Nat → UInt64) : BS := (β.1, β.2.1, β.2.2.1, β.2.2.2.1, β.2.2.2.2.1, β.2.2.2.2.2.1, β.2.2.2.2.2.2.1, v, β.2.2.2.2.2.2.2.2)
def b_cb (β : BS) : Nat → Int32 := β.2.2.2.2.2.2.2.2.1
def b_cb_ (β : BS) (v : Nat → Int32) : BS := (β.1, β.2.1, β.2.2.1, β.2.2.2.1, β.2.2.2.2.1, β.2.2.2.2.2.1, β.2.2.2.2.2.2.1, β.2.2.2.2.2.2.2.1, v, β.2.2.2.2.2.2.2.2.2)
def b_xn (β : BS) : Nat → UInt64 := β.2.2.2.2.2.2.2.2.2.1
def b_xn_ (β : BS) (v : Nat → UInt64) : BS := (β.1, β.2.1, β.2.2.1, β.2.2.2.1, β.2.2.2.2.1, β.2.2.2.2.2.1, β.2.2.2.2.2.2.1, β.2.2.2.2.2.2.2.1, β.2.2.2.2.2.2.2.2.1, v, β.2.2.2.2.2.2.2.2.2.2)
def b_xb (β : BS) : Nat → Int32 := β.2.2.2.2.2.2.2.2.2.2.1
def b_xb_ (β : BS) (v : Nat → Int32) : BS := (β.1, β.2.1, β.2.2.1, β.2.2.2.1, β.2.2.2.2.1, β.2.2.2.2.2.1, β.2.2.2.2.2.2.1, β.2.2.2.2.2.2.2.1, β.2.2.2.2.2.2.2.2.1, β.2.2.2.2.2.2.2.2.2.1, v, β.2.2.2.2.2.2.2.2.2.2.2)
def b_yn (β : BS) : Nat → UInt64 := β.2.2.2.2.2.2.2.2.2.2.2.1
def b_yn_ (β : BS) (v : Nat → UInt64) : BS := (β.1, β.2.1, β.2.2.1, β.2.2.2.1, β.2.2.2.2.1, β.2.2.2.2.2.1, β.2.2.2.2.2.2.1, β.2.2.2.2.2.2.2.1, β.2.2.2.2.2.2.2.2.1, β.2.2.2.2.2.2.2.2.2.1, β.2.2.2.2.2.2.2.2.2.2.1, v, β.2.2.2.2.2.2.2.2.2.2.2.2)
def b_yb (β : BS) : Nat → Int32 := β.2.2.2.2.2.2.2.2.2.2.2.2.1
def b_yb_ (β : BS) (v : Nat → Int32) : BS := (β.1, β.2.1, β.2.2.1, β.2.2.2.1, β.2.2.2.2.1, β.2.2.2.2.2.1, β.2.2.2.2.2.2.1, β.2.2.2.2.2.2.2.1, β.2.2.2.2.2.2.2.2.1, β.2.2.2.2.2.2.2.2.2.1, β.2.2.2.2.2.2.2.2.2.2.1, β.2.2.2.2.2.2.2.2.2.2.2.1, v, β.2.2.2.2.2.2.2.2.2.2.2.2.2)
def b_a1 (β : BS) : Nat → Int32 := β.2.2.2.2.2.2.2.2.2.2.2.2.2.1
def b_a1_ (β : BS) (v : Nat → Int32) : BS := (β.1, β.2.1, β.2.2.1, β.2.2.2.1, β.2.2.2.2.1, β.2.2.2.2.2.1, β.2.2.2.2.2.2.1, β.2.2.2.2.2.2.2.1, β.2.2.2.2.2.2.2.2.1, β.2.2.2.2.2.2.2.2.2.1, β.2.2.2.2.2.2.2.2.2.2.1, β.2.2.2.2.2.2.2.2.2.2.2.1, β.2.2.2.2.2.2.2.2.2.2.2.2.1, v, β.2.2.2.2.2.2.2.2.2.2.2.2.2.2)
def b_a2 (β : BS) : Nat → Int32 := β.2.2.2.2.2.2.2.2.2.2.2.2.2.2.1
def b_a2_ (β : BS) (v : Nat → Int32) : BS := (β.1, β.2.1, β.2.2.1, β.2.2.2.1, β.2.2.2.2.1, β.2.2.2.2.2.1, β.2.2.2.2.2.2.1, β.2.2.2.2.2.2.2.1, β.2.2.2.2.2.2.2.2.1, β.2.2.2.2.2.2.2.2.2.1, β.2.2.2.2.2.2.2.2.2.2.1, β.2.2.2.2.2.2.2.2.2.2.2.1, β.2.2.2.2.2.2.2.2.2.2.2.2.1, β.2.2.2.2.2.2.2.2.2.2.2.2.2.1, v, β.2.2.2.2.2.2.2.2.2.2.2.2.2.2.2)
def b_a3 (β : BS) : Nat → Int32 := β.2.2.2.2.2.2.2.2.2.2.2.2.2.2.2.1
def b_a3_ (β : BS) (v : Nat → Int32) : BS := (β.1, β.2.1, β.2.2.1, β.2.2.2.1, β.2.2.2.2.1, β.2.2.2.2.2.1, β.2.2.2.2.2.2.1, β.2.2.2.2.2.2.2.1, β.2.2.2.2.2.2.2.2.1, β.2.2.2.2.2.2.2.2.2.1, β.2.2.2.2.2.2.2.2.2.2.1, β.2.2.2.2.2.2.2.2.2.2.2.1, β.2.2.2.2.2.2.2.2.2.2.2.2.1, β.2.2.2.2.2.2.2.2.2.2.2.2.2.1, β.2.2.2.2.2.2.2.2.2.2.2.2.2.2.1, v, β.2.2.2.2.2.2.2.2.2.2.2.2.2.2.2.2)
def b_a4 (β : BS) : Nat → Int32 := β.2.2.2.2.2.2.2.2.2.2.2.2.2.2.2.2.1
def b_a4_ (β : BS) (v : Nat → Int32) : BS := (β.1, β.2.1, β.2.2.1, β.2.2.2.1, β.2.2.2.2.1, β.2.2.2.2.2.1, β.2.2.2.2.2.2.1, β.2.2.2.2.2.2.2.1, β.2.2.2.2.2.2.2.2.1, β.2.2.2.2.2.2.2.2.2.1, β.2.2.2.2.2.2.2.2.2.2.1, β.2.2.2.2.2.2.2.2.2.2.2.1, β.2.2.2.2.2.2.2.2.2.2.2.2.1, β.2.2.2.2.2.2.2.2.2.2.2.2.2.1, β.2.2.2.2.2.2.2.2.2.2.2.2.2.2.1, β.2.2.2.2.2.2.2.2.2.2.2.2.2.2.2.1, v, β.2.2.2.2.2.2.2.2.2.2.2.2.2.2.2.2.2)
def b_a5 (β : BS) : Nat → Int32 := β.2.2.2.2.2.2.2.2.2.2.2.2.2.2.2.2.2.1
def b_a5_ (β : BS) (v : Nat → Int32) : BS := (β.1, β.2.1, β.2.2.1, β.2.2.2.1, β.2.2.2.2.1, β.2.2.2.2.2.1, β.2.2.2.2.2.2.1, β.2.2.2.2.2.2.2.1, β.2.2.2.2.2.2.2.2.1, β.2.2.2.2.2.2.2.2.2.1, β.2.2.2.2.2.2.2.2.2.2.1, β.2.2.2.2.2.2.2.2.2.2.2.1, β.2.2.2.2.2.2.2.2.2.2.2.2.1, β.2.2.2.2.2.2.2.2.2.2.2.2.2.1, β.2.2.2.2.2.2.2.2.2.2.2.2.2.2.1, β.2.2.2.2.2.2.2.2.2.2.2.2.2.2.2.1, β.2.2.2.2.2.2.2.2.2.2.2.2.2.2.2.2.1, v, β.2.2.2.2.2.2.2.2.2.2.2.2.2.2.2.2.2.2)
def b_a6 (β : BS) : Nat → Int32 := β.2.2.2.2.2.2.2.2.2.2.2.2.2.2.2.2.2.2.1
def b_a6_ (β : BS) (v : Nat → Int32) : BS := (β.1, β.2.1, β.2.2.1, β.2.2.2.1, β.2.2.2.2.1, β.2.2.2.2.2.1, β.2.2.2.2.2.2.1, β.2.2.2.2.2.2.2.1, β.2.2.2.2.2.2.2.2.1, β.2.2.2.2.2.2.2.2.2.1, β.2.2.2.2.2.2.2.2.2.2.1, β.2.2.2.2.2.2.2.2.2.2.2.1, β.2.2.2.2.2.2.2.2.2.2.2.2.1, β.2.2.2.2.2.2.2.2.2.2.2.2.2.1, β.2.2.2.2.2.2.2.2.2.2.2.2.2.2.1, β.2.2.2.2.2.2.2.2.2.2.2.2.2.2.2.1, β.2.2.2.2.2.2.2.2.2.2.2.2.2.2.2.2.1, β.2.2.2.2.2.2.2.2.2.2.2.2.2.2.2.2.2.1, v, β.2.2.2.2.2.2.2.2.2.2.2.2.2.2.2.2.2.2.2)
def b_acnt (β : BS) : Int32 := β.2.2.2.2.2.2.2.2.2.2.2.2.2.2.2.2.2.2.2.1
def b_acnt_ (β : BS) (v : Int32) : BS := (β.1, β.2.1, β.2.2.1, β.2.2.2.1, β.2.2.2.2.1, β.2.2.2.2.2.1, β.2.2.2.2.2.2.1, β.2.2.2.2.2.2.2.1, β.2.2.2.2.2.2.2.2.1, β.2.2.2.2.2.2.2.2.2.1, β.2.2.2.2.2.2.2.2.2.2.1, β.2.2.2.2.2.2.2.2.2.2.2.1, β.2.2.2.2.2.2.2.2.2.2.2.2.1, β.2.2.2.2.2.2.2.2.2.2.2.2.2.1, β.2.2.2.2.2.2.2.2.2.2.2.2.2.2.1, β.2.2.2.2.2.2.2.2.2.2.2.2.2.2.2.1, β.2.2.2.2.2.2.2.2.2.2.2.2.2.2.2.2.1, β.2.2.2.2.2.2.2.2.2.2.2.2.2.2.2.2.2.1, β.2.2.2.2.2.2.2.2.2.2.2.2.2.2.2.2.2.2.1, v, β.2.2.2.2.2.2.2.2.2.2.2.2.2.2.2.2.2.2.2.2)
def b_rngs (β : BS) : Int32 := β.2.2.2.2.2.2.2.2.2.2.2.2.2.2.2.2.2.2.2.2.1
def b_rngs_ (β : BS) (v : Int32) : BS := (β.1, β.2.1, β.2.2.1, β.2.2.2.1, β.2.2.2.2.1, β.2.2.2.2.2.1, β.2.2.2.2.2.2.1, β.2.2.2.2.2.2.2.1, β.2.2.2.2.2.2.2.2.1, β.2.2.2.2.2.2.2.2.2.1, β.2.2.2.2.2.2.2.2.2.2.1, β.2.2.2.2.2.2.2.2.2.2.2.1, β.2.2.2.2.2.2.2.2.2.2.2.2.1, β.2.2.2.2.2.2.2.2.2.2.2.2.2.1, β.2.2.2.2.2.2.2.2.2.2.2.2.2.2.1, β.2.2.2.2.2.2.2.2.2.2.2.2.2.2.2.1, β.2.2.2.2.2.2.2.2.2.2.2.2.2.2.2.2.1, β.2.2.2.2.2.2.2.2.2.2.2.2.2.2.2.2.2.1, β.2.2.2.2.2.2.2.2.2.2.2.2.2.2.2.2.2.2.1, β.2.2.2.2.2.2.2.2.2.2.2.2.2.2.2.2.2.2.2.1, v, β.2.2.2.2.2.2.2.2.2.2.2.2.2.2.2.2.2.2.2.2.2)
def b_lat (β : BS) : Value := β.2.2.2.2.2.2.2.2.2.2.2.2.2.2.2.2.2.2.2.2.2.1
def b_lat_ (β : BS) (v : Value) : BS := (β.1, β.2.1, β.2.2.1, β.2.2.2.1, β.2.2.2.2.1, β.2.2.2.2.2.1, β.2.2.2.2.2.2.1, β.2.2.2.2.2.2.2.1, β.2.2.2.2.2.2.2.2.1, β.2.2.2.2.2.2.2.2.2.1, β.2.2.2.2.2.2.2.2.2.2.1, β.2.2.2.2.2.2.2.2.2.2.2.1, β.2.2.2.2.2.2.2.2.2.2.2.2.1, β.2.2.2.2.2.2.2.2.2.2.2.2.2.1, β.2.2.2.2.2.2.2.2.2.2.2.2.2.2.1, β.2.2.2.2.2.2.2.2.2.2.2.2.2.2.2.1, β.2.2.2.2.2.2.2.2.2.2.2.2.2.2.2.2.1, β.2.2.2.2.2.2.2.2.2.2.2.2.2.2.2.2.2.1, β.2.2.2.2.2.2.2.2.2.2.2.2.2.2.2.2.2.2.1, β.2.2.2.2.2.2.2.2.2.2.2.2.2.2.2.2.2.2.2.1, β.2.2.2.2.2.2.2.2.2.2.2.2.2.2.2.2.2.2.2.2.1, v, β.2.2.2.2.2.2.2.2.2.2.2.2.2.2.2.2.2.2.2.2.2.2)
def b_chg (β : BS) : Int32 := β.2.2.2.2.2.2.2.2.2.2.2.2.2.2.2.2.2.2.2.2.2.2.1
def b_chg_ (β : BS) (v : Int32) : BS := (β.1, β.2.1, β.2.2.1, β.2.2.2.1, β.2.2.2.2.1, β.2.2.2.2.2.1, β.2.2.2.2.2.2.1, β.2.2.2.2.2.2.2.1, β.2.2.2.2.2.2.2.2.1, β.2.2.2.2.2.2.2.2.2.1, β.2.2.2.2.2.2.2.2.2.2.1, β.2.2.2.2.2.2.2.2.2.2.2.1, β.2.2.2.2.2.2.2.2.2.2.2.2.1, β.2.2.2.2.2.2.2.2.2.2.2.2.2.1, β.2.2.2.2.2.2.2.2.2.2.2.2.2.2.1, β.2.2.2.2.2.2.2.2.2.2.2.2.2.2.2.1, β.2.2.2.2.2.2.2.2.2.2.2.2.2.2.2.2.1, β.2.2.2.2.2.2.2.2.2.2.2.2.2.2.2.2.2.1, β.2.2.2.2.2.2.2.2.2.2.2.2.2.2.2.2.2.2.1, β.2.2.2.2.2.2.2.2.2.2.2.2.2.2.2.2.2.2.2.1, β.2.2.2.2.2.2.2.2.2.2.2.2.2.2.2.2.2.2.2.2.1, β.2.2.2.2.2.2.2.2.2.2.2.2.2.2.2.2.2.2.2.2.2.1, v, β.2.2.2.2.2.2.2.2.2.2.2.2.2.2.2.2.2.2.2.2.2.2.2)
def b_frs (β : BS) : Int32 := β.2.2.2.2.2.2.2.2.2.2.2.2.2.2.2.2.2.2.2.2.2.2.2
def b_frs_ (β : BS) (v : Int32) : BS := (β.1, β.2.1, β.2.2.1, β.2.2.2.1, β.2.2.2.2.1, β.2.2.2.2.2.1, β.2.2.2.2.2.2.1, β.2.2.2.2.2.2.2.1, β.2.2.2.2.2.2.2.2.1, β.2.2.2.2.2.2.2.2.2.1, β.2.2.2.2.2.2.2.2.2.2.1, β.2.2.2.2.2.2.2.2.2.2.2.1, β.2.2.2.2.2.2.2.2.2.2.2.2.1, β.2.2.2.2.2.2.2.2.2.2.2.2.2.1, β.2.2.2.2.2.2.2.2.2.2.2.2.2.2.1, β.2.2.2.2.2.2.2.2.2.2.2.2.2.2.2.1, β.2.2.2.2.2.2.2.2.2.2.2.2.2.2.2.2.1, β.2.2.2.2.2.2.2.2.2.2.2.2.2.2.2.2.2.1, β.2.2.2.2.2.2.2.2.2.2.2.2.2.2.2.2.2.2.1, β.2.2.2.2.2.2.2.2.2.2.2.2.2.2.2.2.2.2.2.1, β.2.2.2.2.2.2.2.2.2.2.2.2.2.2.2.2.2.2.2.2.1, β.2.2.2.2.2.2.2.2.2.2.2.2.2.2.2.2.2.2.2.2.2.1, β.2.2.2.2.2.2.2.2.2.2.2.2.2.2.2.2.2.2.2.2.2.2.1, v)
def bF (z : Nat) (β : BS) : List Value := [.ref (z + 1), .ref (z + 2), .ref (z + 5), .ref (z + 12), .int (b_acnt β), .int (b_rngs β), b_lat β, .int (b_chg β), .int (b_frs β)]
def bC (G : GG) (z : Nat) (β : BS) (i m : Nat) : va_E := if m = 0 then coO z (13 + 4 * i) (b_nar β i) (b_ff β i) (b_fa β i) (b_fb β i) (b_fc β i) else if m = 1 then rdO z (13 + 4 * i + 1) else if m = 2 then cD G 16 (b_num β i) else cZ G 16 (b_bl β i)
def bA (β : BS) (i : Nat) : va_E := alO (b_a1 β i) (b_a2 β i) (b_a3 β i) (b_a4 β i) (b_a5 β i) (b_a6 β i)
def bS (G : GG) (z : Nat) (β : BS) (k : Nat) : va_E := if k = 0 then .inr (6, bF z β) else if k = 1 then cQC G 12 (fun j => some (z + (13 + 4 * j))) else if k = 2 then rdO z 2 else if k = 3 then cD G 8 (b_cn β) else if k = 4 then cZ G 8 (b_cb β) else if k = 5 then .inr (5, [.ref (z + 6), .ref (z + 9)]) else if k = 6 then rdO z 6 else if k = 7 then cD G 16 (b_xn β) else if k = 8 then cZ G 16 (b_xb β) else if k = 9 then rdO z 9 else if k = 10 then cD G 16 (b_yn β) else if k = 11 then cZ G 16 (b_yb β) else cQA G 10 (fun j => some (z + (61 + j)))
def ctB (G : GG) (z : Nat) (β : BS) (b : Nat → va_E) : Nat → va_E := fun k => if k < 13 then bS G z β k else if k < 61 then bC G z β ((k - 13) / 4) ((k - 13) % 4) else if k < 71 then bA β (k - 61) else b k
theorem cb_0 {G : GG} {z : Nat} {β : BS} {b : Nat → va_E} : ctB G z β b 0 = .inr (6, bF z β) := rfl
theorem cb_1 {G : GG} {z : Nat} {β : BS} {b : Nat → va_E} : ctB G z β b 1 = cQC G 12 (fun j => some (z + (13 + 4 * j))) := rfl
theorem cb_2 {G : GG} {z : Nat} {β : BS} {b : Nat → va_E} : ctB G z β b 2 = rdO z 2 := rfl
theorem cb_3 {G : GG} {z : Nat} {β : BS} {b : Nat → va_E} : ctB G z β b 3 = cD G 8 (b_cn β) := rfl
theorem cb_4 {G : GG} {z : Nat} {β : BS} {b : Nat → va_E} : ctB G z β b 4 = cZ G 8 (b_cb β) := rfl
theorem cb_5 {G : GG} {z : Nat} {β : BS} {b : Nat → va_E} : ctB G z β b 5 = .inr (5, [.ref (z + 6), .ref (z + 9)]) := rfl
theorem cb_6 {G : GG} {z : Nat} {β : BS} {b : Nat → va_E} : ctB G z β b 6 = rdO z 6 := rfl
theorem cb_7 {G : GG} {z : Nat} {β : BS} {b : Nat → va_E} : ctB G z β b 7 = cD G 16 (b_xn β) := rfl
theorem cb_8 {G : GG} {z : Nat} {β : BS} {b : Nat → va_E} : ctB G z β b 8 = cZ G 16 (b_xb β) := rfl
theorem cb_9 {G : GG} {z : Nat} {β : BS} {b : Nat → va_E} : ctB G z β b 9 = rdO z 9 := rfl
theorem cb_10 {G : GG} {z : Nat} {β : BS} {b : Nat → va_E} : ctB G z β b 10 = cD G 16 (b_yn β) := rfl
theorem cb_11 {G : GG} {z : Nat} {β : BS} {b : Nat → va_E} : ctB G z β b 11 = cZ G 16 (b_yb β) := rfl
theorem cb_12 {G : GG} {z : Nat} {β : BS} {b : Nat → va_E} : ctB G z β b 12 = cQA G 10 (fun j => some (z + (61 + j))) := rfl
theorem cb_col {G : GG} {z : Nat} {β : BS} {b : Nat → va_E} {i : Nat} (hi : i < 12) : ctB G z β b (13 + 4 * i) = coO z (13 + 4 * i) (b_nar β i) (b_ff β i) (b_fa β i) (b_fb β i) (b_fc β i) := by
  unfold ctB
  rw [if_neg (by omega), if_pos (by omega), show (13 + 4 * i - 13) / 4 = i by omega, show (13 + 4 * i - 13) % 4 = 0 by omega]
  rfl
theorem cb_rd {G : GG} {z : Nat} {β : BS} {b : Nat → va_E} {i : Nat} (hi : i < 12) : ctB G z β b (13 + 4 * i + 1) = rdO z (13 + 4 * i + 1) := by
  unfold ctB
  rw [if_neg (by omega), if_pos (by omega), show (13 + 4 * i + 1 - 13) / 4 = i by omega, show (13 + 4 * i + 1 - 13) % 4 = 1 by omega]
  rfl
theorem cb_num {G : GG} {z : Nat} {β : BS} {b : Nat → va_E} {i : Nat} (hi : i < 12) : ctB G z β b (13 + 4 * i + 2) = cD G 16 (b_num β i) := by
  unfold ctB
  rw [if_neg (by omega), if_pos (by omega), show (13 + 4 * i + 2 - 13) / 4 = i by omega, show (13 + 4 * i + 2 - 13) % 4 = 2 by omega]
  rfl
theorem cb_bl {G : GG} {z : Nat} {β : BS} {b : Nat → va_E} {i : Nat} (hi : i < 12) : ctB G z β b (13 + 4 * i + 3) = cZ G 16 (b_bl β i) := by
  unfold ctB
  rw [if_neg (by omega), if_pos (by omega), show (13 + 4 * i + 3 - 13) / 4 = i by omega, show (13 + 4 * i + 3 - 13) % 4 = 3 by omega]
  rfl
theorem cb_al {G : GG} {z : Nat} {β : BS} {b : Nat → va_E} {i : Nat} (hi : i < 10) : ctB G z β b (61 + i) = alO (b_a1 β i) (b_a2 β i) (b_a3 β i) (b_a4 β i) (b_a5 β i) (b_a6 β i) := by
  unfold ctB
  rw [if_neg (by omega), if_neg (by omega), if_pos (by omega), show 61 + i - 61 = i by omega]
  rfl
theorem cb_ge {G : GG} {z : Nat} {β : BS} {b : Nat → va_E} {k : Nat} (hk : 71 ≤ k) : ctB G z β b k = b k := by
  unfold ctB
  rw [if_neg (by omega), if_neg (by omega), if_neg (by omega)]
theorem bs_low {G : GG} {z : Nat} {β : BS} {b : Nat → va_E} {β' : BS} {k : Nat} {e : va_E} (hk : k < 13) (h0 : bS G z β' k = e) (h : ∀ j, j < 13 → j ≠ k → bS G z β' j = bS G z β j) (hC : ∀ i m, bC G z β' i m = bC G z β i m) (hA : ∀ i, bA β' i = bA β i) : va_up (ctB G z β b) k e = ctB G z β' b := by
  funext j
  by_cases hj : j = k
  · subst hj; rw [va_up_self]; unfold ctB; rw [if_pos hk, h0]
  · rw [va_up_ne _ _ hj]; unfold ctB
    by_cases h1 : j < 13
    · rw [if_pos h1, if_pos h1, h j h1 hj]
    · rw [if_neg h1, if_neg h1, hC, hA]
theorem bs_acnt {G : GG} {z : Nat} {β : BS} {b : Nat → va_E} {v : Int32} : va_up (ctB G z β b) 0 (.inr (6, (bF z β).set 4 (.int v))) = ctB G z (b_acnt_ β v) b := by
  refine bs_low (by decide) rfl (fun j hj h0 => ?_) (fun i m => rfl) (fun i => rfl)
  unfold bS
  rw [if_neg h0, if_neg h0]
  rfl
theorem bs_rngs {G : GG} {z : Nat} {β : BS} {b : Nat → va_E} {v : Int32} : va_up (ctB G z β b) 0 (.inr (6, (bF z β).set 5 (.int v))) = ctB G z (b_rngs_ β v) b := by
  refine bs_low (by decide) rfl (fun j hj h0 => ?_) (fun i m => rfl) (fun i => rfl)
  unfold bS
  rw [if_neg h0, if_neg h0]
  rfl
theorem bs_lat {G : GG} {z : Nat} {β : BS} {b : Nat → va_E} {v : Value} : va_up (ctB G z β b) 0 (.inr (6, (bF z β).set 6 (v))) = ctB G z (b_lat_ β v) b := by
  refine bs_low (by decide) rfl (fun j hj h0 => ?_) (fun i m => rfl) (fun i => rfl)
  unfold bS
  rw [if_neg h0, if_neg h0]
  rfl
theorem bs_chg {G : GG} {z : Nat} {β : BS} {b : Nat → va_E} {v : Int32} : va_up (ctB G z β b) 0 (.inr (6, (bF z β).set 7 (.int v))) = ctB G z (b_chg_ β v) b := by
  refine bs_low (by decide) rfl (fun j hj h0 => ?_) (fun i m => rfl) (fun i => rfl)
  unfold bS
  rw [if_neg h0, if_neg h0]
  rfl
theorem bs_frs {G : GG} {z : Nat} {β : BS} {b : Nat → va_E} {v : Int32} : va_up (ctB G z β b) 0 (.inr (6, (bF z β).set 8 (.int v))) = ctB G z (b_frs_ β v) b := by
  refine bs_low (by decide) rfl (fun j hj h0 => ?_) (fun i m => rfl) (fun i => rfl)
  unfold bS
  rw [if_neg h0, if_neg h0]
  rfl
theorem bs_cst {G : GG} {z : Nat} {β : BS} {b : Nat → va_E} {F : Nat → UInt64} {H : Nat → Int32} : rdS G (ctB G z β b) 2 8 F H = ctB G z (b_cb_ (b_cn_ β F) H) b := by
  have e1 : va_up (ctB G z β b) 3 (cD G 8 F) = ctB G z (b_cn_ β F) b := bs_low (by decide) rfl (fun j hj h0 => by unfold bS; simp only [if_neg h0]; rfl) (fun i m => rfl) (fun i => rfl)
  have e2 : va_up (ctB G z (b_cn_ β F) b) 4 (cZ G 8 H) = ctB G z (b_cb_ (b_cn_ β F) H) b := bs_low (by decide) rfl (fun j hj h0 => by unfold bS; simp only [if_neg h0]; rfl) (fun i m => rfl) (fun i => rfl)
  exact (congrArg (fun c9 => va_up c9 4 (cZ G 8 H)) e1).trans e2
theorem bs_x {G : GG} {z : Nat} {β : BS} {b : Nat → va_E} {F : Nat → UInt64} {H : Nat → Int32} : rdS G (ctB G z β b) 6 16 F H = ctB G z (b_xb_ (b_xn_ β F) H) b := by
  have e1 : va_up (ctB G z β b) 7 (cD G 16 F) = ctB G z (b_xn_ β F) b := bs_low (by decide) rfl (fun j hj h0 => by unfold bS; simp only [if_neg h0]; rfl) (fun i m => rfl) (fun i => rfl)
  have e2 : va_up (ctB G z (b_xn_ β F) b) 8 (cZ G 16 H) = ctB G z (b_xb_ (b_xn_ β F) H) b := bs_low (by decide) rfl (fun j hj h0 => by unfold bS; simp only [if_neg h0]; rfl) (fun i m => rfl) (fun i => rfl)
  exact (congrArg (fun c9 => va_up c9 8 (cZ G 16 H)) e1).trans e2
theorem bs_y {G : GG} {z : Nat} {β : BS} {b : Nat → va_E} {F : Nat → UInt64} {H : Nat → Int32} : rdS G (ctB G z β b) 9 16 F H = ctB G z (b_yb_ (b_yn_ β F) H) b := by
  have e1 : va_up (ctB G z β b) 10 (cD G 16 F) = ctB G z (b_yn_ β F) b := bs_low (by decide) rfl (fun j hj h0 => by unfold bS; simp only [if_neg h0]; rfl) (fun i m => rfl) (fun i => rfl)
  have e2 : va_up (ctB G z (b_yn_ β F) b) 11 (cZ G 16 H) = ctB G z (b_yb_ (b_yn_ β F) H) b := bs_low (by decide) rfl (fun j hj h0 => by unfold bS; simp only [if_neg h0]; rfl) (fun i m => rfl) (fun i => rfl)
  exact (congrArg (fun c9 => va_up c9 11 (cZ G 16 H)) e1).trans e2
theorem bs_mid {G : GG} {z : Nat} {β : BS} {b : Nat → va_E} {β' : BS} {i m : Nat} {e : va_E} (hi : i < 12) (hm : m < 4) (h0 : bC G z β' i m = e) (h : ∀ i' m', (i' ≠ i ∨ m' ≠ m) → m' < 4 → bC G z β' i' m' = bC G z β i' m') (hS : ∀ k, bS G z β' k = bS G z β k) (hA : ∀ i, bA β' i = bA β i) : va_up (ctB G z β b) (13 + 4 * i + m) e = ctB G z β' b := by
  funext j
  by_cases hj : j = 13 + 4 * i + m
  · subst hj; rw [va_up_self]; unfold ctB
    rw [if_neg (by omega), if_pos (by omega), show (13 + 4 * i + m - 13) / 4 = i by omega, show (13 + 4 * i + m - 13) % 4 = m by omega, h0]
  · rw [va_up_ne _ _ hj]; unfold ctB
    by_cases h1 : j < 13
    · rw [if_pos h1, if_pos h1, hS]
    · rw [if_neg h1, if_neg h1]
      by_cases h2 : j < 61
      · rw [if_pos h2, if_pos h2, h _ _ (by omega) (by omega)]
      · rw [if_neg h2, if_neg h2, hA]
theorem bs_nar {G : GG} {z : Nat} {β : BS} {b : Nat → va_E} {i : Nat} (hi : i < 12) {v : Int32} : va_up (ctB G z β b) (13 + 4 * i) (.inr (1, ([.ref (z + (13 + 4 * i + 1)), .int (b_nar β i), .int (b_ff β i), .int (b_fa β i), .int (b_fb β i), .int (b_fc β i)] : List Value).set 1 (.int v))) = ctB G z (b_nar_ β (va_up (b_nar β) i v)) b := by
  refine bs_mid (m := 0) hi (by decide) ?_ (fun i' m' h hm => ?_) (fun k => rfl) (fun i => rfl)
  · show coO z (13 + 4 * i) _ _ _ _ _ = _
    simp only [b_nar_, b_nar, b_ff, b_fa, b_fb, b_fc, va_up_self, List.set]
  · unfold bC
    by_cases e1 : m' = 0
    · have e2 : i' ≠ i := by omega
      rw [if_pos e1, if_pos e1]
      simp only [b_nar_, b_nar, b_ff, b_fa, b_fb, b_fc, va_up_ne _ _ e2]
    · rw [if_neg e1, if_neg e1]; rfl
theorem bs_ff {G : GG} {z : Nat} {β : BS} {b : Nat → va_E} {i : Nat} (hi : i < 12) {v : Int32} : va_up (ctB G z β b) (13 + 4 * i) (.inr (1, ([.ref (z + (13 + 4 * i + 1)), .int (b_nar β i), .int (b_ff β i), .int (b_fa β i), .int (b_fb β i), .int (b_fc β i)] : List Value).set 2 (.int v))) = ctB G z (b_ff_ β (va_up (b_ff β) i v)) b := by
  refine bs_mid (m := 0) hi (by decide) ?_ (fun i' m' h hm => ?_) (fun k => rfl) (fun i => rfl)
  · show coO z (13 + 4 * i) _ _ _ _ _ = _
    simp only [b_ff_, b_nar, b_ff, b_fa, b_fb, b_fc, va_up_self, List.set]
  · unfold bC
    by_cases e1 : m' = 0
    · have e2 : i' ≠ i := by omega
      rw [if_pos e1, if_pos e1]
      simp only [b_ff_, b_nar, b_ff, b_fa, b_fb, b_fc, va_up_ne _ _ e2]
    · rw [if_neg e1, if_neg e1]; rfl
theorem bs_fa {G : GG} {z : Nat} {β : BS} {b : Nat → va_E} {i : Nat} (hi : i < 12) {v : Int32} : va_up (ctB G z β b) (13 + 4 * i) (.inr (1, ([.ref (z + (13 + 4 * i + 1)), .int (b_nar β i), .int (b_ff β i), .int (b_fa β i), .int (b_fb β i), .int (b_fc β i)] : List Value).set 3 (.int v))) = ctB G z (b_fa_ β (va_up (b_fa β) i v)) b := by
  refine bs_mid (m := 0) hi (by decide) ?_ (fun i' m' h hm => ?_) (fun k => rfl) (fun i => rfl)
  · show coO z (13 + 4 * i) _ _ _ _ _ = _
    simp only [b_fa_, b_nar, b_ff, b_fa, b_fb, b_fc, va_up_self, List.set]
  · unfold bC
    by_cases e1 : m' = 0
    · have e2 : i' ≠ i := by omega
      rw [if_pos e1, if_pos e1]
      simp only [b_fa_, b_nar, b_ff, b_fa, b_fb, b_fc, va_up_ne _ _ e2]
    · rw [if_neg e1, if_neg e1]; rfl
theorem bs_fb {G : GG} {z : Nat} {β : BS} {b : Nat → va_E} {i : Nat} (hi : i < 12) {v : Int32} : va_up (ctB G z β b) (13 + 4 * i) (.inr (1, ([.ref (z + (13 + 4 * i + 1)), .int (b_nar β i), .int (b_ff β i), .int (b_fa β i), .int (b_fb β i), .int (b_fc β i)] : List Value).set 4 (.int v))) = ctB G z (b_fb_ β (va_up (b_fb β) i v)) b := by
  refine bs_mid (m := 0) hi (by decide) ?_ (fun i' m' h hm => ?_) (fun k => rfl) (fun i => rfl)
  · show coO z (13 + 4 * i) _ _ _ _ _ = _
    simp only [b_fb_, b_nar, b_ff, b_fa, b_fb, b_fc, va_up_self, List.set]
  · unfold bC
    by_cases e1 : m' = 0
    · have e2 : i' ≠ i := by omega
      rw [if_pos e1, if_pos e1]
      simp only [b_fb_, b_nar, b_ff, b_fa, b_fb, b_fc, va_up_ne _ _ e2]
    · rw [if_neg e1, if_neg e1]; rfl
theorem bs_fc {G : GG} {z : Nat} {β : BS} {b : Nat → va_E} {i : Nat} (hi : i < 12) {v : Int32} : va_up (ctB G z β b) (13 + 4 * i) (.inr (1, ([.ref (z + (13 + 4 * i + 1)), .int (b_nar β i), .int (b_ff β i), .int (b_fa β i), .int (b_fb β i), .int (b_fc β i)] : List Value).set 5 (.int v))) = ctB G z (b_fc_ β (va_up (b_fc β) i v)) b := by
  refine bs_mid (m := 0) hi (by decide) ?_ (fun i' m' h hm => ?_) (fun k => rfl) (fun i => rfl)
  · show coO z (13 + 4 * i) _ _ _ _ _ = _
    simp only [b_fc_, b_nar, b_ff, b_fa, b_fb, b_fc, va_up_self, List.set]
  · unfold bC
    by_cases e1 : m' = 0
    · have e2 : i' ≠ i := by omega
      rw [if_pos e1, if_pos e1]
      simp only [b_fc_, b_nar, b_ff, b_fa, b_fb, b_fc, va_up_ne _ _ e2]
    · rw [if_neg e1, if_neg e1]; rfl
theorem bs_rd {G : GG} {z : Nat} {β : BS} {b : Nat → va_E} {i : Nat} (hi : i < 12) {F : Nat → UInt64} {H : Nat → Int32} : rdS G (ctB G z β b) (13 + 4 * i + 1) 16 F H = ctB G z (b_bl_ (b_num_ β (va_up (b_num β) i F)) (va_up (b_bl β) i H)) b := by
  have e1 : va_up (ctB G z β b) (13 + 4 * i + 2) (cD G 16 F) = ctB G z (b_num_ β (va_up (b_num β) i F)) b := by
    refine bs_mid (m := 2) hi (by decide) ?_ ?_ (fun k => rfl) (fun i => rfl)
    · show cD G 16 (va_up (b_num β) i F i) = _
      rw [va_up_self]
    · intro i' m' h hm
      unfold bC
      by_cases e1 : m' = 2
      · have e2 : i' ≠ i := by omega
        subst e1
        show cD G 16 (va_up (b_num β) i F i') = cD G 16 (b_num β i')
        rw [va_up_ne _ _ e2]
      · rcases (show m' = 0 ∨ m' = 1 ∨ m' = 3 by omega) with rfl | rfl | rfl <;> rfl
  have e2 : va_up (ctB G z (b_num_ β (va_up (b_num β) i F)) b) (13 + 4 * i + 3) (cZ G 16 H) = ctB G z (b_bl_ (b_num_ β (va_up (b_num β) i F)) (va_up (b_bl β) i H)) b := by
    refine bs_mid (m := 3) hi (by decide) ?_ ?_ (fun k => rfl) (fun i => rfl)
    · show cZ G 16 (va_up (b_bl β) i H i) = _
      rw [va_up_self]
    · intro i' m' h hm
      unfold bC
      by_cases e1 : m' = 3
      · have e2 : i' ≠ i := by omega
        subst e1
        show cZ G 16 (va_up (b_bl β) i H i') = cZ G 16 (b_bl β i')
        rw [va_up_ne _ _ e2]
      · rcases (show m' = 0 ∨ m' = 1 ∨ m' = 2 by omega) with rfl | rfl | rfl <;> rfl
  exact (congrArg (fun c9 => va_up c9 (13 + 4 * i + 3) (cZ G 16 H)) e1).trans e2
def b_alm_ (β : BS) (i : Nat) (v1 v2 v3 v4 v5 v6 : Int32) : BS := (β.1, β.2.1, β.2.2.1, β.2.2.2.1, β.2.2.2.2.1, β.2.2.2.2.2.1, β.2.2.2.2.2.2.1, β.2.2.2.2.2.2.2.1, β.2.2.2.2.2.2.2.2.1, β.2.2.2.2.2.2.2.2.2.1, β.2.2.2.2.2.2.2.2.2.2.1, β.2.2.2.2.2.2.2.2.2.2.2.1, β.2.2.2.2.2.2.2.2.2.2.2.2.1, va_up β.2.2.2.2.2.2.2.2.2.2.2.2.2.1 i v1, va_up β.2.2.2.2.2.2.2.2.2.2.2.2.2.2.1 i v2, va_up β.2.2.2.2.2.2.2.2.2.2.2.2.2.2.2.1 i v3, va_up β.2.2.2.2.2.2.2.2.2.2.2.2.2.2.2.2.1 i v4, va_up β.2.2.2.2.2.2.2.2.2.2.2.2.2.2.2.2.2.1 i v5, va_up β.2.2.2.2.2.2.2.2.2.2.2.2.2.2.2.2.2.2.1 i v6, β.2.2.2.2.2.2.2.2.2.2.2.2.2.2.2.2.2.2.2)
theorem ba_nar {β : BS} {i : Nat} {v1 v2 v3 v4 v5 v6 : Int32} : b_nar (b_alm_ β i v1 v2 v3 v4 v5 v6) = b_nar β := rfl
theorem ba_ff {β : BS} {i : Nat} {v1 v2 v3 v4 v5 v6 : Int32} : b_ff (b_alm_ β i v1 v2 v3 v4 v5 v6) = b_ff β := rfl
theorem ba_fa {β : BS} {i : Nat} {v1 v2 v3 v4 v5 v6 : Int32} : b_fa (b_alm_ β i v1 v2 v3 v4 v5 v6) = b_fa β := rfl
theorem ba_fb {β : BS} {i : Nat} {v1 v2 v3 v4 v5 v6 : Int32} : b_fb (b_alm_ β i v1 v2 v3 v4 v5 v6) = b_fb β := rfl
theorem ba_fc {β : BS} {i : Nat} {v1 v2 v3 v4 v5 v6 : Int32} : b_fc (b_alm_ β i v1 v2 v3 v4 v5 v6) = b_fc β := rfl
theorem ba_num {β : BS} {i : Nat} {v1 v2 v3 v4 v5 v6 : Int32} : b_num (b_alm_ β i v1 v2 v3 v4 v5 v6) = b_num β := rfl
theorem ba_bl {β : BS} {i : Nat} {v1 v2 v3 v4 v5 v6 : Int32} : b_bl (b_alm_ β i v1 v2 v3 v4 v5 v6) = b_bl β := rfl
theorem ba_cn {β : BS} {i : Nat} {v1 v2 v3 v4 v5 v6 : Int32} : b_cn (b_alm_ β i v1 v2 v3 v4 v5 v6) = b_cn β := rfl
theorem ba_cb {β : BS} {i : Nat} {v1 v2 v3 v4 v5 v6 : Int32} : b_cb (b_alm_ β i v1 v2 v3 v4 v5 v6) = b_cb β := rfl
theorem ba_xn {β : BS} {i : Nat} {v1 v2 v3 v4 v5 v6 : Int32} : b_xn (b_alm_ β i v1 v2 v3 v4 v5 v6) = b_xn β := rfl
theorem ba_xb {β : BS} {i : Nat} {v1 v2 v3 v4 v5 v6 : Int32} : b_xb (b_alm_ β i v1 v2 v3 v4 v5 v6) = b_xb β := rfl
theorem ba_yn {β : BS} {i : Nat} {v1 v2 v3 v4 v5 v6 : Int32} : b_yn (b_alm_ β i v1 v2 v3 v4 v5 v6) = b_yn β := rfl
theorem ba_yb {β : BS} {i : Nat} {v1 v2 v3 v4 v5 v6 : Int32} : b_yb (b_alm_ β i v1 v2 v3 v4 v5 v6) = b_yb β := rfl
theorem ba_a1 {β : BS} {i : Nat} {v1 v2 v3 v4 v5 v6 : Int32} : b_a1 (b_alm_ β i v1 v2 v3 v4 v5 v6) = va_up (b_a1 β) i v1 := rfl
theorem ba_a2 {β : BS} {i : Nat} {v1 v2 v3 v4 v5 v6 : Int32} : b_a2 (b_alm_ β i v1 v2 v3 v4 v5 v6) = va_up (b_a2 β) i v2 := rfl
theorem ba_a3 {β : BS} {i : Nat} {v1 v2 v3 v4 v5 v6 : Int32} : b_a3 (b_alm_ β i v1 v2 v3 v4 v5 v6) = va_up (b_a3 β) i v3 := rfl
theorem ba_a4 {β : BS} {i : Nat} {v1 v2 v3 v4 v5 v6 : Int32} : b_a4 (b_alm_ β i v1 v2 v3 v4 v5 v6) = va_up (b_a4 β) i v4 := rfl
theorem ba_a5 {β : BS} {i : Nat} {v1 v2 v3 v4 v5 v6 : Int32} : b_a5 (b_alm_ β i v1 v2 v3 v4 v5 v6) = va_up (b_a5 β) i v5 := rfl
theorem ba_a6 {β : BS} {i : Nat} {v1 v2 v3 v4 v5 v6 : Int32} : b_a6 (b_alm_ β i v1 v2 v3 v4 v5 v6) = va_up (b_a6 β) i v6 := rfl
theorem ba_acnt {β : BS} {i : Nat} {v1 v2 v3 v4 v5 v6 : Int32} : b_acnt (b_alm_ β i v1 v2 v3 v4 v5 v6) = b_acnt β := rfl
theorem ba_rngs {β : BS} {i : Nat} {v1 v2 v3 v4 v5 v6 : Int32} : b_rngs (b_alm_ β i v1 v2 v3 v4 v5 v6) = b_rngs β := rfl
theorem ba_lat {β : BS} {i : Nat} {v1 v2 v3 v4 v5 v6 : Int32} : b_lat (b_alm_ β i v1 v2 v3 v4 v5 v6) = b_lat β := rfl
theorem ba_chg {β : BS} {i : Nat} {v1 v2 v3 v4 v5 v6 : Int32} : b_chg (b_alm_ β i v1 v2 v3 v4 v5 v6) = b_chg β := rfl
theorem ba_frs {β : BS} {i : Nat} {v1 v2 v3 v4 v5 v6 : Int32} : b_frs (b_alm_ β i v1 v2 v3 v4 v5 v6) = b_frs β := rfl
theorem bs_al {G : GG} {z : Nat} {β : BS} {b : Nat → va_E} {i : Nat} (hi : i < 10) {v1 v2 v3 v4 v5 v6 : Int32} : va_up (ctB G z β b) (61 + i) (alO v1 v2 v3 v4 v5 v6) = ctB G z (b_alm_ β i v1 v2 v3 v4 v5 v6) b := by
  funext j
  by_cases hj : j = 61 + i
  · subst hj; rw [va_up_self]; unfold ctB
    rw [if_neg (by omega), if_neg (by omega), if_pos (by omega), show 61 + i - 61 = i by omega]
    simp only [bA, ba_nar, ba_ff, ba_fa, ba_fb, ba_fc, ba_num, ba_bl, ba_cn, ba_cb, ba_xn, ba_xb, ba_yn, ba_yb, ba_a1, ba_a2, ba_a3, ba_a4, ba_a5, ba_a6, ba_acnt, ba_rngs, ba_lat, ba_chg, ba_frs, va_up_self]
  · rw [va_up_ne _ _ hj]; unfold ctB
    by_cases h1 : j < 13
    · rw [if_pos h1, if_pos h1]; simp only [bS, bF, ba_nar, ba_ff, ba_fa, ba_fb, ba_fc, ba_num, ba_bl, ba_cn, ba_cb, ba_xn, ba_xb, ba_yn, ba_yb, ba_a1, ba_a2, ba_a3, ba_a4, ba_a5, ba_a6, ba_acnt, ba_rngs, ba_lat, ba_chg, ba_frs]
    · rw [if_neg h1, if_neg h1]
      by_cases h2 : j < 61
      · rw [if_pos h2, if_pos h2]; simp only [bC, ba_nar, ba_ff, ba_fa, ba_fb, ba_fc, ba_num, ba_bl, ba_cn, ba_cb, ba_xn, ba_xb, ba_yn, ba_yb, ba_a1, ba_a2, ba_a3, ba_a4, ba_a5, ba_a6, ba_acnt, ba_rngs, ba_lat, ba_chg, ba_frs]
      · rw [if_neg h2, if_neg h2]
        by_cases h3 : j < 71
        · rw [if_pos h3, if_pos h3]
          have e2 : j - 61 ≠ i := by omega
          simp only [bA, ba_nar, ba_ff, ba_fa, ba_fb, ba_fc, ba_num, ba_bl, ba_cn, ba_cb, ba_xn, ba_xb, ba_yn, ba_yb, ba_a1, ba_a2, ba_a3, ba_a4, ba_a5, ba_a6, ba_acnt, ba_rngs, ba_lat, ba_chg, ba_frs, va_up_ne _ _ e2]
        · rw [if_neg h3, if_neg h3]
theorem bs_up {G : GG} {z : Nat} {β : BS} {b : Nat → va_E} {k : Nat} {e : va_E} (hk : 71 ≤ k) : va_up (ctB G z β b) k e = ctB G z β (va_up b k e) := by
  funext j
  by_cases hj : j = k
  · subst hj; rw [va_up_self, cb_ge hk, va_up_self]
  · rw [va_up_ne _ _ hj]; unfold ctB
    by_cases h1 : j < 13
    · rw [if_pos h1, if_pos h1]
    · rw [if_neg h1, if_neg h1]
      by_cases h2 : j < 61
      · rw [if_pos h2, if_pos h2]
      · rw [if_neg h2, if_neg h2]
        by_cases h3 : j < 71
        · rw [if_pos h3, if_pos h3]
        · rw [if_neg h3, if_neg h3, va_up_ne _ _ hj]
theorem cb_RK {G : GG} {z : Nat} {β : BS} {b : Nat → va_E} {N i : Nat} (hN : 71 ≤ N) (hi : i < 12) : RK G z (ctB G z β b) N (13 + 4 * i) (b_nar β i) (b_ff β i) (b_fa β i) (b_fb β i) (b_fc β i) (b_xn β) (b_xb β) (b_yn β) (b_yb β) := ⟨⟨by omega, by omega⟩, cb_5, cb_6, cb_7, cb_8, cb_9, cb_10, cb_11, cb_col hi, cb_rd hi⟩
section JB
variable {G : GG} {p : Program} {l : Launch} {e : Env} {R : Room} {s : State} {m : MethodId} {args : Array Value} {below : List Frame} {meth : Method} {c : Code} {cc : ByteArray} {nL : Nat} {own : String} {z : Nat} {ret : Option FieldType} {nme : String} {Q : State → Prop} {ct : Nat → va_E} {N cells slots pc : Nat} {lv : List (Nat × Value)} {st rest : List Value}
theorem jb_C (C : Cx G p s m args meth c cc nL own z ret nme) {i : Int32} (hi : ix i 12) (hN : 1 < N) (he : ct 1 = cQC G 12 (fun j => some (z + (13 + 4 * j)))) (d : decode cc pc = .ok (.aaload, 1)) (k : J G p l e R s m args below meth c z nL Q ct N cells slots (pc + 1) lv (.ref (z + (13 + 4 * i.toNatClampNeg)) :: rest)) : J G p l e R s m args below meth c z nL Q ct N cells slots pc lv (.int i :: .ref (z + 1) :: rest) := j_aaldC (a := some ()) (r := ()) C (if_pos hi) hN he d (fun _ => k)
theorem jb_A (C : Cx G p s m args meth c cc nL own z ret nme) {i : Int32} (hi : ix i 10) (hN : 12 < N) (he : ct 12 = cQA G 10 (fun j => some (z + (61 + j)))) (d : decode cc pc = .ok (.aaload, 1)) (k : J G p l e R s m args below meth c z nL Q ct N cells slots (pc + 1) lv (.ref (z + (61 + i.toNatClampNeg)) :: rest)) : J G p l e R s m args below meth c z nL Q ct N cells slots pc lv (.int i :: .ref (z + 12) :: rest) := j_aaldA (a := some ()) (r := ()) C (if_pos hi) hN he d (fun _ => k)
end JB
