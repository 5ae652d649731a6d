section
-- ===== PART A: goes FIRST, ahead of the names: the tables' words, and 'selects' of the private methods out of them =====
/-- a private method of a class that the tables say can be made, by its rows of tables_1 -/
def lw_okq (q : MethodName × Nat) : Prop := (q.1.cls ≠ "java/lang/invoke/MethodHandle" ∧ q.1.cls ≠ "java/lang/invoke/VarHandle") ∧ Cond.instantiable q.1.cls q.2 ∈ tables_1 ∧ Cond.privateMethod q.1 ∈ tables_1 ∧ Cond.instanceMethod q.1 ∈ tables_1
theorem lw_p0 : lw_okq (⟨"TideBook", "takesReadings", "(I)Z"⟩, 9) := ⟨⟨by decide +kernel, by decide +kernel⟩, List.mem_of_getElem? (i := 16) (by decide +kernel), List.mem_of_getElem? (i := 157) (by decide +kernel), List.mem_of_getElem? (i := 158) (by decide +kernel)⟩
theorem lw_p1 : lw_okq (⟨"TideBook", "hasRoom", "()Z"⟩, 9) := ⟨⟨by decide +kernel, by decide +kernel⟩, List.mem_of_getElem? (i := 16) (by decide +kernel), List.mem_of_getElem? (i := 168) (by decide +kernel), List.mem_of_getElem? (i := 169) (by decide +kernel)⟩
theorem lw_p2 : lw_okq (⟨"TideBook", "remember", "(LTideBook$Change;)V"⟩, 9) := ⟨⟨by decide +kernel, by decide +kernel⟩, List.mem_of_getElem? (i := 16) (by decide +kernel), List.mem_of_getElem? (i := 216) (by decide +kernel), List.mem_of_getElem? (i := 217) (by decide +kernel)⟩
theorem lw_p3 : lw_okq (⟨"TideBook", "refresh", "(I)V"⟩, 9) := ⟨⟨by decide +kernel, by decide +kernel⟩, List.mem_of_getElem? (i := 16) (by decide +kernel), List.mem_of_getElem? (i := 312) (by decide +kernel), List.mem_of_getElem? (i := 313) (by decide +kernel)⟩
theorem lw_p4 : lw_okq (⟨"TideBook", "load", "(LTideBook$Column;)V"⟩, 9) := ⟨⟨by decide +kernel, by decide +kernel⟩, List.mem_of_getElem? (i := 16) (by decide +kernel), List.mem_of_getElem? (i := 319) (by decide +kernel), List.mem_of_getElem? (i := 320) (by decide +kernel)⟩
theorem lw_p5 : lw_okq (⟨"TideBook", "sourceOf", "(I)LTideBook$Readings;"⟩, 9) := ⟨⟨by decide +kernel, by decide +kernel⟩, List.mem_of_getElem? (i := 16) (by decide +kernel), List.mem_of_getElem? (i := 323) (by decide +kernel), List.mem_of_getElem? (i := 324) (by decide +kernel)⟩
theorem lw_p6 : lw_okq (⟨"TideBook$Reckoner", "fromX", "(LTideBook$Column;I)V"⟩, 2) := ⟨⟨by decide +kernel, by decide +kernel⟩, List.mem_of_getElem? (i := 41) (by decide +kernel), List.mem_of_getElem? (i := 336) (by decide +kernel), List.mem_of_getElem? (i := 337) (by decide +kernel)⟩
theorem lw_p7 : lw_okq (⟨"TideBook$Reckoner", "fromBoth", "(LTideBook$Column;I)V"⟩, 2) := ⟨⟨by decide +kernel, by decide +kernel⟩, List.mem_of_getElem? (i := 41) (by decide +kernel), List.mem_of_getElem? (i := 373) (by decide +kernel), List.mem_of_getElem? (i := 374) (by decide +kernel)⟩
theorem lw_p8 : lw_okq (⟨"TideBook$Reckoner", "fromRow", "(LTideBook$Column;I)V"⟩, 2) := ⟨⟨by decide +kernel, by decide +kernel⟩, List.mem_of_getElem? (i := 41) (by decide +kernel), List.mem_of_getElem? (i := 423) (by decide +kernel), List.mem_of_getElem? (i := 424) (by decide +kernel)⟩
theorem lw_p9 : lw_okq (⟨"TideBook$Reckoner", "keep", "(LTideBook$Readings;II)V"⟩, 2) := ⟨⟨by decide +kernel, by decide +kernel⟩, List.mem_of_getElem? (i := 41) (by decide +kernel), List.mem_of_getElem? (i := 427) (by decide +kernel), List.mem_of_getElem? (i := 428) (by decide +kernel)⟩
theorem lw_p10 : lw_okq (⟨"TideBook$Reckoner", "middle", "(LTideBook$Readings;I)V"⟩, 2) := ⟨⟨by decide +kernel, by decide +kernel⟩, List.mem_of_getElem? (i := 41) (by decide +kernel), List.mem_of_getElem? (i := 440) (by decide +kernel), List.mem_of_getElem? (i := 441) (by decide +kernel)⟩
theorem lw_p11 : lw_okq (⟨"TideBook$Reckoner", "extreme", "(LTideBook$Readings;IZ)V"⟩, 2) := ⟨⟨by decide +kernel, by decide +kernel⟩, List.mem_of_getElem? (i := 41) (by decide +kernel), List.mem_of_getElem? (i := 446) (by decide +kernel), List.mem_of_getElem? (i := 447) (by decide +kernel)⟩
theorem lw_p12 : lw_okq (⟨"TideBook$Reckoner", "insert", "(LTideBook$Readings;I)V"⟩, 2) := ⟨⟨by decide +kernel, by decide +kernel⟩, List.mem_of_getElem? (i := 41) (by decide +kernel), List.mem_of_getElem? (i := 450) (by decide +kernel), List.mem_of_getElem? (i := 451) (by decide +kernel)⟩
theorem lw_p13 : lw_okq (⟨"TideBook$Reckoner", "countLess", "(LTideBook$Readings;I)V"⟩, 2) := ⟨⟨by decide +kernel, by decide +kernel⟩, List.mem_of_getElem? (i := 41) (by decide +kernel), List.mem_of_getElem? (i := 455) (by decide +kernel), List.mem_of_getElem? (i := 456) (by decide +kernel)⟩
theorem lw_p14 : lw_okq (⟨"TideBook$Reckoner", "step", "(LTideBook$Readings;IZ)V"⟩, 2) := ⟨⟨by decide +kernel, by decide +kernel⟩, List.mem_of_getElem? (i := 41) (by decide +kernel), List.mem_of_getElem? (i := 459) (by decide +kernel), List.mem_of_getElem? (i := 460) (by decide +kernel)⟩
theorem lw_p15 : lw_okq (⟨"TideBook$Reckoner", "countSo", "(LTideBook$Readings;II)V"⟩, 2) := ⟨⟨by decide +kernel, by decide +kernel⟩, List.mem_of_getElem? (i := 41) (by decide +kernel), List.mem_of_getElem? (i := 464) (by decide +kernel), List.mem_of_getElem? (i := 465) (by decide +kernel)⟩
def lw_privs_1 : List (MethodName × Nat) := [(⟨"TideBook", "takesReadings", "(I)Z"⟩, 9), (⟨"TideBook", "hasRoom", "()Z"⟩, 9), (⟨"TideBook", "remember", "(LTideBook$Change;)V"⟩, 9), (⟨"TideBook", "refresh", "(I)V"⟩, 9), (⟨"TideBook", "load", "(LTideBook$Column;)V"⟩, 9), (⟨"TideBook", "sourceOf", "(I)LTideBook$Readings;"⟩, 9), (⟨"TideBook$Reckoner", "fromX", "(LTideBook$Column;I)V"⟩, 2), (⟨"TideBook$Reckoner", "fromBoth", "(LTideBook$Column;I)V"⟩, 2), (⟨"TideBook$Reckoner", "fromRow", "(LTideBook$Column;I)V"⟩, 2), (⟨"TideBook$Reckoner", "keep", "(LTideBook$Readings;II)V"⟩, 2), (⟨"TideBook$Reckoner", "middle", "(LTideBook$Readings;I)V"⟩, 2), (⟨"TideBook$Reckoner", "extreme", "(LTideBook$Readings;IZ)V"⟩, 2), (⟨"TideBook$Reckoner", "insert", "(LTideBook$Readings;I)V"⟩, 2), (⟨"TideBook$Reckoner", "countLess", "(LTideBook$Readings;I)V"⟩, 2), (⟨"TideBook$Reckoner", "step", "(LTideBook$Readings;IZ)V"⟩, 2), (⟨"TideBook$Reckoner", "countSo", "(LTideBook$Readings;II)V"⟩, 2)]
theorem lw_r1 : ∀ q ∈ lw_privs_1, lw_okq q := List.forall_mem_cons.mpr ⟨lw_p0, List.forall_mem_cons.mpr ⟨lw_p1, List.forall_mem_cons.mpr ⟨lw_p2, List.forall_mem_cons.mpr ⟨lw_p3, List.forall_mem_cons.mpr ⟨lw_p4, List.forall_mem_cons.mpr ⟨lw_p5, List.forall_mem_cons.mpr ⟨lw_p6, List.forall_mem_cons.mpr ⟨lw_p7, List.forall_mem_cons.mpr ⟨lw_p8, List.forall_mem_cons.mpr ⟨lw_p9, List.forall_mem_cons.mpr ⟨lw_p10, List.forall_mem_cons.mpr ⟨lw_p11, List.forall_mem_cons.mpr ⟨lw_p12, List.forall_mem_cons.mpr ⟨lw_p13, List.forall_mem_cons.mpr ⟨lw_p14, List.forall_mem_cons.mpr ⟨lw_p15, fun _ h => absurd h List.not_mem_nil⟩⟩⟩⟩⟩⟩⟩⟩⟩⟩⟩⟩⟩⟩⟩⟩
theorem lw_p16 : lw_okq (⟨"TideBook", "placesWhere", "(LTideBook$Alarm;)I"⟩, 9) := ⟨⟨by decide +kernel, by decide +kernel⟩, List.mem_of_getElem? (i := 16) (by decide +kernel), List.mem_of_getElem? (i := 495) (by decide +kernel), List.mem_of_getElem? (i := 496) (by decide +kernel)⟩
theorem lw_p17 : lw_okq (⟨"TideBook$Alarm", "firstRang", "()I"⟩, 6) := ⟨⟨by decide +kernel, by decide +kernel⟩, List.mem_of_getElem? (i := 95) (by decide +kernel), List.mem_of_getElem? (i := 556) (by decide +kernel), List.mem_of_getElem? (i := 557) (by decide +kernel)⟩
theorem lw_p18 : lw_okq (⟨"TideBook", "toldOfBook", "(I)I"⟩, 9) := ⟨⟨by decide +kernel, by decide +kernel⟩, List.mem_of_getElem? (i := 16) (by decide +kernel), List.mem_of_getElem? (i := 564) (by decide +kernel), List.mem_of_getElem? (i := 565) (by decide +kernel)⟩
theorem lw_p19 : lw_okq (⟨"TideBookModel", "canSet", "(II)Z"⟩, 19) := ⟨⟨by decide +kernel, by decide +kernel⟩, List.mem_of_getElem? (i := 577) (by decide +kernel), List.mem_of_getElem? (i := 651) (by decide +kernel), List.mem_of_getElem? (i := 652) (by decide +kernel)⟩
theorem lw_p20 : lw_okq (⟨"TideBookModel", "picture", "()V"⟩, 19) := ⟨⟨by decide +kernel, by decide +kernel⟩, List.mem_of_getElem? (i := 577) (by decide +kernel), List.mem_of_getElem? (i := 658) (by decide +kernel), List.mem_of_getElem? (i := 659) (by decide +kernel)⟩
theorem lw_p21 : lw_okq (⟨"TideBookModel", "put", "(ID)V"⟩, 19) := ⟨⟨by decide +kernel, by decide +kernel⟩, List.mem_of_getElem? (i := 577) (by decide +kernel), List.mem_of_getElem? (i := 669) (by decide +kernel), List.mem_of_getElem? (i := 670) (by decide +kernel)⟩
theorem lw_p22 : lw_okq (⟨"TideBookModel", "changed", "()I"⟩, 19) := ⟨⟨by decide +kernel, by decide +kernel⟩, List.mem_of_getElem? (i := 577) (by decide +kernel), List.mem_of_getElem? (i := 673) (by decide +kernel), List.mem_of_getElem? (i := 674) (by decide +kernel)⟩
theorem lw_p23 : lw_okq (⟨"TideBookModel", "putSpecial", "(IIZ)V"⟩, 19) := ⟨⟨by decide +kernel, by decide +kernel⟩, List.mem_of_getElem? (i := 577) (by decide +kernel), List.mem_of_getElem? (i := 681) (by decide +kernel), List.mem_of_getElem? (i := 682) (by decide +kernel)⟩
theorem lw_p24 : lw_okq (⟨"TideBookModel", "reckonAll", "()V"⟩, 19) := ⟨⟨by decide +kernel, by decide +kernel⟩, List.mem_of_getElem? (i := 577) (by decide +kernel), List.mem_of_getElem? (i := 708) (by decide +kernel), List.mem_of_getElem? (i := 709) (by decide +kernel)⟩
theorem lw_p25 : lw_okq (⟨"TideBookModel", "reckon", "(II)V"⟩, 19) := ⟨⟨by decide +kernel, by decide +kernel⟩, List.mem_of_getElem? (i := 577) (by decide +kernel), List.mem_of_getElem? (i := 712) (by decide +kernel), List.mem_of_getElem? (i := 713) (by decide +kernel)⟩
theorem lw_p26 : lw_okq (⟨"TideBookModel", "noX", "(II)Z"⟩, 19) := ⟨⟨by decide +kernel, by decide +kernel⟩, List.mem_of_getElem? (i := 577) (by decide +kernel), List.mem_of_getElem? (i := 716) (by decide +kernel), List.mem_of_getElem? (i := 717) (by decide +kernel)⟩
theorem lw_p27 : lw_okq (⟨"TideBookModel", "noY", "(II)Z"⟩, 19) := ⟨⟨by decide +kernel, by decide +kernel⟩, List.mem_of_getElem? (i := 577) (by decide +kernel), List.mem_of_getElem? (i := 723) (by decide +kernel), List.mem_of_getElem? (i := 724) (by decide +kernel)⟩
theorem lw_p28 : lw_okq (⟨"TideBookModel", "givesNothing", "()V"⟩, 19) := ⟨⟨by decide +kernel, by decide +kernel⟩, List.mem_of_getElem? (i := 577) (by decide +kernel), List.mem_of_getElem? (i := 727) (by decide +kernel), List.mem_of_getElem? (i := 728) (by decide +kernel)⟩
theorem lw_p29 : lw_okq (⟨"TideBookModel", "x", "(II)D"⟩, 19) := ⟨⟨by decide +kernel, by decide +kernel⟩, List.mem_of_getElem? (i := 577) (by decide +kernel), List.mem_of_getElem? (i := 731) (by decide +kernel), List.mem_of_getElem? (i := 732) (by decide +kernel)⟩
theorem lw_p30 : lw_okq (⟨"TideBookModel", "single", "(IDZ)V"⟩, 19) := ⟨⟨by decide +kernel, by decide +kernel⟩, List.mem_of_getElem? (i := 577) (by decide +kernel), List.mem_of_getElem? (i := 735) (by decide +kernel), List.mem_of_getElem? (i := 736) (by decide +kernel)⟩
theorem lw_p31 : lw_okq (⟨"TideBookModel", "gives", "(D)V"⟩, 19) := ⟨⟨by decide +kernel, by decide +kernel⟩, List.mem_of_getElem? (i := 577) (by decide +kernel), List.mem_of_getElem? (i := 739) (by decide +kernel), List.mem_of_getElem? (i := 740) (by decide +kernel)⟩
def lw_privs_2 : List (MethodName × Nat) := [(⟨"TideBook", "placesWhere", "(LTideBook$Alarm;)I"⟩, 9), (⟨"TideBook$Alarm", "firstRang", "()I"⟩, 6), (⟨"TideBook", "toldOfBook", "(I)I"⟩, 9), (⟨"TideBookModel", "canSet", "(II)Z"⟩, 19), (⟨"TideBookModel", "picture", "()V"⟩, 19), (⟨"TideBookModel", "put", "(ID)V"⟩, 19), (⟨"TideBookModel", "changed", "()I"⟩, 19), (⟨"TideBookModel", "putSpecial", "(IIZ)V"⟩, 19), (⟨"TideBookModel", "reckonAll", "()V"⟩, 19), (⟨"TideBookModel", "reckon", "(II)V"⟩, 19), (⟨"TideBookModel", "noX", "(II)Z"⟩, 19), (⟨"TideBookModel", "noY", "(II)Z"⟩, 19), (⟨"TideBookModel", "givesNothing", "()V"⟩, 19), (⟨"TideBookModel", "x", "(II)D"⟩, 19), (⟨"TideBookModel", "single", "(IDZ)V"⟩, 19), (⟨"TideBookModel", "gives", "(D)V"⟩, 19)]
theorem lw_r2 : ∀ q ∈ lw_privs_2, lw_okq q := List.forall_mem_cons.mpr ⟨lw_p16, List.forall_mem_cons.mpr ⟨lw_p17, List.forall_mem_cons.mpr ⟨lw_p18, List.forall_mem_cons.mpr ⟨lw_p19, List.forall_mem_cons.mpr ⟨lw_p20, List.forall_mem_cons.mpr ⟨lw_p21, List.forall_mem_cons.mpr ⟨lw_p22, List.forall_mem_cons.mpr ⟨lw_p23, List.forall_mem_cons.mpr ⟨lw_p24, List.forall_mem_cons.mpr ⟨lw_p25, List.forall_mem_cons.mpr ⟨lw_p26, List.forall_mem_cons.mpr ⟨lw_p27, List.forall_mem_cons.mpr ⟨lw_p28, List.forall_mem_cons.mpr ⟨lw_p29, List.forall_mem_cons.mpr ⟨lw_p30, List.forall_mem_cons.mpr ⟨lw_p31, fun _ h => absurd h List.not_mem_nil⟩⟩⟩⟩⟩⟩⟩⟩⟩⟩⟩⟩⟩⟩⟩⟩
theorem lw_p32 : lw_okq (⟨"TideBookModel", "y", "(II)D"⟩, 19) := ⟨⟨by decide +kernel, by decide +kernel⟩, List.mem_of_getElem? (i := 577) (by decide +kernel), List.mem_of_getElem? (i := 767) (by decide +kernel), List.mem_of_getElem? (i := 768) (by decide +kernel)⟩
theorem lw_p33 : lw_okq (⟨"TideBookModel", "both", "(IDDZ)V"⟩, 19) := ⟨⟨by decide +kernel, by decide +kernel⟩, List.mem_of_getElem? (i := 577) (by decide +kernel), List.mem_of_getElem? (i := 771) (by decide +kernel), List.mem_of_getElem? (i := 772) (by decide +kernel)⟩
theorem lw_p34 : lw_okq (⟨"TideBookModel", "difference", "(DDZ)V"⟩, 19) := ⟨⟨by decide +kernel, by decide +kernel⟩, List.mem_of_getElem? (i := 577) (by decide +kernel), List.mem_of_getElem? (i := 781) (by decide +kernel), List.mem_of_getElem? (i := 782) (by decide +kernel)⟩
theorem lw_p35 : lw_okq (⟨"TideBookModel", "compares", "(II)Z"⟩, 19) := ⟨⟨by decide +kernel, by decide +kernel⟩, List.mem_of_getElem? (i := 577) (by decide +kernel), List.mem_of_getElem? (i := 788) (by decide +kernel), List.mem_of_getElem? (i := 789) (by decide +kernel)⟩
theorem lw_p36 : lw_okq (⟨"TideBookModel", "manyX", "(III)I"⟩, 19) := ⟨⟨by decide +kernel, by decide +kernel⟩, List.mem_of_getElem? (i := 577) (by decide +kernel), List.mem_of_getElem? (i := 795) (by decide +kernel), List.mem_of_getElem? (i := 796) (by decide +kernel)⟩
theorem lw_p37 : lw_okq (⟨"TideBookModel", "ranked", "(IIII)V"⟩, 19) := ⟨⟨by decide +kernel, by decide +kernel⟩, List.mem_of_getElem? (i := 577) (by decide +kernel), List.mem_of_getElem? (i := 799) (by decide +kernel), List.mem_of_getElem? (i := 800) (by decide +kernel)⟩
theorem lw_p38 : lw_okq (⟨"TideBookModel", "rank", "(IIII)I"⟩, 19) := ⟨⟨by decide +kernel, by decide +kernel⟩, List.mem_of_getElem? (i := 577) (by decide +kernel), List.mem_of_getElem? (i := 803) (by decide +kernel), List.mem_of_getElem? (i := 804) (by decide +kernel)⟩
theorem lw_p39 : lw_okq (⟨"TideBookModel", "lessThan", "(II)I"⟩, 19) := ⟨⟨by decide +kernel, by decide +kernel⟩, List.mem_of_getElem? (i := 577) (by decide +kernel), List.mem_of_getElem? (i := 807) (by decide +kernel), List.mem_of_getElem? (i := 808) (by decide +kernel)⟩
theorem lw_p40 : lw_okq (⟨"TideBookModel", "manySo", "(II)I"⟩, 19) := ⟨⟨by decide +kernel, by decide +kernel⟩, List.mem_of_getElem? (i := 577) (by decide +kernel), List.mem_of_getElem? (i := 811) (by decide +kernel), List.mem_of_getElem? (i := 812) (by decide +kernel)⟩
theorem lw_p41 : lw_okq (⟨"TideBookModel", "holds", "(II)Z"⟩, 19) := ⟨⟨by decide +kernel, by decide +kernel⟩, List.mem_of_getElem? (i := 577) (by decide +kernel), List.mem_of_getElem? (i := 827) (by decide +kernel), List.mem_of_getElem? (i := 828) (by decide +kernel)⟩
theorem lw_p42 : lw_okq (⟨"TideBookModel", "isThere", "(II)Z"⟩, 19) := ⟨⟨by decide +kernel, by decide +kernel⟩, List.mem_of_getElem? (i := 577) (by decide +kernel), List.mem_of_getElem? (i := 842) (by decide +kernel), List.mem_of_getElem? (i := 843) (by decide +kernel)⟩
def lw_privs_3 : List (MethodName × Nat) := [(⟨"TideBookModel", "y", "(II)D"⟩, 19), (⟨"TideBookModel", "both", "(IDDZ)V"⟩, 19), (⟨"TideBookModel", "difference", "(DDZ)V"⟩, 19), (⟨"TideBookModel", "compares", "(II)Z"⟩, 19), (⟨"TideBookModel", "manyX", "(III)I"⟩, 19), (⟨"TideBookModel", "ranked", "(IIII)V"⟩, 19), (⟨"TideBookModel", "rank", "(IIII)I"⟩, 19), (⟨"TideBookModel", "lessThan", "(II)I"⟩, 19), (⟨"TideBookModel", "manySo", "(II)I"⟩, 19), (⟨"TideBookModel", "holds", "(II)Z"⟩, 19), (⟨"TideBookModel", "isThere", "(II)Z"⟩, 19)]
theorem lw_r3 : ∀ q ∈ lw_privs_3, lw_okq q := List.forall_mem_cons.mpr ⟨lw_p32, List.forall_mem_cons.mpr ⟨lw_p33, List.forall_mem_cons.mpr ⟨lw_p34, List.forall_mem_cons.mpr ⟨lw_p35, List.forall_mem_cons.mpr ⟨lw_p36, List.forall_mem_cons.mpr ⟨lw_p37, List.forall_mem_cons.mpr ⟨lw_p38, List.forall_mem_cons.mpr ⟨lw_p39, List.forall_mem_cons.mpr ⟨lw_p40, List.forall_mem_cons.mpr ⟨lw_p41, List.forall_mem_cons.mpr ⟨lw_p42, fun _ h => absurd h List.not_mem_nil⟩⟩⟩⟩⟩⟩⟩⟩⟩⟩⟩
def lw_privs : List (MethodName × Nat) := lw_privs_1 ++ (lw_privs_2 ++ (lw_privs_3))
def lw_tbl : List Cond := k2_sels lw_privs ++ tables_1
theorem lw_privs_ok : ∀ q ∈ lw_privs, lw_okq q := by
  show ∀ q ∈ lw_privs_1 ++ (lw_privs_2 ++ (lw_privs_3)), lw_okq q
  exact List.forall_mem_append.mpr ⟨lw_r1, List.forall_mem_append.mpr ⟨lw_r2, lw_r3⟩⟩
/-- the streams that the claim lets the run draw from -/
abbrev lw_cs : List Choice := [Jvm.Choice.named "NaN.bits"]
theorem lw_bits : nanBits ∈ lw_cs := by first | decide | exact List.mem_cons_self | simp [lw_cs, nanBits]
end
section
def RX0 : String := "TideBook$Alarm"
def TX0 : u_T := fun k => match k with
  | 0 => ("TideBook$Alarm", "column", "I", false)
  | 1 => ("TideBook$Alarm", "c", "I", false)
  | 2 => ("TideBook$Alarm", "b", "I", false)
  | 3 => ("TideBook$Alarm", "looked", "Z", false)
  | 4 => ("TideBook$Alarm", "held", "I", false)
  | _ => ("TideBook$Alarm", "rang", "I", false)
def tyX0 : Nat → FieldType := fun k => match k with
  | 0 => .int
  | 1 => .int
  | 2 => .int
  | 3 => .boolean
  | 4 => .int
  | _ => .int
abbrev wsX00 : List Cond := u_ws RX0 TX0 6
theorem nmX0 : ∀ a, a < 6 → ∀ b, b < 6 → a ≠ b → (TX0 a).2.1 ≠ (TX0 b).2.1 := by decide +kernel
theorem tyX0_ok : ∀ k, k < 6 → parseFieldDescriptor (TX0 k).2.2.1 = some (tyX0 k) := by decide +kernel
abbrev cX0_init : ByteArray := prog_2_method_1_code
def yX0_init : MethodName := ⟨RX0, "<init>", "()V"⟩
abbrev cX0_look : ByteArray := prog_2_method_2_code
def yX0_look : MethodName := ⟨RX0, "look", "(I)V"⟩
abbrev cX0_answer : ByteArray := prog_2_method_3_code
def yX0_answer : MethodName := ⟨RX0, "answer", "(I)I"⟩
abbrev cX0_firstRang : ByteArray := prog_2_method_4_code
def yX0_firstRang : MethodName := ⟨RX0, "firstRang", "()I"⟩
def RX1 : String := "TideBook$Bits"
def TX1 : u_T := fun k => match k with
  | _ => ("", "", "", false)
def tyX1 : Nat → FieldType := fun k => match k with
  | _ => .int
abbrev wsX10 : List Cond := u_ws RX1 TX1 0
theorem nmX1 : ∀ a, a < 0 → ∀ b, b < 0 → a ≠ b → (TX1 a).2.1 ≠ (TX1 b).2.1 := by decide +kernel
theorem tyX1_ok : ∀ k, k < 0 → parseFieldDescriptor (TX1 k).2.2.1 = some (tyX1 k) := by decide +kernel
abbrev cX1_of : ByteArray := prog_3_method_2_code
def yX1_of : MethodName := ⟨RX1, "of", "(DZ)J"⟩
abbrev cX1_ofInfinite : ByteArray := prog_3_method_3_code
def yX1_ofInfinite : MethodName := ⟨RX1, "ofInfinite", "(Z)J"⟩
abbrev cX1_behindSign : ByteArray := prog_3_method_4_code
def yX1_behindSign : MethodName := ⟨RX1, "behindSign", "(DZ)J"⟩
abbrev cX1_wideDigits : ByteArray := prog_3_method_5_code
def yX1_wideDigits : MethodName := ⟨RX1, "wideDigits", "(J)J"⟩
abbrev cX1_widePower : ByteArray := prog_3_method_6_code
def yX1_widePower : MethodName := ⟨RX1, "widePower", "(J)I"⟩
def RX2 : String := "TideBook$Change"
def TX2 : u_T := fun k => match k with
  | _ => ("", "", "", false)
def tyX2 : Nat → FieldType := fun k => match k with
  | _ => .int
abbrev wsX20 : List Cond := u_ws RX2 TX2 0
theorem nmX2 : ∀ a, a < 0 → ∀ b, b < 0 → a ≠ b → (TX2 a).2.1 ≠ (TX2 b).2.1 := by decide +kernel
theorem tyX2_ok : ∀ k, k < 0 → parseFieldDescriptor (TX2 k).2.2.1 = some (tyX2 k) := by decide +kernel
abbrev cX2_init : ByteArray := prog_4_method_1_code
def yX2_init : MethodName := ⟨RX2, "<init>", "(LTideBook$Change;I)V"⟩
def RX3 : String := "TideBook$Column"
def TX3 : u_T := fun k => match k with
  | 0 => ("TideBook$Column", "readings", "LTideBook$Readings;", true)
  | 1 => ("TideBook$Column", "narrow", "Z", false)
  | 2 => ("TideBook$Column", "f", "I", false)
  | 3 => ("TideBook$Column", "a", "I", false)
  | 4 => ("TideBook$Column", "b", "I", false)
  | _ => ("TideBook$Column", "c", "I", false)
def tyX3 : Nat → FieldType := fun k => match k with
  | 0 => .object "TideBook$Readings"
  | 1 => .boolean
  | 2 => .int
  | 3 => .int
  | 4 => .int
  | _ => .int
abbrev wsX30 : List Cond := u_ws RX3 TX3 6
theorem nmX3 : ∀ a, a < 6 → ∀ b, b < 6 → a ≠ b → (TX3 a).2.1 ≠ (TX3 b).2.1 := by decide +kernel
theorem tyX3_ok : ∀ k, k < 6 → parseFieldDescriptor (TX3 k).2.2.1 = some (tyX3 k) := by decide +kernel
abbrev cX3_init : ByteArray := prog_5_method_1_code
def yX3_init : MethodName := ⟨RX3, "<init>", "()V"⟩
abbrev cX3_hasFormula : ByteArray := prog_5_method_2_code
def yX3_hasFormula : MethodName := ⟨RX3, "hasFormula", "()Z"⟩
abbrev cX3_become : ByteArray := prog_5_method_3_code
def yX3_become : MethodName := ⟨RX3, "become", "(LTideBook$Column;)V"⟩
abbrev cX3_answer : ByteArray := prog_5_method_4_code
def yX3_answer : MethodName := ⟨RX3, "answer", "(I)I"⟩
def RX4 : String := "TideBook$ColumnChange"
def TX4 : u_T := fun k => match k with
  | 0 => ("TideBook$Change", "before", "LTideBook$Change;", true)
  | 1 => ("TideBook$Change", "column", "I", true)
  | 2 => ("TideBook$ColumnChange", "target", "LTideBook$Column;", true)
  | _ => ("TideBook$ColumnChange", "saved", "LTideBook$Column;", true)
def tyX4 : Nat → FieldType := fun k => match k with
  | 0 => .object "TideBook$Change"
  | 1 => .int
  | 2 => .object "TideBook$Column"
  | _ => .object "TideBook$Column"
abbrev wsX40 : List Cond := u_ws RX4 TX4 4
theorem nmX4 : ∀ a, a < 4 → ∀ b, b < 4 → a ≠ b → (TX4 a).2.1 ≠ (TX4 b).2.1 := by decide +kernel
theorem tyX4_ok : ∀ k, k < 4 → parseFieldDescriptor (TX4 k).2.2.1 = some (tyX4 k) := by decide +kernel
abbrev cX4_init : ByteArray := prog_6_method_1_code
def yX4_init : MethodName := ⟨RX4, "<init>", "(LTideBook$Change;ILTideBook$Column;)V"⟩
abbrev cX4_takeBack : ByteArray := prog_6_method_2_code
def yX4_takeBack : MethodName := ⟨RX4, "takeBack", "()V"⟩
def RX5 : String := "TideBook$Comparison"
def TX5 : u_T := fun k => match k with
  | _ => ("", "", "", false)
def tyX5 : Nat → FieldType := fun k => match k with
  | _ => .int
abbrev wsX50 : List Cond := u_ws RX5 TX5 0
theorem nmX5 : ∀ a, a < 0 → ∀ b, b < 0 → a ≠ b → (TX5 a).2.1 ≠ (TX5 b).2.1 := by decide +kernel
theorem tyX5_ok : ∀ k, k < 0 → parseFieldDescriptor (TX5 k).2.2.1 = some (tyX5 k) := by decide +kernel
abbrev cX5_isSo : ByteArray := prog_7_method_2_code
def yX5_isSo : MethodName := ⟨RX5, "isSo", "(ILTideBook$Readings;ILTideBook$Readings;I)Z"⟩
abbrev cX5_isSoOf : ByteArray := prog_7_method_3_code
def yX5_isSoOf : MethodName := ⟨RX5, "isSoOf", "(IDD)Z"⟩
def RX6 : String := "TideBook$Numbers"
def TX6 : u_T := fun k => match k with
  | _ => ("", "", "", false)
def tyX6 : Nat → FieldType := fun k => match k with
  | _ => .int
abbrev wsX60 : List Cond := u_ws RX6 TX6 0
theorem nmX6 : ∀ a, a < 0 → ∀ b, b < 0 → a ≠ b → (TX6 a).2.1 ≠ (TX6 b).2.1 := by decide +kernel
theorem tyX6_ok : ∀ k, k < 0 → parseFieldDescriptor (TX6 k).2.2.1 = some (tyX6 k) := by decide +kernel
abbrev cX6_brought : ByteArray := prog_8_method_2_code
def yX6_brought : MethodName := ⟨RX6, "brought", "(DZ)D"⟩
abbrev cX6_twoTo : ByteArray := prog_8_method_3_code
def yX6_twoTo : MethodName := ⟨RX6, "twoTo", "(I)D"⟩
abbrev cX6_named : ByteArray := prog_8_method_4_code
def yX6_named : MethodName := ⟨RX6, "named", "(IZ)D"⟩
abbrev cX6_isInfinite : ByteArray := prog_8_method_5_code
def yX6_isInfinite : MethodName := ⟨RX6, "isInfinite", "(D)Z"⟩
abbrev cX6_hasMinus : ByteArray := prog_8_method_6_code
def yX6_hasMinus : MethodName := ⟨RX6, "hasMinus", "(D)Z"⟩
abbrev cX6_withSign : ByteArray := prog_8_method_7_code
def yX6_withSign : MethodName := ⟨RX6, "withSign", "(DZ)D"⟩
abbrev cX6_isBelow : ByteArray := prog_8_method_8_code
def yX6_isBelow : MethodName := ⟨RX6, "isBelow", "(DD)Z"⟩
abbrev cX6_lesser : ByteArray := prog_8_method_9_code
def yX6_lesser : MethodName := ⟨RX6, "lesser", "(DD)D"⟩
abbrev cX6_greater : ByteArray := prog_8_method_10_code
def yX6_greater : MethodName := ⟨RX6, "greater", "(DD)D"⟩
abbrev cX6_ofOne : ByteArray := prog_8_method_11_code
def yX6_ofOne : MethodName := ⟨RX6, "ofOne", "(IDZ)D"⟩
abbrev cX6_isVoid : ByteArray := prog_8_method_12_code
def yX6_isVoid : MethodName := ⟨RX6, "isVoid", "(IDD)Z"⟩
abbrev cX6_ofTwo : ByteArray := prog_8_method_13_code
def yX6_ofTwo : MethodName := ⟨RX6, "ofTwo", "(IDDZ)D"⟩
abbrev cX6_sum : ByteArray := prog_8_method_14_code
def yX6_sum : MethodName := ⟨RX6, "sum", "(DDZ)D"⟩
abbrev cX6_product : ByteArray := prog_8_method_15_code
def yX6_product : MethodName := ⟨RX6, "product", "(DDZ)D"⟩
abbrev cX6_quotient : ByteArray := prog_8_method_16_code
def yX6_quotient : MethodName := ⟨RX6, "quotient", "(DDZ)D"⟩
abbrev cX6_isSurelyWhole : ByteArray := prog_8_method_17_code
def yX6_isSurelyWhole : MethodName := ⟨RX6, "isSurelyWhole", "(D)Z"⟩
abbrev cX6_floor : ByteArray := prog_8_method_18_code
def yX6_floor : MethodName := ⟨RX6, "floor", "(D)D"⟩
abbrev cX6_nearest : ByteArray := prog_8_method_19_code
def yX6_nearest : MethodName := ⟨RX6, "nearest", "(D)D"⟩
abbrev cX6_zeroLike : ByteArray := prog_8_method_20_code
def yX6_zeroLike : MethodName := ⟨RX6, "zeroLike", "(D)D"⟩
abbrev cX6_remainder : ByteArray := prog_8_method_21_code
def yX6_remainder : MethodName := ⟨RX6, "remainder", "(DD)D"⟩
def RX7 : String := "TideBook$ReadingChange"
def TX7 : u_T := fun k => match k with
  | 0 => ("TideBook$Change", "before", "LTideBook$Change;", true)
  | 1 => ("TideBook$Change", "column", "I", true)
  | 2 => ("TideBook$ReadingChange", "readings", "LTideBook$Readings;", true)
  | 3 => ("TideBook$ReadingChange", "place", "I", true)
  | 4 => ("TideBook$ReadingChange", "number", "D", true)
  | _ => ("TideBook$ReadingChange", "blank", "Z", true)
def tyX7 : Nat → FieldType := fun k => match k with
  | 0 => .object "TideBook$Change"
  | 1 => .int
  | 2 => .object "TideBook$Readings"
  | 3 => .int
  | 4 => .double
  | _ => .boolean
abbrev wsX70 : List Cond := u_ws RX7 TX7 6
theorem nmX7 : ∀ a, a < 6 → ∀ b, b < 6 → a ≠ b → (TX7 a).2.1 ≠ (TX7 b).2.1 := by decide +kernel
theorem tyX7_ok : ∀ k, k < 6 → parseFieldDescriptor (TX7 k).2.2.1 = some (tyX7 k) := by decide +kernel
abbrev cX7_init : ByteArray := prog_9_method_1_code
def yX7_init : MethodName := ⟨RX7, "<init>", "(LTideBook$Change;ILTideBook$Readings;I)V"⟩
abbrev cX7_takeBack : ByteArray := prog_9_method_2_code
def yX7_takeBack : MethodName := ⟨RX7, "takeBack", "()V"⟩
def RX8 : String := "TideBook$Readings"
def TX8 : u_T := fun k => match k with
  | 0 => ("TideBook$Readings", "numbers", "[D", true)
  | _ => ("TideBook$Readings", "blanks", "[Z", true)
def tyX8 : Nat → FieldType := fun k => match k with
  | 0 => .array .double
  | _ => .array .boolean
abbrev wsX80 : List Cond := u_ws RX8 TX8 2
theorem nmX8 : ∀ a, a < 2 → ∀ b, b < 2 → a ≠ b → (TX8 a).2.1 ≠ (TX8 b).2.1 := by decide +kernel
theorem tyX8_ok : ∀ k, k < 2 → parseFieldDescriptor (TX8 k).2.2.1 = some (tyX8 k) := by decide +kernel
abbrev cX8_init : ByteArray := prog_10_method_1_code
def yX8_init : MethodName := ⟨RX8, "<init>", "(I)V"⟩
abbrev cX8_blankAt : ByteArray := prog_10_method_2_code
def yX8_blankAt : MethodName := ⟨RX8, "blankAt", "(I)Z"⟩
abbrev cX8_at : ByteArray := prog_10_method_3_code
def yX8_at : MethodName := ⟨RX8, "at", "(I)D"⟩
abbrev cX8_put : ByteArray := prog_10_method_4_code
def yX8_put : MethodName := ⟨RX8, "put", "(ID)V"⟩
abbrev cX8_clear : ByteArray := prog_10_method_5_code
def yX8_clear : MethodName := ⟨RX8, "clear", "(I)V"⟩
abbrev cX8_putSpecial : ByteArray := prog_10_method_6_code
def yX8_putSpecial : MethodName := ⟨RX8, "putSpecial", "(IIZ)V"⟩
abbrev cX8_putBrought : ByteArray := prog_10_method_7_code
def yX8_putBrought : MethodName := ⟨RX8, "putBrought", "(ILTideBook$Readings;IZ)V"⟩
abbrev cX8_countBlanks : ByteArray := prog_10_method_8_code
def yX8_countBlanks : MethodName := ⟨RX8, "countBlanks", "()I"⟩
def RX9 : String := "TideBook$Reckoner"
def TX9 : u_T := fun k => match k with
  | 0 => ("TideBook$Reckoner", "x", "LTideBook$Readings;", true)
  | _ => ("TideBook$Reckoner", "y", "LTideBook$Readings;", true)
def tyX9 : Nat → FieldType := fun k => match k with
  | 0 => .object "TideBook$Readings"
  | _ => .object "TideBook$Readings"
abbrev wsX90 : List Cond := u_ws RX9 TX9 2
theorem nmX9 : ∀ a, a < 2 → ∀ b, b < 2 → a ≠ b → (TX9 a).2.1 ≠ (TX9 b).2.1 := by decide +kernel
theorem tyX9_ok : ∀ k, k < 2 → parseFieldDescriptor (TX9 k).2.2.1 = some (tyX9 k) := by decide +kernel
abbrev cX9_init : ByteArray := prog_11_method_1_code
def yX9_init : MethodName := ⟨RX9, "<init>", "()V"⟩
abbrev cX9_reckon : ByteArray := prog_11_method_2_code
def yX9_reckon : MethodName := ⟨RX9, "reckon", "(LTideBook$Column;)V"⟩
abbrev cX9_fromX : ByteArray := prog_11_method_3_code
def yX9_fromX : MethodName := ⟨RX9, "fromX", "(LTideBook$Column;I)V"⟩
abbrev cX9_fromBoth : ByteArray := prog_11_method_4_code
def yX9_fromBoth : MethodName := ⟨RX9, "fromBoth", "(LTideBook$Column;I)V"⟩
abbrev cX9_fromRow : ByteArray := prog_11_method_5_code
def yX9_fromRow : MethodName := ⟨RX9, "fromRow", "(LTideBook$Column;I)V"⟩
abbrev cX9_keep : ByteArray := prog_11_method_6_code
def yX9_keep : MethodName := ⟨RX9, "keep", "(LTideBook$Readings;II)V"⟩
abbrev cX9_middle : ByteArray := prog_11_method_7_code
def yX9_middle : MethodName := ⟨RX9, "middle", "(LTideBook$Readings;I)V"⟩
abbrev cX9_extreme : ByteArray := prog_11_method_8_code
def yX9_extreme : MethodName := ⟨RX9, "extreme", "(LTideBook$Readings;IZ)V"⟩
abbrev cX9_insert : ByteArray := prog_11_method_9_code
def yX9_insert : MethodName := ⟨RX9, "insert", "(LTideBook$Readings;I)V"⟩
abbrev cX9_countLess : ByteArray := prog_11_method_10_code
def yX9_countLess : MethodName := ⟨RX9, "countLess", "(LTideBook$Readings;I)V"⟩
abbrev cX9_step : ByteArray := prog_11_method_11_code
def yX9_step : MethodName := ⟨RX9, "step", "(LTideBook$Readings;IZ)V"⟩
abbrev cX9_countSo : ByteArray := prog_11_method_12_code
def yX9_countSo : MethodName := ⟨RX9, "countSo", "(LTideBook$Readings;II)V"⟩
def RX10 : String := "TideBook"
def TX10 : u_T := fun k => match k with
  | 0 => ("TideBook", "columns", "[LTideBook$Column;", true)
  | 1 => ("TideBook", "constants", "LTideBook$Readings;", true)
  | 2 => ("TideBook", "reckoner", "LTideBook$Reckoner;", true)
  | 3 => ("TideBook", "alarms", "[LTideBook$Alarm;", true)
  | 4 => ("TideBook", "alarmCount", "I", false)
  | 5 => ("TideBook", "rings", "I", false)
  | 6 => ("TideBook", "latest", "LTideBook$Change;", false)
  | 7 => ("TideBook", "changes", "I", false)
  | _ => ("TideBook", "fresh", "I", false)
def tyX10 : Nat → FieldType := fun k => match k with
  | 0 => .array (.object "TideBook$Column")
  | 1 => .object "TideBook$Readings"
  | 2 => .object "TideBook$Reckoner"
  | 3 => .array (.object "TideBook$Alarm")
  | 4 => .int
  | 5 => .int
  | 6 => .object "TideBook$Change"
  | 7 => .int
  | _ => .int
abbrev wsX100 : List Cond := u_ws RX10 TX10 9
theorem nmX10 : ∀ a, a < 9 → ∀ b, b < 9 → a ≠ b → (TX10 a).2.1 ≠ (TX10 b).2.1 := by decide +kernel
theorem tyX10_ok : ∀ k, k < 9 → parseFieldDescriptor (TX10 k).2.2.1 = some (tyX10 k) := by decide +kernel
abbrev cX10_init : ByteArray := prog_1_method_1_code
def yX10_init : MethodName := ⟨RX10, "<init>", "()V"⟩
abbrev cX10_set : ByteArray := prog_1_method_2_code
def yX10_set : MethodName := ⟨RX10, "set", "(IIII)I"⟩
abbrev cX10_special : ByteArray := prog_1_method_3_code
def yX10_special : MethodName := ⟨RX10, "special", "(III)I"⟩
abbrev cX10_constant : ByteArray := prog_1_method_4_code
def yX10_constant : MethodName := ⟨RX10, "constant", "(III)I"⟩
abbrev cX10_constantSpecial : ByteArray := prog_1_method_5_code
def yX10_constantSpecial : MethodName := ⟨RX10, "constantSpecial", "(II)I"⟩
abbrev cX10_formula : ByteArray := prog_1_method_6_code
def yX10_formula : MethodName := ⟨RX10, "formula", "(IIIII)I"⟩
abbrev cX10_input : ByteArray := prog_1_method_7_code
def yX10_input : MethodName := ⟨RX10, "input", "(I)I"⟩
abbrev cX10_width : ByteArray := prog_1_method_8_code
def yX10_width : MethodName := ⟨RX10, "width", "(IZ)I"⟩
abbrev cX10_back : ByteArray := prog_1_method_9_code
def yX10_back : MethodName := ⟨RX10, "back", "()I"⟩
abbrev cX10_alarm : ByteArray := prog_1_method_10_code
def yX10_alarm : MethodName := ⟨RX10, "alarm", "(III)I"⟩
abbrev cX10_ring : ByteArray := prog_1_method_11_code
def yX10_ring : MethodName := ⟨RX10, "ring", "()I"⟩
abbrev cX10_reading : ByteArray := prog_1_method_12_code
def yX10_reading : MethodName := ⟨RX10, "reading", "(II)D"⟩
abbrev cX10_isBlank : ByteArray := prog_1_method_13_code
def yX10_isBlank : MethodName := ⟨RX10, "isBlank", "(II)Z"⟩
abbrev cX10_isMinus : ByteArray := prog_1_method_14_code
def yX10_isMinus : MethodName := ⟨RX10, "isMinus", "(II)Z"⟩
abbrev cX10_bits : ByteArray := prog_1_method_15_code
def yX10_bits : MethodName := ⟨RX10, "bits", "(II)J"⟩
abbrev cX10_compared : ByteArray := prog_1_method_16_code
def yX10_compared : MethodName := ⟨RX10, "compared", "(III)I"⟩
abbrev cX10_alarmed : ByteArray := prog_1_method_17_code
def yX10_alarmed : MethodName := ⟨RX10, "alarmed", "(II)I"⟩
abbrev cX10_told : ByteArray := prog_1_method_18_code
def yX10_told : MethodName := ⟨RX10, "told", "(II)I"⟩
abbrev cX10_toldOfBook : ByteArray := prog_1_method_19_code
def yX10_toldOfBook : MethodName := ⟨RX10, "toldOfBook", "(I)I"⟩
abbrev cX10_isColumn : ByteArray := prog_1_method_20_code
def yX10_isColumn : MethodName := ⟨RX10, "isColumn", "(I)Z"⟩
abbrev cX10_isPlace : ByteArray := prog_1_method_21_code
def yX10_isPlace : MethodName := ⟨RX10, "isPlace", "(I)Z"⟩
abbrev cX10_isConstant : ByteArray := prog_1_method_22_code
def yX10_isConstant : MethodName := ⟨RX10, "isConstant", "(I)Z"⟩
abbrev cX10_isConstantSource : ByteArray := prog_1_method_23_code
def yX10_isConstantSource : MethodName := ⟨RX10, "isConstantSource", "(I)Z"⟩
abbrev cX10_isComparison : ByteArray := prog_1_method_24_code
def yX10_isComparison : MethodName := ⟨RX10, "isComparison", "(I)Z"⟩
abbrev cX10_isSpecial : ByteArray := prog_1_method_25_code
def yX10_isSpecial : MethodName := ⟨RX10, "isSpecial", "(I)Z"⟩
abbrev cX10_isPower : ByteArray := prog_1_method_26_code
def yX10_isPower : MethodName := ⟨RX10, "isPower", "(I)Z"⟩
abbrev cX10_hasRoom : ByteArray := prog_1_method_27_code
def yX10_hasRoom : MethodName := ⟨RX10, "hasRoom", "()Z"⟩
abbrev cX10_takesReadings : ByteArray := prog_1_method_28_code
def yX10_takesReadings : MethodName := ⟨RX10, "takesReadings", "(I)Z"⟩
abbrev cX10_remember : ByteArray := prog_1_method_29_code
def yX10_remember : MethodName := ⟨RX10, "remember", "(LTideBook$Change;)V"⟩
abbrev cX10_refresh : ByteArray := prog_1_method_30_code
def yX10_refresh : MethodName := ⟨RX10, "refresh", "(I)V"⟩
abbrev cX10_load : ByteArray := prog_1_method_31_code
def yX10_load : MethodName := ⟨RX10, "load", "(LTideBook$Column;)V"⟩
abbrev cX10_sourceOf : ByteArray := prog_1_method_32_code
def yX10_sourceOf : MethodName := ⟨RX10, "sourceOf", "(I)LTideBook$Readings;"⟩
abbrev cX10_placeIn : ByteArray := prog_1_method_33_code
def yX10_placeIn : MethodName := ⟨RX10, "placeIn", "(II)I"⟩
abbrev cX10_placesWhere : ByteArray := prog_1_method_34_code
def yX10_placesWhere : MethodName := ⟨RX10, "placesWhere", "(LTideBook$Alarm;)I"⟩
def RX11 : String := "TideBookModel"
def TX11 : u_T := fun k => match k with
  | 0 => ("TideBookModel", "told", "[D", true)
  | 1 => ("TideBookModel", "blank", "[Z", true)
  | 2 => ("TideBookModel", "narrow", "[Z", true)
  | 3 => ("TideBookModel", "made", "[I", true)
  | 4 => ("TideBookModel", "now", "[D", true)
  | 5 => ("TideBookModel", "none", "[Z", true)
  | 6 => ("TideBookModel", "toldThen", "[D", true)
  | 7 => ("TideBookModel", "blankThen", "[Z", true)
  | 8 => ("TideBookModel", "narrowThen", "[Z", true)
  | 9 => ("TideBookModel", "madeThen", "[I", true)
  | 10 => ("TideBookModel", "changes", "I", false)
  | 11 => ("TideBookModel", "alarms", "[I", true)
  | 12 => ("TideBookModel", "held", "[I", true)
  | 13 => ("TideBookModel", "rang", "[I", true)
  | 14 => ("TideBookModel", "looked", "[Z", true)
  | 15 => ("TideBookModel", "alarmMany", "I", false)
  | 16 => ("TideBookModel", "rings", "I", false)
  | 17 => ("TideBookModel", "worth", "D", false)
  | _ => ("TideBookModel", "isNone", "Z", false)
def tyX11 : Nat → FieldType := fun k => match k with
  | 0 => .array .double
  | 1 => .array .boolean
  | 2 => .array .boolean
  | 3 => .array .int
  | 4 => .array .double
  | 5 => .array .boolean
  | 6 => .array .double
  | 7 => .array .boolean
  | 8 => .array .boolean
  | 9 => .array .int
  | 10 => .int
  | 11 => .array .int
  | 12 => .array .int
  | 13 => .array .int
  | 14 => .array .boolean
  | 15 => .int
  | 16 => .int
  | 17 => .double
  | _ => .boolean
abbrev wsX110 : List Cond := u_ws RX11 TX11 19
theorem nmX11 : ∀ a, a < 19 → ∀ b, b < 19 → a ≠ b → (TX11 a).2.1 ≠ (TX11 b).2.1 := by decide +kernel
theorem tyX11_ok : ∀ k, k < 19 → parseFieldDescriptor (TX11 k).2.2.1 = some (tyX11 k) := by decide +kernel
abbrev cX11_init : ByteArray := prog_13_method_1_code
def yX11_init : MethodName := ⟨RX11, "<init>", "()V"⟩
abbrev cX11_isIn : ByteArray := prog_13_method_2_code
def yX11_isIn : MethodName := ⟨RX11, "isIn", "(III)Z"⟩
abbrev cX11_isZero : ByteArray := prog_13_method_3_code
def yX11_isZero : MethodName := ⟨RX11, "isZero", "(D)Z"⟩
abbrev cX11_isInfinite : ByteArray := prog_13_method_4_code
def yX11_isInfinite : MethodName := ⟨RX11, "isInfinite", "(D)Z"⟩
abbrev cX11_hasMinus : ByteArray := prog_13_method_5_code
def yX11_hasMinus : MethodName := ⟨RX11, "hasMinus", "(D)Z"⟩
abbrev cX11_zero : ByteArray := prog_13_method_6_code
def yX11_zero : MethodName := ⟨RX11, "zero", "(Z)D"⟩
abbrev cX11_brought : ByteArray := prog_13_method_7_code
def yX11_brought : MethodName := ⟨RX11, "brought", "(DZ)D"⟩
abbrev cX11_isLower : ByteArray := prog_13_method_8_code
def yX11_isLower : MethodName := ⟨RX11, "isLower", "(DD)Z"⟩
abbrev cX11_isSo : ByteArray := prog_13_method_9_code
def yX11_isSo : MethodName := ⟨RX11, "isSo", "(IDZDZ)Z"⟩
abbrev cX11_whole : ByteArray := prog_13_method_10_code
def yX11_whole : MethodName := ⟨RX11, "whole", "(DI)D"⟩
abbrev cX11_sum : ByteArray := prog_13_method_11_code
def yX11_sum : MethodName := ⟨RX11, "sum", "(DDZ)D"⟩
abbrev cX11_product : ByteArray := prog_13_method_12_code
def yX11_product : MethodName := ⟨RX11, "product", "(DDZ)D"⟩
abbrev cX11_quotient : ByteArray := prog_13_method_13_code
def yX11_quotient : MethodName := ⟨RX11, "quotient", "(DDZ)D"⟩
abbrev cX11_power : ByteArray := prog_13_method_14_code
def yX11_power : MethodName := ⟨RX11, "power", "(II)D"⟩
abbrev cX11_gives : ByteArray := prog_13_method_15_code
def yX11_gives : MethodName := ⟨RX11, "gives", "(D)V"⟩
abbrev cX11_givesNothing : ByteArray := prog_13_method_16_code
def yX11_givesNothing : MethodName := ⟨RX11, "givesNothing", "()V"⟩
abbrev cX11_at : ByteArray := prog_13_method_17_code
def yX11_at : MethodName := ⟨RX11, "at", "(II)I"⟩
abbrev cX11_single : ByteArray := prog_13_method_18_code
def yX11_single : MethodName := ⟨RX11, "single", "(IDZ)V"⟩
abbrev cX11_difference : ByteArray := prog_13_method_19_code
def yX11_difference : MethodName := ⟨RX11, "difference", "(DDZ)V"⟩
abbrev cX11_both : ByteArray := prog_13_method_20_code
def yX11_both : MethodName := ⟨RX11, "both", "(IDDZ)V"⟩
abbrev cX11_x : ByteArray := prog_13_method_21_code
def yX11_x : MethodName := ⟨RX11, "x", "(II)D"⟩
abbrev cX11_noX : ByteArray := prog_13_method_22_code
def yX11_noX : MethodName := ⟨RX11, "noX", "(II)Z"⟩
abbrev cX11_y : ByteArray := prog_13_method_23_code
def yX11_y : MethodName := ⟨RX11, "y", "(II)D"⟩
abbrev cX11_noY : ByteArray := prog_13_method_24_code
def yX11_noY : MethodName := ⟨RX11, "noY", "(II)Z"⟩
abbrev cX11_compares : ByteArray := prog_13_method_25_code
def yX11_compares : MethodName := ⟨RX11, "compares", "(II)Z"⟩
abbrev cX11_rank : ByteArray := prog_13_method_26_code
def yX11_rank : MethodName := ⟨RX11, "rank", "(IIII)I"⟩
abbrev cX11_ranked : ByteArray := prog_13_method_27_code
def yX11_ranked : MethodName := ⟨RX11, "ranked", "(IIII)V"⟩
abbrev cX11_manyX : ByteArray := prog_13_method_28_code
def yX11_manyX : MethodName := ⟨RX11, "manyX", "(III)I"⟩
abbrev cX11_lessThan : ByteArray := prog_13_method_29_code
def yX11_lessThan : MethodName := ⟨RX11, "lessThan", "(II)I"⟩
abbrev cX11_manySo : ByteArray := prog_13_method_30_code
def yX11_manySo : MethodName := ⟨RX11, "manySo", "(II)I"⟩
abbrev cX11_reckon : ByteArray := prog_13_method_31_code
def yX11_reckon : MethodName := ⟨RX11, "reckon", "(II)V"⟩
abbrev cX11_reckonAll : ByteArray := prog_13_method_32_code
def yX11_reckonAll : MethodName := ⟨RX11, "reckonAll", "()V"⟩
abbrev cX11_changed : ByteArray := prog_13_method_33_code
def yX11_changed : MethodName := ⟨RX11, "changed", "()I"⟩
abbrev cX11_picture : ByteArray := prog_13_method_34_code
def yX11_picture : MethodName := ⟨RX11, "picture", "()V"⟩
abbrev cX11_back : ByteArray := prog_13_method_35_code
def yX11_back : MethodName := ⟨RX11, "back", "()I"⟩
abbrev cX11_canSet : ByteArray := prog_13_method_36_code
def yX11_canSet : MethodName := ⟨RX11, "canSet", "(II)Z"⟩
abbrev cX11_put : ByteArray := prog_13_method_37_code
def yX11_put : MethodName := ⟨RX11, "put", "(ID)V"⟩
abbrev cX11_putSpecial : ByteArray := prog_13_method_38_code
def yX11_putSpecial : MethodName := ⟨RX11, "putSpecial", "(IIZ)V"⟩
abbrev cX11_set : ByteArray := prog_13_method_39_code
def yX11_set : MethodName := ⟨RX11, "set", "(IIII)I"⟩
abbrev cX11_special : ByteArray := prog_13_method_40_code
def yX11_special : MethodName := ⟨RX11, "special", "(III)I"⟩
abbrev cX11_constant : ByteArray := prog_13_method_41_code
def yX11_constant : MethodName := ⟨RX11, "constant", "(III)I"⟩
abbrev cX11_constantSpecial : ByteArray := prog_13_method_42_code
def yX11_constantSpecial : MethodName := ⟨RX11, "constantSpecial", "(II)I"⟩
abbrev cX11_formula : ByteArray := prog_13_method_43_code
def yX11_formula : MethodName := ⟨RX11, "formula", "(IIIII)I"⟩
abbrev cX11_input : ByteArray := prog_13_method_44_code
def yX11_input : MethodName := ⟨RX11, "input", "(I)I"⟩
abbrev cX11_width : ByteArray := prog_13_method_45_code
def yX11_width : MethodName := ⟨RX11, "width", "(IZ)I"⟩
abbrev cX11_alarm : ByteArray := prog_13_method_46_code
def yX11_alarm : MethodName := ⟨RX11, "alarm", "(III)I"⟩
abbrev cX11_holds : ByteArray := prog_13_method_47_code
def yX11_holds : MethodName := ⟨RX11, "holds", "(II)Z"⟩
abbrev cX11_manyBits : ByteArray := prog_13_method_48_code
def yX11_manyBits : MethodName := ⟨RX11, "manyBits", "(I)I"⟩
abbrev cX11_ring : ByteArray := prog_13_method_49_code
def yX11_ring : MethodName := ⟨RX11, "ring", "()I"⟩
abbrev cX11_alarmed : ByteArray := prog_13_method_50_code
def yX11_alarmed : MethodName := ⟨RX11, "alarmed", "(II)I"⟩
abbrev cX11_isThere : ByteArray := prog_13_method_51_code
def yX11_isThere : MethodName := ⟨RX11, "isThere", "(II)Z"⟩
abbrev cX11_reading : ByteArray := prog_13_method_52_code
def yX11_reading : MethodName := ⟨RX11, "reading", "(II)D"⟩
abbrev cX11_isBlank : ByteArray := prog_13_method_53_code
def yX11_isBlank : MethodName := ⟨RX11, "isBlank", "(II)Z"⟩
abbrev cX11_isMinus : ByteArray := prog_13_method_54_code
def yX11_isMinus : MethodName := ⟨RX11, "isMinus", "(II)Z"⟩
abbrev cX11_digits : ByteArray := prog_13_method_55_code
def yX11_digits : MethodName := ⟨RX11, "digits", "(DIII)J"⟩
abbrev cX11_bits : ByteArray := prog_13_method_56_code
def yX11_bits : MethodName := ⟨RX11, "bits", "(II)J"⟩
abbrev cX11_compared : ByteArray := prog_13_method_57_code
def yX11_compared : MethodName := ⟨RX11, "compared", "(III)I"⟩
abbrev cX11_told : ByteArray := prog_13_method_58_code
def yX11_told : MethodName := ⟨RX11, "told", "(II)I"⟩
def RJ6 : String := "java/lang/Integer"
def TJ6 : u_T := fun k => match k with
  | _ => ("", "", "", false)
def tyJ6 : Nat → FieldType := fun k => match k with
  | _ => .int
abbrev wsJ60 : List Cond := u_ws RJ6 TJ6 0
theorem nmJ6 : ∀ a, a < 0 → ∀ b, b < 0 → a ≠ b → (TJ6 a).2.1 ≠ (TJ6 b).2.1 := by decide +kernel
theorem tyJ6_ok : ∀ k, k < 0 → parseFieldDescriptor (TJ6 k).2.2.1 = some (tyJ6 k) := by decide +kernel
abbrev cJ6_bitCount_0f7a4 : ByteArray := prog_14_method_49_code
def yJ6_bitCount_0f7a4 : MethodName := ⟨RJ6, "bitCount", "(I)I"⟩
def RJ9 : String := "java/lang/Math"
def TJ9 : u_T := fun k => match k with
  | _ => ("", "", "", false)
def tyJ9 : Nat → FieldType := fun k => match k with
  | _ => .int
abbrev wsJ90 : List Cond := u_ws RJ9 TJ9 0
theorem nmJ9 : ∀ a, a < 0 → ∀ b, b < 0 → a ≠ b → (TJ9 a).2.1 ≠ (TJ9 b).2.1 := by decide +kernel
theorem tyJ9_ok : ∀ k, k < 0 → parseFieldDescriptor (TJ9 k).2.2.1 = some (tyJ9 k) := by decide +kernel
abbrev cJ9_max_7cf53 : ByteArray := prog_15_method_65_code
def yJ9_max_7cf53 : MethodName := ⟨RJ9, "max", "(II)I"⟩
abbrev cJ9_min_7cf53 : ByteArray := prog_15_method_69_code
def yJ9_min_7cf53 : MethodName := ⟨RJ9, "min", "(II)I"⟩
def RL : String := "TideBookLaw"
abbrev cL_law : ByteArray := code
def yL_law : MethodName := ⟨RL, "law", "([I)Z"⟩
abbrev vwCl : List vw_C := [(RX0, TX0, 6), (RX3, TX3, 6), (RX4, TX4, 4), (RX7, TX7, 6), (RX8, TX8, 2), (RX9, TX9, 2), (RX10, TX10, 9), (RX11, TX11, 19)]
end
section
def lw_good : List Cond := lw_tbl.filter goodWord
theorem lw_mem {w : Cond} (h : w ∈ lw_tbl) (hg : goodWord w = true) : w ∈ lw_good := List.mem_filter.mpr ⟨h, hg⟩
theorem mt1 {w : Cond} (h : w ∈ tables_1_1) : w ∈ lw_tbl := List.mem_append_right _ (List.mem_append_left _ h)
theorem mt2 {w : Cond} (h : w ∈ tables_1_2) : w ∈ lw_tbl := List.mem_append_right _ (List.mem_append_right _ (List.mem_append_left _ h))
theorem mt3 {w : Cond} (h : w ∈ tables_1_3) : w ∈ lw_tbl := List.mem_append_right _ (List.mem_append_right _ (List.mem_append_right _ (List.mem_append_left _ h)))
theorem mt4 {w : Cond} (h : w ∈ tables_1_4) : w ∈ lw_tbl := List.mem_append_right _ (List.mem_append_right _ (List.mem_append_right _ (List.mem_append_right _ h)))
theorem mtp {w : Cond} (h : w ∈ k2_sels lw_privs) : w ∈ lw_tbl := List.mem_append_left _ h
theorem qp_0 : Cond.selects RX10 yX10_takesReadings yX10_takesReadings ∈ lw_good := lw_mem (mtp (List.mem_of_getElem? (i := 0) rfl)) rfl
theorem qp_1 : Cond.selects RX10 yX10_hasRoom yX10_hasRoom ∈ lw_good := lw_mem (mtp (List.mem_of_getElem? (i := 1) rfl)) rfl
theorem qp_2 : Cond.selects RX10 yX10_remember yX10_remember ∈ lw_good := lw_mem (mtp (List.mem_of_getElem? (i := 2) rfl)) rfl
theorem qp_3 : Cond.selects RX10 yX10_refresh yX10_refresh ∈ lw_good := lw_mem (mtp (List.mem_of_getElem? (i := 3) rfl)) rfl
theorem qp_4 : Cond.selects RX10 yX10_load yX10_load ∈ lw_good := lw_mem (mtp (List.mem_of_getElem? (i := 4) rfl)) rfl
theorem qp_5 : Cond.selects RX10 yX10_sourceOf yX10_sourceOf ∈ lw_good := lw_mem (mtp (List.mem_of_getElem? (i := 5) rfl)) rfl
theorem qp_6 : Cond.selects RX9 yX9_fromX yX9_fromX ∈ lw_good := lw_mem (mtp (List.mem_of_getElem? (i := 6) rfl)) rfl
theorem qp_7 : Cond.selects RX9 yX9_fromBoth yX9_fromBoth ∈ lw_good := lw_mem (mtp (List.mem_of_getElem? (i := 7) rfl)) rfl
theorem qp_8 : Cond.selects RX9 yX9_fromRow yX9_fromRow ∈ lw_good := lw_mem (mtp (List.mem_of_getElem? (i := 8) rfl)) rfl
theorem qp_9 : Cond.selects RX9 yX9_keep yX9_keep ∈ lw_good := lw_mem (mtp (List.mem_of_getElem? (i := 9) rfl)) rfl
theorem qp_10 : Cond.selects RX9 yX9_middle yX9_middle ∈ lw_good := lw_mem (mtp (List.mem_of_getElem? (i := 10) rfl)) rfl
theorem qp_11 : Cond.selects RX9 yX9_extreme yX9_extreme ∈ lw_good := lw_mem (mtp (List.mem_of_getElem? (i := 11) rfl)) rfl
theorem qp_12 : Cond.selects RX9 yX9_insert yX9_insert ∈ lw_good := lw_mem (mtp (List.mem_of_getElem? (i := 12) rfl)) rfl
theorem qp_13 : Cond.selects RX9 yX9_countLess yX9_countLess ∈ lw_good := lw_mem (mtp (List.mem_of_getElem? (i := 13) rfl)) rfl
theorem qp_14 : Cond.selects RX9 yX9_step yX9_step ∈ lw_good := lw_mem (mtp (List.mem_of_getElem? (i := 14) rfl)) rfl
theorem qp_15 : Cond.selects RX9 yX9_countSo yX9_countSo ∈ lw_good := lw_mem (mtp (List.mem_of_getElem? (i := 15) rfl)) rfl
theorem qp_16 : Cond.selects RX10 yX10_placesWhere yX10_placesWhere ∈ lw_good := lw_mem (mtp (List.mem_of_getElem? (i := 16) rfl)) rfl
theorem qp_17 : Cond.selects RX0 yX0_firstRang yX0_firstRang ∈ lw_good := lw_mem (mtp (List.mem_of_getElem? (i := 17) rfl)) rfl
theorem qp_18 : Cond.selects RX10 yX10_toldOfBook yX10_toldOfBook ∈ lw_good := lw_mem (mtp (List.mem_of_getElem? (i := 18) rfl)) rfl
theorem qp_19 : Cond.selects RX11 yX11_canSet yX11_canSet ∈ lw_good := lw_mem (mtp (List.mem_of_getElem? (i := 19) rfl)) rfl
theorem qp_20 : Cond.selects RX11 yX11_picture yX11_picture ∈ lw_good := lw_mem (mtp (List.mem_of_getElem? (i := 20) rfl)) rfl
theorem qp_21 : Cond.selects RX11 yX11_put yX11_put ∈ lw_good := lw_mem (mtp (List.mem_of_getElem? (i := 21) rfl)) rfl
theorem qp_22 : Cond.selects RX11 yX11_changed yX11_changed ∈ lw_good := lw_mem (mtp (List.mem_of_getElem? (i := 22) rfl)) rfl
theorem qp_23 : Cond.selects RX11 yX11_putSpecial yX11_putSpecial ∈ lw_good := lw_mem (mtp (List.mem_of_getElem? (i := 23) rfl)) rfl
theorem qp_24 : Cond.selects RX11 yX11_reckonAll yX11_reckonAll ∈ lw_good := lw_mem (mtp (List.mem_of_getElem? (i := 24) rfl)) rfl
theorem qp_25 : Cond.selects RX11 yX11_reckon yX11_reckon ∈ lw_good := lw_mem (mtp (List.mem_of_getElem? (i := 25) rfl)) rfl
theorem qp_26 : Cond.selects RX11 yX11_noX yX11_noX ∈ lw_good := lw_mem (mtp (List.mem_of_getElem? (i := 26) rfl)) rfl
theorem qp_27 : Cond.selects RX11 yX11_noY yX11_noY ∈ lw_good := lw_mem (mtp (List.mem_of_getElem? (i := 27) rfl)) rfl
theorem qp_28 : Cond.selects RX11 yX11_givesNothing yX11_givesNothing ∈ lw_good := lw_mem (mtp (List.mem_of_getElem? (i := 28) rfl)) rfl
theorem qp_29 : Cond.selects RX11 yX11_x yX11_x ∈ lw_good := lw_mem (mtp (List.mem_of_getElem? (i := 29) rfl)) rfl
theorem qp_30 : Cond.selects RX11 yX11_single yX11_single ∈ lw_good := lw_mem (mtp (List.mem_of_getElem? (i := 30) rfl)) rfl
theorem qp_31 : Cond.selects RX11 yX11_gives yX11_gives ∈ lw_good := lw_mem (mtp (List.mem_of_getElem? (i := 31) rfl)) rfl
theorem qp_32 : Cond.selects RX11 yX11_y yX11_y ∈ lw_good := lw_mem (mtp (List.mem_of_getElem? (i := 32) rfl)) rfl
theorem qp_33 : Cond.selects RX11 yX11_both yX11_both ∈ lw_good := lw_mem (mtp (List.mem_of_getElem? (i := 33) rfl)) rfl
theorem qp_34 : Cond.selects RX11 yX11_difference yX11_difference ∈ lw_good := lw_mem (mtp (List.mem_of_getElem? (i := 34) rfl)) rfl
theorem qp_35 : Cond.selects RX11 yX11_compares yX11_compares ∈ lw_good := lw_mem (mtp (List.mem_of_getElem? (i := 35) rfl)) rfl
theorem qp_36 : Cond.selects RX11 yX11_manyX yX11_manyX ∈ lw_good := lw_mem (mtp (List.mem_of_getElem? (i := 36) rfl)) rfl
theorem qp_37 : Cond.selects RX11 yX11_ranked yX11_ranked ∈ lw_good := lw_mem (mtp (List.mem_of_getElem? (i := 37) rfl)) rfl
theorem qp_38 : Cond.selects RX11 yX11_rank yX11_rank ∈ lw_good := lw_mem (mtp (List.mem_of_getElem? (i := 38) rfl)) rfl
theorem qp_39 : Cond.selects RX11 yX11_lessThan yX11_lessThan ∈ lw_good := lw_mem (mtp (List.mem_of_getElem? (i := 39) rfl)) rfl
theorem qp_40 : Cond.selects RX11 yX11_manySo yX11_manySo ∈ lw_good := lw_mem (mtp (List.mem_of_getElem? (i := 40) rfl)) rfl
theorem qp_41 : Cond.selects RX11 yX11_holds yX11_holds ∈ lw_good := lw_mem (mtp (List.mem_of_getElem? (i := 41) rfl)) rfl
theorem qp_42 : Cond.selects RX11 yX11_isThere yX11_isThere ∈ lw_good := lw_mem (mtp (List.mem_of_getElem? (i := 42) rfl)) rfl
theorem q1_0 : Cond.initialized RL ∈ lw_good := lw_mem (mt1 (List.mem_of_getElem? (i := 0) rfl)) rfl
theorem q1_1 : Cond.initialized RX10 ∈ lw_good := lw_mem (mt1 (List.mem_of_getElem? (i := 1) rfl)) rfl
theorem q1_2 : Cond.initialized RX8 ∈ lw_good := lw_mem (mt1 (List.mem_of_getElem? (i := 2) rfl)) rfl
theorem q1_3 : Cond.initialized RX9 ∈ lw_good := lw_mem (mt1 (List.mem_of_getElem? (i := 3) rfl)) rfl
theorem q1_4 : Cond.initialized RX3 ∈ lw_good := lw_mem (mt1 (List.mem_of_getElem? (i := 4) rfl)) rfl
theorem q1_5 : Cond.initialized RX0 ∈ lw_good := lw_mem (mt1 (List.mem_of_getElem? (i := 5) rfl)) rfl
theorem q1_6 : Cond.initialized RX11 ∈ lw_good := lw_mem (mt1 (List.mem_of_getElem? (i := 6) rfl)) rfl
theorem q1_7 : Cond.initialized RX2 ∈ lw_good := lw_mem (mt1 (List.mem_of_getElem? (i := 7) rfl)) rfl
theorem q1_8 : Cond.initialized RX7 ∈ lw_good := lw_mem (mt1 (List.mem_of_getElem? (i := 8) rfl)) rfl
theorem q1_9 : Cond.initialized RJ9 ∈ lw_good := lw_mem (mt1 (List.mem_of_getElem? (i := 9) rfl)) rfl
theorem q1_10 : Cond.initialized RX6 ∈ lw_good := lw_mem (mt1 (List.mem_of_getElem? (i := 10) rfl)) rfl
theorem q1_11 : Cond.initialized RX4 ∈ lw_good := lw_mem (mt1 (List.mem_of_getElem? (i := 11) rfl)) rfl
theorem q1_12 : Cond.initialized RX1 ∈ lw_good := lw_mem (mt1 (List.mem_of_getElem? (i := 12) rfl)) rfl
theorem q1_13 : Cond.initialized RX5 ∈ lw_good := lw_mem (mt1 (List.mem_of_getElem? (i := 13) rfl)) rfl
theorem q1_14 : Cond.initialized RJ6 ∈ lw_good := lw_mem (mt1 (List.mem_of_getElem? (i := 14) rfl)) rfl
theorem q1_15 : Cond.classLink RL 7 RX10 ∈ lw_good := lw_mem (mt1 (List.mem_of_getElem? (i := 15) rfl)) rfl
theorem q1_16 : Cond.instantiable RX10 9 ∈ lw_good := lw_mem (mt1 (List.mem_of_getElem? (i := 16) rfl)) rfl
theorem q1_17 : Cond.methodLink RL 9 yX10_init ∈ lw_good := lw_mem (mt1 (List.mem_of_getElem? (i := 17) rfl)) rfl
theorem q1_18 : Cond.instanceMethod yX10_init ∈ lw_good := lw_mem (mt1 (List.mem_of_getElem? (i := 18) rfl)) rfl
theorem q1_19 : Cond.code yX10_init cX10_init 2 none ∈ lw_good := lw_mem (mt1 (List.mem_of_getElem? (i := 19) rfl)) rfl
theorem q1_20 : Cond.methodLink RX10 1 objectInit ∈ lw_good := lw_mem (mt1 (List.mem_of_getElem? (i := 20) rfl)) rfl
theorem q1_21 : Cond.instanceMethod objectInit ∈ lw_good := lw_mem (mt1 (List.mem_of_getElem? (i := 21) rfl)) rfl
theorem q1_22 : Cond.code objectInit object_method_1_code 1 none ∈ lw_good := lw_mem (mt1 (List.mem_of_getElem? (i := 22) rfl)) rfl
theorem q1_23 : Cond.classLink RX10 9 RX3 ∈ lw_good := lw_mem (mt1 (List.mem_of_getElem? (i := 23) rfl)) rfl
theorem q1_25 : Cond.classLink RX10 15 RX8 ∈ lw_good := lw_mem (mt1 (List.mem_of_getElem? (i := 25) rfl)) rfl
theorem q1_26 : Cond.instantiable RX8 2 ∈ lw_good := lw_mem (mt1 (List.mem_of_getElem? (i := 26) rfl)) rfl
theorem q1_27 : Cond.methodLink RX10 17 yX8_init ∈ lw_good := lw_mem (mt1 (List.mem_of_getElem? (i := 27) rfl)) rfl
theorem q1_28 : Cond.instanceMethod yX8_init ∈ lw_good := lw_mem (mt1 (List.mem_of_getElem? (i := 28) rfl)) rfl
theorem q1_29 : Cond.code yX8_init cX8_init 3 none ∈ lw_good := lw_mem (mt1 (List.mem_of_getElem? (i := 29) rfl)) rfl
theorem q1_30 : Cond.methodLink RX8 1 objectInit ∈ lw_good := lw_mem (mt1 (List.mem_of_getElem? (i := 30) rfl)) rfl
theorem q1_31 : Cond.fieldLink RX8 7 "TideBook$Readings" "numbers" "[D" ∈ lw_good := lw_mem (mt1 (List.mem_of_getElem? (i := 31) rfl)) rfl
theorem q1_32 : Cond.fieldLink RX8 13 "TideBook$Readings" "blanks" "[Z" ∈ lw_good := lw_mem (mt1 (List.mem_of_getElem? (i := 32) rfl)) rfl
theorem q1_33 : Cond.laysFinal RX8 "TideBook$Readings" "numbers" "[D" ∈ lw_good := lw_mem (mt1 (List.mem_of_getElem? (i := 33) rfl)) rfl
theorem q1_35 : Cond.laysFinal RX8 "TideBook$Readings" "blanks" "[Z" ∈ lw_good := lw_mem (mt1 (List.mem_of_getElem? (i := 35) rfl)) rfl
theorem q1_37 : Cond.superclass RX8 "java/lang/Object" ∈ lw_good := lw_mem (mt1 (List.mem_of_getElem? (i := 37) rfl)) rfl
theorem q1_38 : Cond.arrayClass .double ∈ lw_good := lw_mem (mt1 (List.mem_of_getElem? (i := 38) rfl)) rfl
theorem q1_39 : Cond.arrayClass .boolean ∈ lw_good := lw_mem (mt1 (List.mem_of_getElem? (i := 39) rfl)) rfl
theorem q1_40 : Cond.classLink RX10 24 RX9 ∈ lw_good := lw_mem (mt1 (List.mem_of_getElem? (i := 40) rfl)) rfl
theorem q1_41 : Cond.instantiable RX9 2 ∈ lw_good := lw_mem (mt1 (List.mem_of_getElem? (i := 41) rfl)) rfl
theorem q1_43 : Cond.instanceMethod yX9_init ∈ lw_good := lw_mem (mt1 (List.mem_of_getElem? (i := 43) rfl)) rfl
theorem q1_44 : Cond.code yX9_init cX9_init 1 none ∈ lw_good := lw_mem (mt1 (List.mem_of_getElem? (i := 44) rfl)) rfl
theorem q1_45 : Cond.methodLink RX9 3 objectInit ∈ lw_good := lw_mem (mt1 (List.mem_of_getElem? (i := 45) rfl)) rfl
theorem q1_46 : Cond.classLink RX9 9 RX8 ∈ lw_good := lw_mem (mt1 (List.mem_of_getElem? (i := 46) rfl)) rfl
theorem q1_47 : Cond.methodLink RX9 11 yX8_init ∈ lw_good := lw_mem (mt1 (List.mem_of_getElem? (i := 47) rfl)) rfl
theorem q1_48 : Cond.fieldLink RX9 14 "TideBook$Reckoner" "x" "LTideBook$Readings;" ∈ lw_good := lw_mem (mt1 (List.mem_of_getElem? (i := 48) rfl)) rfl
theorem q1_49 : Cond.fieldLink RX10 228 "TideBook$Reckoner" "x" "LTideBook$Readings;" ∈ lw_good := lw_mem (mt1 (List.mem_of_getElem? (i := 49) rfl)) rfl
theorem q1_50 : Cond.fieldLink RX9 20 "TideBook$Reckoner" "y" "LTideBook$Readings;" ∈ lw_good := lw_mem (mt1 (List.mem_of_getElem? (i := 50) rfl)) rfl
theorem q1_51 : Cond.fieldLink RX10 231 "TideBook$Reckoner" "y" "LTideBook$Readings;" ∈ lw_good := lw_mem (mt1 (List.mem_of_getElem? (i := 51) rfl)) rfl
theorem q1_52 : Cond.laysFinal RX9 "TideBook$Reckoner" "x" "LTideBook$Readings;" ∈ lw_good := lw_mem (mt1 (List.mem_of_getElem? (i := 52) rfl)) rfl
theorem q1_54 : Cond.laysFinal RX9 "TideBook$Reckoner" "y" "LTideBook$Readings;" ∈ lw_good := lw_mem (mt1 (List.mem_of_getElem? (i := 54) rfl)) rfl
theorem q1_56 : Cond.superclass RX9 "java/lang/Object" ∈ lw_good := lw_mem (mt1 (List.mem_of_getElem? (i := 56) rfl)) rfl
theorem q1_57 : Cond.classLink RX10 31 RX0 ∈ lw_good := lw_mem (mt1 (List.mem_of_getElem? (i := 57) rfl)) rfl
theorem q1_59 : Cond.instantiable RX3 6 ∈ lw_good := lw_mem (mt1 (List.mem_of_getElem? (i := 59) rfl)) rfl
theorem q1_61 : Cond.instanceMethod yX3_init ∈ lw_good := lw_mem (mt1 (List.mem_of_getElem? (i := 61) rfl)) rfl
theorem q1_62 : Cond.code yX3_init cX3_init 1 none ∈ lw_good := lw_mem (mt1 (List.mem_of_getElem? (i := 62) rfl)) rfl
theorem q1_63 : Cond.methodLink RX3 3 objectInit ∈ lw_good := lw_mem (mt1 (List.mem_of_getElem? (i := 63) rfl)) rfl
theorem q1_64 : Cond.classLink RX3 9 RX8 ∈ lw_good := lw_mem (mt1 (List.mem_of_getElem? (i := 64) rfl)) rfl
theorem q1_65 : Cond.methodLink RX3 11 yX8_init ∈ lw_good := lw_mem (mt1 (List.mem_of_getElem? (i := 65) rfl)) rfl
theorem q1_66 : Cond.fieldLink RX3 14 "TideBook$Column" "readings" "LTideBook$Readings;" ∈ lw_good := lw_mem (mt1 (List.mem_of_getElem? (i := 66) rfl)) rfl
theorem q1_67 : Cond.fieldLink RX9 23 "TideBook$Column" "readings" "LTideBook$Readings;" ∈ lw_good := lw_mem (mt1 (List.mem_of_getElem? (i := 67) rfl)) rfl
theorem q1_68 : Cond.fieldLink RX10 68 "TideBook$Column" "readings" "LTideBook$Readings;" ∈ lw_good := lw_mem (mt1 (List.mem_of_getElem? (i := 68) rfl)) rfl
theorem q1_69 : Cond.fieldLink RX3 20 "TideBook$Column" "narrow" "Z" ∈ lw_good := lw_mem (mt1 (List.mem_of_getElem? (i := 69) rfl)) rfl
theorem q1_70 : Cond.fieldLink RX10 84 "TideBook$Column" "narrow" "Z" ∈ lw_good := lw_mem (mt1 (List.mem_of_getElem? (i := 70) rfl)) rfl
theorem q1_71 : Cond.fieldLink RX9 53 "TideBook$Column" "narrow" "Z" ∈ lw_good := lw_mem (mt1 (List.mem_of_getElem? (i := 71) rfl)) rfl
theorem q1_72 : Cond.fieldLink RX3 24 "TideBook$Column" "f" "I" ∈ lw_good := lw_mem (mt1 (List.mem_of_getElem? (i := 72) rfl)) rfl
theorem q1_73 : Cond.fieldLink RX9 31 "TideBook$Column" "f" "I" ∈ lw_good := lw_mem (mt1 (List.mem_of_getElem? (i := 73) rfl)) rfl
theorem q1_74 : Cond.fieldLink RX10 124 "TideBook$Column" "f" "I" ∈ lw_good := lw_mem (mt1 (List.mem_of_getElem? (i := 74) rfl)) rfl
theorem q1_75 : Cond.fieldLink RX3 28 "TideBook$Column" "a" "I" ∈ lw_good := lw_mem (mt1 (List.mem_of_getElem? (i := 75) rfl)) rfl
theorem q1_76 : Cond.fieldLink RX10 127 "TideBook$Column" "a" "I" ∈ lw_good := lw_mem (mt1 (List.mem_of_getElem? (i := 76) rfl)) rfl
theorem q1_77 : Cond.fieldLink RX3 31 "TideBook$Column" "b" "I" ∈ lw_good := lw_mem (mt1 (List.mem_of_getElem? (i := 77) rfl)) rfl
theorem q1_78 : Cond.fieldLink RX10 130 "TideBook$Column" "b" "I" ∈ lw_good := lw_mem (mt1 (List.mem_of_getElem? (i := 78) rfl)) rfl
theorem q1_79 : Cond.fieldLink RX3 34 "TideBook$Column" "c" "I" ∈ lw_good := lw_mem (mt1 (List.mem_of_getElem? (i := 79) rfl)) rfl
theorem q1_80 : Cond.fieldLink RX9 75 "TideBook$Column" "c" "I" ∈ lw_good := lw_mem (mt1 (List.mem_of_getElem? (i := 80) rfl)) rfl
theorem q1_81 : Cond.fieldLink RX10 133 "TideBook$Column" "c" "I" ∈ lw_good := lw_mem (mt1 (List.mem_of_getElem? (i := 81) rfl)) rfl
theorem q1_82 : Cond.laysFinal RX3 "TideBook$Column" "readings" "LTideBook$Readings;" ∈ lw_good := lw_mem (mt1 (List.mem_of_getElem? (i := 82) rfl)) rfl
theorem q1_84 : Cond.lays RX3 "TideBook$Column" "narrow" "Z" ∈ lw_good := lw_mem (mt1 (List.mem_of_getElem? (i := 84) rfl)) rfl
theorem q1_86 : Cond.lays RX3 "TideBook$Column" "f" "I" ∈ lw_good := lw_mem (mt1 (List.mem_of_getElem? (i := 86) rfl)) rfl
theorem q1_88 : Cond.lays RX3 "TideBook$Column" "a" "I" ∈ lw_good := lw_mem (mt1 (List.mem_of_getElem? (i := 88) rfl)) rfl
theorem q1_90 : Cond.lays RX3 "TideBook$Column" "b" "I" ∈ lw_good := lw_mem (mt1 (List.mem_of_getElem? (i := 90) rfl)) rfl
theorem q1_92 : Cond.lays RX3 "TideBook$Column" "c" "I" ∈ lw_good := lw_mem (mt1 (List.mem_of_getElem? (i := 92) rfl)) rfl
theorem q1_94 : Cond.superclass RX3 "java/lang/Object" ∈ lw_good := lw_mem (mt1 (List.mem_of_getElem? (i := 94) rfl)) rfl
theorem q1_95 : Cond.instantiable RX0 6 ∈ lw_good := lw_mem (mt1 (List.mem_of_getElem? (i := 95) rfl)) rfl
theorem q1_97 : Cond.instanceMethod yX0_init ∈ lw_good := lw_mem (mt1 (List.mem_of_getElem? (i := 97) rfl)) rfl
theorem q1_98 : Cond.code yX0_init cX0_init 1 none ∈ lw_good := lw_mem (mt1 (List.mem_of_getElem? (i := 98) rfl)) rfl
theorem q1_99 : Cond.methodLink RX0 3 objectInit ∈ lw_good := lw_mem (mt1 (List.mem_of_getElem? (i := 99) rfl)) rfl
theorem q1_100 : Cond.fieldLink RX0 9 "TideBook$Alarm" "column" "I" ∈ lw_good := lw_mem (mt1 (List.mem_of_getElem? (i := 100) rfl)) rfl
theorem q1_101 : Cond.fieldLink RX10 163 "TideBook$Alarm" "column" "I" ∈ lw_good := lw_mem (mt1 (List.mem_of_getElem? (i := 101) rfl)) rfl
theorem q1_102 : Cond.fieldLink RX0 15 "TideBook$Alarm" "c" "I" ∈ lw_good := lw_mem (mt1 (List.mem_of_getElem? (i := 102) rfl)) rfl
theorem q1_103 : Cond.fieldLink RX10 164 "TideBook$Alarm" "c" "I" ∈ lw_good := lw_mem (mt1 (List.mem_of_getElem? (i := 103) rfl)) rfl
theorem q1_104 : Cond.fieldLink RX0 18 "TideBook$Alarm" "b" "I" ∈ lw_good := lw_mem (mt1 (List.mem_of_getElem? (i := 104) rfl)) rfl
theorem q1_105 : Cond.fieldLink RX10 165 "TideBook$Alarm" "b" "I" ∈ lw_good := lw_mem (mt1 (List.mem_of_getElem? (i := 105) rfl)) rfl
theorem q1_106 : Cond.fieldLink RX0 21 "TideBook$Alarm" "looked" "Z" ∈ lw_good := lw_mem (mt1 (List.mem_of_getElem? (i := 106) rfl)) rfl
theorem q1_107 : Cond.fieldLink RX10 207 "TideBook$Alarm" "looked" "Z" ∈ lw_good := lw_mem (mt1 (List.mem_of_getElem? (i := 107) rfl)) rfl
theorem q1_108 : Cond.fieldLink RX0 25 "TideBook$Alarm" "held" "I" ∈ lw_good := lw_mem (mt1 (List.mem_of_getElem? (i := 108) rfl)) rfl
theorem q1_109 : Cond.fieldLink RX0 28 "TideBook$Alarm" "rang" "I" ∈ lw_good := lw_mem (mt1 (List.mem_of_getElem? (i := 109) rfl)) rfl
theorem q1_110 : Cond.fieldLink RX10 173 "TideBook$Alarm" "rang" "I" ∈ lw_good := lw_mem (mt1 (List.mem_of_getElem? (i := 110) rfl)) rfl
theorem q1_111 : Cond.lays RX0 "TideBook$Alarm" "column" "I" ∈ lw_good := lw_mem (mt1 (List.mem_of_getElem? (i := 111) rfl)) rfl
theorem q1_113 : Cond.lays RX0 "TideBook$Alarm" "c" "I" ∈ lw_good := lw_mem (mt1 (List.mem_of_getElem? (i := 113) rfl)) rfl
theorem q1_115 : Cond.lays RX0 "TideBook$Alarm" "b" "I" ∈ lw_good := lw_mem (mt1 (List.mem_of_getElem? (i := 115) rfl)) rfl
theorem q1_117 : Cond.lays RX0 "TideBook$Alarm" "looked" "Z" ∈ lw_good := lw_mem (mt1 (List.mem_of_getElem? (i := 117) rfl)) rfl
theorem q1_119 : Cond.lays RX0 "TideBook$Alarm" "held" "I" ∈ lw_good := lw_mem (mt1 (List.mem_of_getElem? (i := 119) rfl)) rfl
theorem q1_121 : Cond.lays RX0 "TideBook$Alarm" "rang" "I" ∈ lw_good := lw_mem (mt1 (List.mem_of_getElem? (i := 121) rfl)) rfl
theorem q1_123 : Cond.superclass RX0 "java/lang/Object" ∈ lw_good := lw_mem (mt1 (List.mem_of_getElem? (i := 123) rfl)) rfl
theorem q1_124 : Cond.fieldLink RX10 11 "TideBook" "columns" "[LTideBook$Column;" ∈ lw_good := lw_mem (mt1 (List.mem_of_getElem? (i := 124) rfl)) rfl
theorem q1_125 : Cond.fieldLink RX10 20 "TideBook" "constants" "LTideBook$Readings;" ∈ lw_good := lw_mem (mt1 (List.mem_of_getElem? (i := 125) rfl)) rfl
theorem q1_126 : Cond.fieldLink RX10 27 "TideBook" "reckoner" "LTideBook$Reckoner;" ∈ lw_good := lw_mem (mt1 (List.mem_of_getElem? (i := 126) rfl)) rfl
theorem q1_127 : Cond.fieldLink RX10 33 "TideBook" "alarms" "[LTideBook$Alarm;" ∈ lw_good := lw_mem (mt1 (List.mem_of_getElem? (i := 127) rfl)) rfl
theorem q1_128 : Cond.fieldLink RX10 37 "TideBook" "alarmCount" "I" ∈ lw_good := lw_mem (mt1 (List.mem_of_getElem? (i := 128) rfl)) rfl
theorem q1_129 : Cond.fieldLink RX10 41 "TideBook" "rings" "I" ∈ lw_good := lw_mem (mt1 (List.mem_of_getElem? (i := 129) rfl)) rfl
theorem q1_130 : Cond.fieldLink RX10 44 "TideBook" "latest" "LTideBook$Change;" ∈ lw_good := lw_mem (mt1 (List.mem_of_getElem? (i := 130) rfl)) rfl
theorem q1_131 : Cond.fieldLink RX10 48 "TideBook" "changes" "I" ∈ lw_good := lw_mem (mt1 (List.mem_of_getElem? (i := 131) rfl)) rfl
theorem q1_132 : Cond.fieldLink RX10 51 "TideBook" "fresh" "I" ∈ lw_good := lw_mem (mt1 (List.mem_of_getElem? (i := 132) rfl)) rfl
theorem q1_133 : Cond.laysFinal RX10 "TideBook" "columns" "[LTideBook$Column;" ∈ lw_good := lw_mem (mt1 (List.mem_of_getElem? (i := 133) rfl)) rfl
theorem q1_135 : Cond.laysFinal RX10 "TideBook" "constants" "LTideBook$Readings;" ∈ lw_good := lw_mem (mt1 (List.mem_of_getElem? (i := 135) rfl)) rfl
theorem q1_137 : Cond.laysFinal RX10 "TideBook" "reckoner" "LTideBook$Reckoner;" ∈ lw_good := lw_mem (mt1 (List.mem_of_getElem? (i := 137) rfl)) rfl
theorem q1_139 : Cond.laysFinal RX10 "TideBook" "alarms" "[LTideBook$Alarm;" ∈ lw_good := lw_mem (mt1 (List.mem_of_getElem? (i := 139) rfl)) rfl
theorem q1_141 : Cond.lays RX10 "TideBook" "alarmCount" "I" ∈ lw_good := lw_mem (mt1 (List.mem_of_getElem? (i := 141) rfl)) rfl
theorem q1_143 : Cond.lays RX10 "TideBook" "rings" "I" ∈ lw_good := lw_mem (mt1 (List.mem_of_getElem? (i := 143) rfl)) rfl
theorem q1_145 : Cond.lays RX10 "TideBook" "latest" "LTideBook$Change;" ∈ lw_good := lw_mem (mt1 (List.mem_of_getElem? (i := 145) rfl)) rfl
theorem q1_147 : Cond.lays RX10 "TideBook" "changes" "I" ∈ lw_good := lw_mem (mt1 (List.mem_of_getElem? (i := 147) rfl)) rfl
theorem q1_149 : Cond.lays RX10 "TideBook" "fresh" "I" ∈ lw_good := lw_mem (mt1 (List.mem_of_getElem? (i := 149) rfl)) rfl
theorem q1_151 : Cond.superclass RX10 "java/lang/Object" ∈ lw_good := lw_mem (mt1 (List.mem_of_getElem? (i := 151) rfl)) rfl
theorem q1_152 : Cond.methodLink RL 13 yX10_set ∈ lw_good := lw_mem (mt1 (List.mem_of_getElem? (i := 152) rfl)) rfl
theorem q1_153 : Cond.instanceMethod yX10_set ∈ lw_good := lw_mem (mt1 (List.mem_of_getElem? (i := 153) rfl)) rfl
theorem q1_154 : Cond.selects RX10 yX10_set yX10_set ∈ lw_good := lw_mem (mt1 (List.mem_of_getElem? (i := 154) rfl)) rfl
theorem q1_155 : Cond.code yX10_set cX10_set 6 (some .int) ∈ lw_good := lw_mem (mt1 (List.mem_of_getElem? (i := 155) rfl)) rfl
theorem q1_156 : Cond.methodLink RX10 56 yX10_takesReadings ∈ lw_good := lw_mem (mt1 (List.mem_of_getElem? (i := 156) rfl)) rfl
theorem q1_158 : Cond.instanceMethod yX10_takesReadings ∈ lw_good := lw_mem (mt1 (List.mem_of_getElem? (i := 158) rfl)) rfl
theorem q1_159 : Cond.code yX10_takesReadings cX10_takesReadings 2 (some .boolean) ∈ lw_good := lw_mem (mt1 (List.mem_of_getElem? (i := 159) rfl)) rfl
theorem q1_160 : Cond.methodLink RX10 110 yX10_isColumn ∈ lw_good := lw_mem (mt1 (List.mem_of_getElem? (i := 160) rfl)) rfl
theorem q1_161 : Cond.static yX10_isColumn ∈ lw_good := lw_mem (mt1 (List.mem_of_getElem? (i := 161) rfl)) rfl
theorem q1_162 : Cond.code yX10_isColumn cX10_isColumn 1 (some .boolean) ∈ lw_good := lw_mem (mt1 (List.mem_of_getElem? (i := 162) rfl)) rfl
theorem q1_163 : Cond.methodLink RX10 136 yX3_hasFormula ∈ lw_good := lw_mem (mt1 (List.mem_of_getElem? (i := 163) rfl)) rfl
theorem q1_164 : Cond.instanceMethod yX3_hasFormula ∈ lw_good := lw_mem (mt1 (List.mem_of_getElem? (i := 164) rfl)) rfl
theorem q1_165 : Cond.selects RX3 yX3_hasFormula yX3_hasFormula ∈ lw_good := lw_mem (mt1 (List.mem_of_getElem? (i := 165) rfl)) rfl
theorem q1_166 : Cond.code yX3_hasFormula cX3_hasFormula 1 (some .boolean) ∈ lw_good := lw_mem (mt1 (List.mem_of_getElem? (i := 166) rfl)) rfl
theorem q1_167 : Cond.methodLink RX10 106 yX10_hasRoom ∈ lw_good := lw_mem (mt1 (List.mem_of_getElem? (i := 167) rfl)) rfl
theorem q1_169 : Cond.instanceMethod yX10_hasRoom ∈ lw_good := lw_mem (mt1 (List.mem_of_getElem? (i := 169) rfl)) rfl
theorem q1_170 : Cond.code yX10_hasRoom cX10_hasRoom 1 (some .boolean) ∈ lw_good := lw_mem (mt1 (List.mem_of_getElem? (i := 170) rfl)) rfl
theorem q1_171 : Cond.methodLink RX10 60 yX10_isPlace ∈ lw_good := lw_mem (mt1 (List.mem_of_getElem? (i := 171) rfl)) rfl
theorem q1_172 : Cond.static yX10_isPlace ∈ lw_good := lw_mem (mt1 (List.mem_of_getElem? (i := 172) rfl)) rfl
theorem q1_173 : Cond.code yX10_isPlace cX10_isPlace 1 (some .boolean) ∈ lw_good := lw_mem (mt1 (List.mem_of_getElem? (i := 173) rfl)) rfl
theorem q1_174 : Cond.methodLink RX10 63 yX10_isPower ∈ lw_good := lw_mem (mt1 (List.mem_of_getElem? (i := 174) rfl)) rfl
theorem q1_175 : Cond.static yX10_isPower ∈ lw_good := lw_mem (mt1 (List.mem_of_getElem? (i := 175) rfl)) rfl
theorem q1_176 : Cond.code yX10_isPower cX10_isPower 1 (some .boolean) ∈ lw_good := lw_mem (mt1 (List.mem_of_getElem? (i := 176) rfl)) rfl
theorem q1_177 : Cond.classLink RX10 66 RX7 ∈ lw_good := lw_mem (mt1 (List.mem_of_getElem? (i := 177) rfl)) rfl
theorem q1_178 : Cond.instantiable RX7 6 ∈ lw_good := lw_mem (mt1 (List.mem_of_getElem? (i := 178) rfl)) rfl
theorem q1_179 : Cond.methodLink RX10 71 yX7_init ∈ lw_good := lw_mem (mt1 (List.mem_of_getElem? (i := 179) rfl)) rfl
theorem q1_180 : Cond.instanceMethod yX7_init ∈ lw_good := lw_mem (mt1 (List.mem_of_getElem? (i := 180) rfl)) rfl
theorem q1_181 : Cond.code yX7_init cX7_init 5 none ∈ lw_good := lw_mem (mt1 (List.mem_of_getElem? (i := 181) rfl)) rfl
theorem q1_182 : Cond.methodLink RX7 1 yX2_init ∈ lw_good := lw_mem (mt1 (List.mem_of_getElem? (i := 182) rfl)) rfl
theorem q1_183 : Cond.instanceMethod yX2_init ∈ lw_good := lw_mem (mt1 (List.mem_of_getElem? (i := 183) rfl)) rfl
theorem q1_184 : Cond.code yX2_init cX2_init 3 none ∈ lw_good := lw_mem (mt1 (List.mem_of_getElem? (i := 184) rfl)) rfl
theorem q1_185 : Cond.methodLink RX2 1 objectInit ∈ lw_good := lw_mem (mt1 (List.mem_of_getElem? (i := 185) rfl)) rfl
theorem q1_186 : Cond.methodLink RX7 17 yX8_at ∈ lw_good := lw_mem (mt1 (List.mem_of_getElem? (i := 186) rfl)) rfl
theorem q1_187 : Cond.instanceMethod yX8_at ∈ lw_good := lw_mem (mt1 (List.mem_of_getElem? (i := 187) rfl)) rfl
theorem q1_188 : Cond.selects RX8 yX8_at yX8_at ∈ lw_good := lw_mem (mt1 (List.mem_of_getElem? (i := 188) rfl)) rfl
theorem q1_189 : Cond.code yX8_at cX8_at 2 (some .double) ∈ lw_good := lw_mem (mt1 (List.mem_of_getElem? (i := 189) rfl)) rfl
theorem q1_190 : Cond.methodLink RX7 27 yX8_blankAt ∈ lw_good := lw_mem (mt1 (List.mem_of_getElem? (i := 190) rfl)) rfl
theorem q1_191 : Cond.instanceMethod yX8_blankAt ∈ lw_good := lw_mem (mt1 (List.mem_of_getElem? (i := 191) rfl)) rfl
theorem q1_192 : Cond.selects RX8 yX8_blankAt yX8_blankAt ∈ lw_good := lw_mem (mt1 (List.mem_of_getElem? (i := 192) rfl)) rfl
theorem q1_193 : Cond.code yX8_blankAt cX8_blankAt 2 (some .boolean) ∈ lw_good := lw_mem (mt1 (List.mem_of_getElem? (i := 193) rfl)) rfl
theorem q1_194 : Cond.fieldLink RX7 7 "TideBook$ReadingChange" "readings" "LTideBook$Readings;" ∈ lw_good := lw_mem (mt1 (List.mem_of_getElem? (i := 194) rfl)) rfl
theorem q1_195 : Cond.fieldLink RX7 13 "TideBook$ReadingChange" "place" "I" ∈ lw_good := lw_mem (mt1 (List.mem_of_getElem? (i := 195) rfl)) rfl
theorem q1_196 : Cond.fieldLink RX7 23 "TideBook$ReadingChange" "number" "D" ∈ lw_good := lw_mem (mt1 (List.mem_of_getElem? (i := 196) rfl)) rfl
theorem q1_197 : Cond.fieldLink RX7 31 "TideBook$ReadingChange" "blank" "Z" ∈ lw_good := lw_mem (mt1 (List.mem_of_getElem? (i := 197) rfl)) rfl
theorem q1_198 : Cond.fieldLink RX2 7 "TideBook$Change" "before" "LTideBook$Change;" ∈ lw_good := lw_mem (mt1 (List.mem_of_getElem? (i := 198) rfl)) rfl
theorem q1_199 : Cond.fieldLink RX10 160 "TideBook$Change" "before" "LTideBook$Change;" ∈ lw_good := lw_mem (mt1 (List.mem_of_getElem? (i := 199) rfl)) rfl
theorem q1_200 : Cond.fieldLink RX2 13 "TideBook$Change" "column" "I" ∈ lw_good := lw_mem (mt1 (List.mem_of_getElem? (i := 200) rfl)) rfl
theorem q1_201 : Cond.fieldLink RX10 151 "TideBook$Change" "column" "I" ∈ lw_good := lw_mem (mt1 (List.mem_of_getElem? (i := 201) rfl)) rfl
theorem q1_202 : Cond.laysFinal RX7 "TideBook$ReadingChange" "readings" "LTideBook$Readings;" ∈ lw_good := lw_mem (mt1 (List.mem_of_getElem? (i := 202) rfl)) rfl
theorem q1_204 : Cond.laysFinal RX7 "TideBook$ReadingChange" "place" "I" ∈ lw_good := lw_mem (mt1 (List.mem_of_getElem? (i := 204) rfl)) rfl
theorem q1_206 : Cond.laysFinal RX7 "TideBook$ReadingChange" "number" "D" ∈ lw_good := lw_mem (mt1 (List.mem_of_getElem? (i := 206) rfl)) rfl
theorem q1_208 : Cond.laysFinal RX7 "TideBook$ReadingChange" "blank" "Z" ∈ lw_good := lw_mem (mt1 (List.mem_of_getElem? (i := 208) rfl)) rfl
theorem q1_210 : Cond.laysFinal RX7 "TideBook$Change" "before" "LTideBook$Change;" ∈ lw_good := lw_mem (mt1 (List.mem_of_getElem? (i := 210) rfl)) rfl
theorem q1_212 : Cond.laysFinal RX7 "TideBook$Change" "column" "I" ∈ lw_good := lw_mem (mt1 (List.mem_of_getElem? (i := 212) rfl)) rfl
theorem q1_214 : Cond.superclass RX7 "TideBook$Change" ∈ lw_good := lw_mem (mt1 (List.mem_of_getElem? (i := 214) rfl)) rfl
theorem q1_215 : Cond.methodLink RX10 74 yX10_remember ∈ lw_good := lw_mem (mt1 (List.mem_of_getElem? (i := 215) rfl)) rfl
theorem q1_217 : Cond.instanceMethod yX10_remember ∈ lw_good := lw_mem (mt1 (List.mem_of_getElem? (i := 217) rfl)) rfl
theorem q1_218 : Cond.code yX10_remember cX10_remember 2 none ∈ lw_good := lw_mem (mt1 (List.mem_of_getElem? (i := 218) rfl)) rfl
theorem q1_219 : Cond.methodLink RX10 154 yJ9_min_7cf53 ∈ lw_good := lw_mem (mt1 (List.mem_of_getElem? (i := 219) rfl)) rfl
theorem q1_220 : Cond.static yJ9_min_7cf53 ∈ lw_good := lw_mem (mt1 (List.mem_of_getElem? (i := 220) rfl)) rfl
theorem q1_221 : Cond.code yJ9_min_7cf53 cJ9_min_7cf53 2 (some .int) ∈ lw_good := lw_mem (mt1 (List.mem_of_getElem? (i := 221) rfl)) rfl
theorem q1_222 : Cond.methodLink RX10 78 yX6_twoTo ∈ lw_good := lw_mem (mt1 (List.mem_of_getElem? (i := 222) rfl)) rfl
theorem q1_223 : Cond.static yX6_twoTo ∈ lw_good := lw_mem (mt1 (List.mem_of_getElem? (i := 223) rfl)) rfl
theorem q1_224 : Cond.code yX6_twoTo cX6_twoTo 7 (some .double) ∈ lw_good := lw_mem (mt1 (List.mem_of_getElem? (i := 224) rfl)) rfl
theorem q1_225 : Cond.constantDouble RX6 7 (4602678819172646912 : UInt64) ∈ lw_good := lw_mem (mt1 (List.mem_of_getElem? (i := 225) rfl)) rfl
theorem q1_226 : Cond.constantDouble RX6 9 (4611686018427387904 : UInt64) ∈ lw_good := lw_mem (mt1 (List.mem_of_getElem? (i := 226) rfl)) rfl
theorem q1_227 : Cond.methodLink RX10 88 yX6_brought ∈ lw_good := lw_mem (mt1 (List.mem_of_getElem? (i := 227) rfl)) rfl
theorem q1_228 : Cond.static yX6_brought ∈ lw_good := lw_mem (mt1 (List.mem_of_getElem? (i := 228) rfl)) rfl
theorem q1_229 : Cond.code yX6_brought cX6_brought 3 (some .double) ∈ lw_good := lw_mem (mt1 (List.mem_of_getElem? (i := 229) rfl)) rfl
theorem q1_230 : Cond.methodLink RX10 92 yX8_put ∈ lw_good := lw_mem (mt1 (List.mem_of_getElem? (i := 230) rfl)) rfl
theorem q1_231 : Cond.instanceMethod yX8_put ∈ lw_good := lw_mem (mt1 (List.mem_of_getElem? (i := 231) rfl)) rfl
theorem q1_232 : Cond.selects RX8 yX8_put yX8_put ∈ lw_good := lw_mem (mt1 (List.mem_of_getElem? (i := 232) rfl)) rfl
theorem q1_233 : Cond.code yX8_put cX8_put 4 none ∈ lw_good := lw_mem (mt1 (List.mem_of_getElem? (i := 233) rfl)) rfl
theorem q1_234 : Cond.methodLink RL 18 yX10_special ∈ lw_good := lw_mem (mt1 (List.mem_of_getElem? (i := 234) rfl)) rfl
theorem q1_235 : Cond.instanceMethod yX10_special ∈ lw_good := lw_mem (mt1 (List.mem_of_getElem? (i := 235) rfl)) rfl
theorem q1_236 : Cond.selects RX10 yX10_special yX10_special ∈ lw_good := lw_mem (mt1 (List.mem_of_getElem? (i := 236) rfl)) rfl
theorem q1_237 : Cond.code yX10_special cX10_special 5 (some .int) ∈ lw_good := lw_mem (mt1 (List.mem_of_getElem? (i := 237) rfl)) rfl
theorem q1_238 : Cond.methodLink RX10 96 yX10_isSpecial ∈ lw_good := lw_mem (mt1 (List.mem_of_getElem? (i := 238) rfl)) rfl
theorem q1_239 : Cond.static yX10_isSpecial ∈ lw_good := lw_mem (mt1 (List.mem_of_getElem? (i := 239) rfl)) rfl
theorem q2_0 : Cond.code yX10_isSpecial cX10_isSpecial 1 (some .boolean) ∈ lw_good := lw_mem (mt2 (List.mem_of_getElem? (i := 0) rfl)) rfl
theorem q2_1 : Cond.methodLink RX10 99 yX8_putSpecial ∈ lw_good := lw_mem (mt2 (List.mem_of_getElem? (i := 1) rfl)) rfl
theorem q2_2 : Cond.instanceMethod yX8_putSpecial ∈ lw_good := lw_mem (mt2 (List.mem_of_getElem? (i := 2) rfl)) rfl
theorem q2_3 : Cond.selects RX8 yX8_putSpecial yX8_putSpecial ∈ lw_good := lw_mem (mt2 (List.mem_of_getElem? (i := 3) rfl)) rfl
theorem q2_4 : Cond.code yX8_putSpecial cX8_putSpecial 4 none ∈ lw_good := lw_mem (mt2 (List.mem_of_getElem? (i := 4) rfl)) rfl
theorem q2_5 : Cond.methodLink RX8 17 yX8_clear ∈ lw_good := lw_mem (mt2 (List.mem_of_getElem? (i := 5) rfl)) rfl
theorem q2_6 : Cond.instanceMethod yX8_clear ∈ lw_good := lw_mem (mt2 (List.mem_of_getElem? (i := 6) rfl)) rfl
theorem q2_7 : Cond.selects RX8 yX8_clear yX8_clear ∈ lw_good := lw_mem (mt2 (List.mem_of_getElem? (i := 7) rfl)) rfl
theorem q2_8 : Cond.code yX8_clear cX8_clear 2 none ∈ lw_good := lw_mem (mt2 (List.mem_of_getElem? (i := 8) rfl)) rfl
theorem q2_9 : Cond.methodLink RX8 21 yX6_named ∈ lw_good := lw_mem (mt2 (List.mem_of_getElem? (i := 9) rfl)) rfl
theorem q2_10 : Cond.static yX6_named ∈ lw_good := lw_mem (mt2 (List.mem_of_getElem? (i := 10) rfl)) rfl
theorem q2_11 : Cond.code yX6_named cX6_named 2 (some .double) ∈ lw_good := lw_mem (mt2 (List.mem_of_getElem? (i := 11) rfl)) rfl
theorem q2_12 : Cond.constantDouble RX6 11 (9218868437227405312 : UInt64) ∈ lw_good := lw_mem (mt2 (List.mem_of_getElem? (i := 12) rfl)) rfl
theorem q2_13 : Cond.constantDouble RX6 13 (18442240474082181120 : UInt64) ∈ lw_good := lw_mem (mt2 (List.mem_of_getElem? (i := 13) rfl)) rfl
theorem q2_14 : Cond.constantDouble RX6 15 (9223372036854775808 : UInt64) ∈ lw_good := lw_mem (mt2 (List.mem_of_getElem? (i := 14) rfl)) rfl
theorem q2_15 : Cond.constantDouble RX6 17 (5183643170566569984 : UInt64) ∈ lw_good := lw_mem (mt2 (List.mem_of_getElem? (i := 15) rfl)) rfl
theorem q2_16 : Cond.constantDouble RX6 19 (9218868437227405311 : UInt64) ∈ lw_good := lw_mem (mt2 (List.mem_of_getElem? (i := 16) rfl)) rfl
theorem q2_17 : Cond.constantDouble RX6 21 (3936146074321813504 : UInt64) ∈ lw_good := lw_mem (mt2 (List.mem_of_getElem? (i := 17) rfl)) rfl
theorem q2_18 : Cond.constantDouble RX6 23 (1 : UInt64) ∈ lw_good := lw_mem (mt2 (List.mem_of_getElem? (i := 18) rfl)) rfl
theorem q2_19 : Cond.methodLink RX8 27 yX8_put ∈ lw_good := lw_mem (mt2 (List.mem_of_getElem? (i := 19) rfl)) rfl
theorem q2_20 : Cond.methodLink RL 23 yX10_constant ∈ lw_good := lw_mem (mt2 (List.mem_of_getElem? (i := 20) rfl)) rfl
theorem q2_21 : Cond.instanceMethod yX10_constant ∈ lw_good := lw_mem (mt2 (List.mem_of_getElem? (i := 21) rfl)) rfl
theorem q2_22 : Cond.selects RX10 yX10_constant yX10_constant ∈ lw_good := lw_mem (mt2 (List.mem_of_getElem? (i := 22) rfl)) rfl
theorem q2_23 : Cond.code yX10_constant cX10_constant 4 (some .int) ∈ lw_good := lw_mem (mt2 (List.mem_of_getElem? (i := 23) rfl)) rfl
theorem q2_24 : Cond.methodLink RX10 103 yX10_isConstant ∈ lw_good := lw_mem (mt2 (List.mem_of_getElem? (i := 24) rfl)) rfl
theorem q2_25 : Cond.static yX10_isConstant ∈ lw_good := lw_mem (mt2 (List.mem_of_getElem? (i := 25) rfl)) rfl
theorem q2_26 : Cond.code yX10_isConstant cX10_isConstant 1 (some .boolean) ∈ lw_good := lw_mem (mt2 (List.mem_of_getElem? (i := 26) rfl)) rfl
theorem q2_27 : Cond.methodLink RL 27 yX10_constantSpecial ∈ lw_good := lw_mem (mt2 (List.mem_of_getElem? (i := 27) rfl)) rfl
theorem q2_28 : Cond.instanceMethod yX10_constantSpecial ∈ lw_good := lw_mem (mt2 (List.mem_of_getElem? (i := 28) rfl)) rfl
theorem q2_29 : Cond.selects RX10 yX10_constantSpecial yX10_constantSpecial ∈ lw_good := lw_mem (mt2 (List.mem_of_getElem? (i := 29) rfl)) rfl
theorem q2_30 : Cond.code yX10_constantSpecial cX10_constantSpecial 3 (some .int) ∈ lw_good := lw_mem (mt2 (List.mem_of_getElem? (i := 30) rfl)) rfl
theorem q2_31 : Cond.methodLink RL 32 yX10_formula ∈ lw_good := lw_mem (mt2 (List.mem_of_getElem? (i := 31) rfl)) rfl
theorem q2_32 : Cond.instanceMethod yX10_formula ∈ lw_good := lw_mem (mt2 (List.mem_of_getElem? (i := 32) rfl)) rfl
theorem q2_33 : Cond.selects RX10 yX10_formula yX10_formula ∈ lw_good := lw_mem (mt2 (List.mem_of_getElem? (i := 33) rfl)) rfl
theorem q2_34 : Cond.code yX10_formula cX10_formula 7 (some .int) ∈ lw_good := lw_mem (mt2 (List.mem_of_getElem? (i := 34) rfl)) rfl
theorem q2_35 : Cond.methodLink RX10 113 yX10_isComparison ∈ lw_good := lw_mem (mt2 (List.mem_of_getElem? (i := 35) rfl)) rfl
theorem q2_36 : Cond.static yX10_isComparison ∈ lw_good := lw_mem (mt2 (List.mem_of_getElem? (i := 36) rfl)) rfl
theorem q2_37 : Cond.code yX10_isComparison cX10_isComparison 1 (some .boolean) ∈ lw_good := lw_mem (mt2 (List.mem_of_getElem? (i := 37) rfl)) rfl
theorem q2_38 : Cond.methodLink RX10 116 yX10_isConstantSource ∈ lw_good := lw_mem (mt2 (List.mem_of_getElem? (i := 38) rfl)) rfl
theorem q2_39 : Cond.static yX10_isConstantSource ∈ lw_good := lw_mem (mt2 (List.mem_of_getElem? (i := 39) rfl)) rfl
theorem q2_40 : Cond.code yX10_isConstantSource cX10_isConstantSource 1 (some .boolean) ∈ lw_good := lw_mem (mt2 (List.mem_of_getElem? (i := 40) rfl)) rfl
theorem q2_41 : Cond.classLink RX10 119 RX4 ∈ lw_good := lw_mem (mt2 (List.mem_of_getElem? (i := 41) rfl)) rfl
theorem q2_42 : Cond.instantiable RX4 4 ∈ lw_good := lw_mem (mt2 (List.mem_of_getElem? (i := 42) rfl)) rfl
theorem q2_43 : Cond.methodLink RX10 121 yX4_init ∈ lw_good := lw_mem (mt2 (List.mem_of_getElem? (i := 43) rfl)) rfl
theorem q2_44 : Cond.instanceMethod yX4_init ∈ lw_good := lw_mem (mt2 (List.mem_of_getElem? (i := 44) rfl)) rfl
theorem q2_45 : Cond.code yX4_init cX4_init 4 none ∈ lw_good := lw_mem (mt2 (List.mem_of_getElem? (i := 45) rfl)) rfl
theorem q2_46 : Cond.methodLink RX4 1 yX2_init ∈ lw_good := lw_mem (mt2 (List.mem_of_getElem? (i := 46) rfl)) rfl
theorem q2_47 : Cond.classLink RX4 7 RX3 ∈ lw_good := lw_mem (mt2 (List.mem_of_getElem? (i := 47) rfl)) rfl
theorem q2_49 : Cond.methodLink RX4 21 yX3_become ∈ lw_good := lw_mem (mt2 (List.mem_of_getElem? (i := 49) rfl)) rfl
theorem q2_50 : Cond.instanceMethod yX3_become ∈ lw_good := lw_mem (mt2 (List.mem_of_getElem? (i := 50) rfl)) rfl
theorem q2_51 : Cond.selects RX3 yX3_become yX3_become ∈ lw_good := lw_mem (mt2 (List.mem_of_getElem? (i := 51) rfl)) rfl
theorem q2_52 : Cond.code yX3_become cX3_become 3 none ∈ lw_good := lw_mem (mt2 (List.mem_of_getElem? (i := 52) rfl)) rfl
theorem q2_53 : Cond.methodLink RX3 37 yX8_putBrought ∈ lw_good := lw_mem (mt2 (List.mem_of_getElem? (i := 53) rfl)) rfl
theorem q2_54 : Cond.instanceMethod yX8_putBrought ∈ lw_good := lw_mem (mt2 (List.mem_of_getElem? (i := 54) rfl)) rfl
theorem q2_55 : Cond.selects RX8 yX8_putBrought yX8_putBrought ∈ lw_good := lw_mem (mt2 (List.mem_of_getElem? (i := 55) rfl)) rfl
theorem q2_56 : Cond.code yX8_putBrought cX8_putBrought 5 none ∈ lw_good := lw_mem (mt2 (List.mem_of_getElem? (i := 56) rfl)) rfl
theorem q2_57 : Cond.methodLink RX8 31 yX6_brought ∈ lw_good := lw_mem (mt2 (List.mem_of_getElem? (i := 57) rfl)) rfl
theorem q2_58 : Cond.fieldLink RX4 18 "TideBook$ColumnChange" "target" "LTideBook$Column;" ∈ lw_good := lw_mem (mt2 (List.mem_of_getElem? (i := 58) rfl)) rfl
theorem q2_59 : Cond.fieldLink RX4 12 "TideBook$ColumnChange" "saved" "LTideBook$Column;" ∈ lw_good := lw_mem (mt2 (List.mem_of_getElem? (i := 59) rfl)) rfl
theorem q2_60 : Cond.laysFinal RX4 "TideBook$ColumnChange" "target" "LTideBook$Column;" ∈ lw_good := lw_mem (mt2 (List.mem_of_getElem? (i := 60) rfl)) rfl
theorem q2_62 : Cond.laysFinal RX4 "TideBook$ColumnChange" "saved" "LTideBook$Column;" ∈ lw_good := lw_mem (mt2 (List.mem_of_getElem? (i := 62) rfl)) rfl
theorem q2_64 : Cond.laysFinal RX4 "TideBook$Change" "before" "LTideBook$Change;" ∈ lw_good := lw_mem (mt2 (List.mem_of_getElem? (i := 64) rfl)) rfl
theorem q2_65 : Cond.laysFinal RX4 "TideBook$Change" "column" "I" ∈ lw_good := lw_mem (mt2 (List.mem_of_getElem? (i := 65) rfl)) rfl
theorem q2_66 : Cond.superclass RX4 "TideBook$Change" ∈ lw_good := lw_mem (mt2 (List.mem_of_getElem? (i := 66) rfl)) rfl
theorem q2_67 : Cond.methodLink RL 37 yX10_input ∈ lw_good := lw_mem (mt2 (List.mem_of_getElem? (i := 67) rfl)) rfl
theorem q2_68 : Cond.instanceMethod yX10_input ∈ lw_good := lw_mem (mt2 (List.mem_of_getElem? (i := 68) rfl)) rfl
theorem q2_69 : Cond.selects RX10 yX10_input yX10_input ∈ lw_good := lw_mem (mt2 (List.mem_of_getElem? (i := 69) rfl)) rfl
theorem q2_70 : Cond.code yX10_input cX10_input 3 (some .int) ∈ lw_good := lw_mem (mt2 (List.mem_of_getElem? (i := 70) rfl)) rfl
theorem q2_71 : Cond.methodLink RX10 139 yX10_refresh ∈ lw_good := lw_mem (mt2 (List.mem_of_getElem? (i := 71) rfl)) rfl
theorem q2_73 : Cond.instanceMethod yX10_refresh ∈ lw_good := lw_mem (mt2 (List.mem_of_getElem? (i := 73) rfl)) rfl
theorem q2_74 : Cond.code yX10_refresh cX10_refresh 3 none ∈ lw_good := lw_mem (mt2 (List.mem_of_getElem? (i := 74) rfl)) rfl
theorem q2_75 : Cond.methodLink RX10 198 yJ9_max_7cf53 ∈ lw_good := lw_mem (mt2 (List.mem_of_getElem? (i := 75) rfl)) rfl
theorem q2_76 : Cond.static yJ9_max_7cf53 ∈ lw_good := lw_mem (mt2 (List.mem_of_getElem? (i := 76) rfl)) rfl
theorem q2_77 : Cond.code yJ9_max_7cf53 cJ9_max_7cf53 2 (some .int) ∈ lw_good := lw_mem (mt2 (List.mem_of_getElem? (i := 77) rfl)) rfl
theorem q2_78 : Cond.methodLink RX10 217 yX10_load ∈ lw_good := lw_mem (mt2 (List.mem_of_getElem? (i := 78) rfl)) rfl
theorem q2_80 : Cond.instanceMethod yX10_load ∈ lw_good := lw_mem (mt2 (List.mem_of_getElem? (i := 80) rfl)) rfl
theorem q2_81 : Cond.code yX10_load cX10_load 5 none ∈ lw_good := lw_mem (mt2 (List.mem_of_getElem? (i := 81) rfl)) rfl
theorem q2_82 : Cond.methodLink RX10 224 yX10_sourceOf ∈ lw_good := lw_mem (mt2 (List.mem_of_getElem? (i := 82) rfl)) rfl
theorem q2_84 : Cond.instanceMethod yX10_sourceOf ∈ lw_good := lw_mem (mt2 (List.mem_of_getElem? (i := 84) rfl)) rfl
theorem q2_85 : Cond.code yX10_sourceOf cX10_sourceOf 2 (some (.object "TideBook$Readings")) ∈ lw_good := lw_mem (mt2 (List.mem_of_getElem? (i := 85) rfl)) rfl
theorem q2_86 : Cond.methodLink RX10 142 yX8_putBrought ∈ lw_good := lw_mem (mt2 (List.mem_of_getElem? (i := 86) rfl)) rfl
theorem q2_87 : Cond.methodLink RX10 234 yX10_placeIn ∈ lw_good := lw_mem (mt2 (List.mem_of_getElem? (i := 87) rfl)) rfl
theorem q2_88 : Cond.static yX10_placeIn ∈ lw_good := lw_mem (mt2 (List.mem_of_getElem? (i := 88) rfl)) rfl
theorem q2_89 : Cond.code yX10_placeIn cX10_placeIn 2 (some .int) ∈ lw_good := lw_mem (mt2 (List.mem_of_getElem? (i := 89) rfl)) rfl
theorem q2_90 : Cond.methodLink RX10 221 yX9_reckon ∈ lw_good := lw_mem (mt2 (List.mem_of_getElem? (i := 90) rfl)) rfl
theorem q2_91 : Cond.instanceMethod yX9_reckon ∈ lw_good := lw_mem (mt2 (List.mem_of_getElem? (i := 91) rfl)) rfl
theorem q2_92 : Cond.selects RX9 yX9_reckon yX9_reckon ∈ lw_good := lw_mem (mt2 (List.mem_of_getElem? (i := 92) rfl)) rfl
theorem q2_93 : Cond.code yX9_reckon cX9_reckon 3 none ∈ lw_good := lw_mem (mt2 (List.mem_of_getElem? (i := 93) rfl)) rfl
theorem q2_94 : Cond.methodLink RX9 28 yX8_clear ∈ lw_good := lw_mem (mt2 (List.mem_of_getElem? (i := 94) rfl)) rfl
theorem q2_95 : Cond.methodLink RX9 35 yX9_fromX ∈ lw_good := lw_mem (mt2 (List.mem_of_getElem? (i := 95) rfl)) rfl
theorem q2_97 : Cond.instanceMethod yX9_fromX ∈ lw_good := lw_mem (mt2 (List.mem_of_getElem? (i := 97) rfl)) rfl
theorem q2_98 : Cond.code yX9_fromX cX9_fromX 3 none ∈ lw_good := lw_mem (mt2 (List.mem_of_getElem? (i := 98) rfl)) rfl
theorem q2_99 : Cond.methodLink RX9 45 yX8_blankAt ∈ lw_good := lw_mem (mt2 (List.mem_of_getElem? (i := 99) rfl)) rfl
theorem q2_100 : Cond.methodLink RX9 49 yX8_at ∈ lw_good := lw_mem (mt2 (List.mem_of_getElem? (i := 100) rfl)) rfl
theorem q2_101 : Cond.methodLink RX9 57 yX6_ofOne ∈ lw_good := lw_mem (mt2 (List.mem_of_getElem? (i := 101) rfl)) rfl
theorem q2_102 : Cond.static yX6_ofOne ∈ lw_good := lw_mem (mt2 (List.mem_of_getElem? (i := 102) rfl)) rfl
theorem q2_103 : Cond.code yX6_ofOne cX6_ofOne 4 (some .double) ∈ lw_good := lw_mem (mt2 (List.mem_of_getElem? (i := 103) rfl)) rfl
theorem q2_104 : Cond.methodLink RX6 37 yX6_withSign ∈ lw_good := lw_mem (mt2 (List.mem_of_getElem? (i := 104) rfl)) rfl
theorem q2_105 : Cond.static yX6_withSign ∈ lw_good := lw_mem (mt2 (List.mem_of_getElem? (i := 105) rfl)) rfl
theorem q2_106 : Cond.code yX6_withSign cX6_withSign 3 (some .double) ∈ lw_good := lw_mem (mt2 (List.mem_of_getElem? (i := 106) rfl)) rfl
theorem q2_107 : Cond.methodLink RX6 27 yX6_hasMinus ∈ lw_good := lw_mem (mt2 (List.mem_of_getElem? (i := 107) rfl)) rfl
theorem q2_108 : Cond.static yX6_hasMinus ∈ lw_good := lw_mem (mt2 (List.mem_of_getElem? (i := 108) rfl)) rfl
theorem q2_109 : Cond.code yX6_hasMinus cX6_hasMinus 2 (some .boolean) ∈ lw_good := lw_mem (mt2 (List.mem_of_getElem? (i := 109) rfl)) rfl
theorem q2_110 : Cond.methodLink RX6 41 yX6_floor ∈ lw_good := lw_mem (mt2 (List.mem_of_getElem? (i := 110) rfl)) rfl
theorem q2_111 : Cond.static yX6_floor ∈ lw_good := lw_mem (mt2 (List.mem_of_getElem? (i := 111) rfl)) rfl
theorem q2_112 : Cond.code yX6_floor cX6_floor 4 (some .double) ∈ lw_good := lw_mem (mt2 (List.mem_of_getElem? (i := 112) rfl)) rfl
theorem q2_113 : Cond.methodLink RX6 77 yX6_isSurelyWhole ∈ lw_good := lw_mem (mt2 (List.mem_of_getElem? (i := 113) rfl)) rfl
theorem q2_114 : Cond.static yX6_isSurelyWhole ∈ lw_good := lw_mem (mt2 (List.mem_of_getElem? (i := 114) rfl)) rfl
theorem q2_115 : Cond.code yX6_isSurelyWhole cX6_isSurelyWhole 2 (some .boolean) ∈ lw_good := lw_mem (mt2 (List.mem_of_getElem? (i := 115) rfl)) rfl
theorem q2_116 : Cond.constantDouble RX6 73 (4841369599423283200 : UInt64) ∈ lw_good := lw_mem (mt2 (List.mem_of_getElem? (i := 116) rfl)) rfl
theorem q2_117 : Cond.constantDouble RX6 75 (14064741636278059008 : UInt64) ∈ lw_good := lw_mem (mt2 (List.mem_of_getElem? (i := 117) rfl)) rfl
theorem q2_118 : Cond.methodLink RX6 80 yX6_zeroLike ∈ lw_good := lw_mem (mt2 (List.mem_of_getElem? (i := 118) rfl)) rfl
theorem q2_119 : Cond.static yX6_zeroLike ∈ lw_good := lw_mem (mt2 (List.mem_of_getElem? (i := 119) rfl)) rfl
theorem q2_120 : Cond.code yX6_zeroLike cX6_zeroLike 2 (some .double) ∈ lw_good := lw_mem (mt2 (List.mem_of_getElem? (i := 120) rfl)) rfl
theorem q2_121 : Cond.methodLink RX6 45 yX6_nearest ∈ lw_good := lw_mem (mt2 (List.mem_of_getElem? (i := 121) rfl)) rfl
theorem q2_122 : Cond.static yX6_nearest ∈ lw_good := lw_mem (mt2 (List.mem_of_getElem? (i := 122) rfl)) rfl
theorem q2_123 : Cond.code yX6_nearest cX6_nearest 8 (some .double) ∈ lw_good := lw_mem (mt2 (List.mem_of_getElem? (i := 123) rfl)) rfl
theorem q2_124 : Cond.constantDouble RX6 48 (13830554455654793216 : UInt64) ∈ lw_good := lw_mem (mt2 (List.mem_of_getElem? (i := 124) rfl)) rfl
theorem q2_125 : Cond.methodLink RX6 50 yX6_quotient ∈ lw_good := lw_mem (mt2 (List.mem_of_getElem? (i := 125) rfl)) rfl
theorem q2_126 : Cond.static yX6_quotient ∈ lw_good := lw_mem (mt2 (List.mem_of_getElem? (i := 126) rfl)) rfl
theorem q2_127 : Cond.code yX6_quotient cX6_quotient 5 (some .double) ∈ lw_good := lw_mem (mt2 (List.mem_of_getElem? (i := 127) rfl)) rfl
theorem q2_128 : Cond.methodLink RX6 54 yX6_product ∈ lw_good := lw_mem (mt2 (List.mem_of_getElem? (i := 128) rfl)) rfl
theorem q2_129 : Cond.static yX6_product ∈ lw_good := lw_mem (mt2 (List.mem_of_getElem? (i := 129) rfl)) rfl
theorem q2_130 : Cond.code yX6_product cX6_product 5 (some .double) ∈ lw_good := lw_mem (mt2 (List.mem_of_getElem? (i := 130) rfl)) rfl
theorem q2_131 : Cond.methodLink RX9 63 yX8_put ∈ lw_good := lw_mem (mt2 (List.mem_of_getElem? (i := 131) rfl)) rfl
theorem q2_132 : Cond.methodLink RX9 39 yX9_fromBoth ∈ lw_good := lw_mem (mt2 (List.mem_of_getElem? (i := 132) rfl)) rfl
theorem q2_134 : Cond.instanceMethod yX9_fromBoth ∈ lw_good := lw_mem (mt2 (List.mem_of_getElem? (i := 134) rfl)) rfl
theorem q2_135 : Cond.code yX9_fromBoth cX9_fromBoth 7 none ∈ lw_good := lw_mem (mt2 (List.mem_of_getElem? (i := 135) rfl)) rfl
theorem q2_136 : Cond.methodLink RX9 67 yX6_isVoid ∈ lw_good := lw_mem (mt2 (List.mem_of_getElem? (i := 136) rfl)) rfl
theorem q2_137 : Cond.static yX6_isVoid ∈ lw_good := lw_mem (mt2 (List.mem_of_getElem? (i := 137) rfl)) rfl
theorem q2_138 : Cond.code yX6_isVoid cX6_isVoid 5 (some .boolean) ∈ lw_good := lw_mem (mt2 (List.mem_of_getElem? (i := 138) rfl)) rfl
theorem q2_139 : Cond.methodLink RX6 57 yX6_isInfinite ∈ lw_good := lw_mem (mt2 (List.mem_of_getElem? (i := 139) rfl)) rfl
theorem q2_140 : Cond.static yX6_isInfinite ∈ lw_good := lw_mem (mt2 (List.mem_of_getElem? (i := 140) rfl)) rfl
theorem q2_141 : Cond.code yX6_isInfinite cX6_isInfinite 2 (some .boolean) ∈ lw_good := lw_mem (mt2 (List.mem_of_getElem? (i := 141) rfl)) rfl
theorem q2_142 : Cond.constantDouble RX6 25 (18442240474082181119 : UInt64) ∈ lw_good := lw_mem (mt2 (List.mem_of_getElem? (i := 142) rfl)) rfl
theorem q2_143 : Cond.methodLink RX9 71 yX6_ofTwo ∈ lw_good := lw_mem (mt2 (List.mem_of_getElem? (i := 143) rfl)) rfl
theorem q2_144 : Cond.static yX6_ofTwo ∈ lw_good := lw_mem (mt2 (List.mem_of_getElem? (i := 144) rfl)) rfl
theorem q2_145 : Cond.code yX6_ofTwo cX6_ofTwo 6 (some .double) ∈ lw_good := lw_mem (mt2 (List.mem_of_getElem? (i := 145) rfl)) rfl
theorem q2_146 : Cond.methodLink RX6 60 yX6_sum ∈ lw_good := lw_mem (mt2 (List.mem_of_getElem? (i := 146) rfl)) rfl
theorem q2_147 : Cond.static yX6_sum ∈ lw_good := lw_mem (mt2 (List.mem_of_getElem? (i := 147) rfl)) rfl
theorem q2_148 : Cond.code yX6_sum cX6_sum 5 (some .double) ∈ lw_good := lw_mem (mt2 (List.mem_of_getElem? (i := 148) rfl)) rfl
theorem q2_149 : Cond.methodLink RX6 63 yX6_remainder ∈ lw_good := lw_mem (mt2 (List.mem_of_getElem? (i := 149) rfl)) rfl
theorem q2_150 : Cond.static yX6_remainder ∈ lw_good := lw_mem (mt2 (List.mem_of_getElem? (i := 150) rfl)) rfl
theorem q2_151 : Cond.code yX6_remainder cX6_remainder 19 (some .double) ∈ lw_good := lw_mem (mt2 (List.mem_of_getElem? (i := 151) rfl)) rfl
theorem q2_152 : Cond.methodLink RX6 83 yX1_behindSign ∈ lw_good := lw_mem (mt2 (List.mem_of_getElem? (i := 152) rfl)) rfl
theorem q2_153 : Cond.static yX1_behindSign ∈ lw_good := lw_mem (mt2 (List.mem_of_getElem? (i := 153) rfl)) rfl
theorem q2_154 : Cond.code yX1_behindSign cX1_behindSign 14 (some .long) ∈ lw_good := lw_mem (mt2 (List.mem_of_getElem? (i := 154) rfl)) rfl
theorem q2_155 : Cond.constantDouble RX1 38 (4039728865751334912 : UInt64) ∈ lw_good := lw_mem (mt2 (List.mem_of_getElem? (i := 155) rfl)) rfl
theorem q2_156 : Cond.constantDouble RX1 40 (4503599627370496 : UInt64) ∈ lw_good := lw_mem (mt2 (List.mem_of_getElem? (i := 156) rfl)) rfl
theorem q2_157 : Cond.constantDouble RX1 42 (4710765210229538816 : UInt64) ∈ lw_good := lw_mem (mt2 (List.mem_of_getElem? (i := 157) rfl)) rfl
theorem q2_158 : Cond.constantDouble RX1 44 (4841369599423283200 : UInt64) ∈ lw_good := lw_mem (mt2 (List.mem_of_getElem? (i := 158) rfl)) rfl
theorem q2_159 : Cond.constantDouble RX1 46 (4751297606875873280 : UInt64) ∈ lw_good := lw_mem (mt2 (List.mem_of_getElem? (i := 159) rfl)) rfl
theorem q2_160 : Cond.constantDouble RX1 48 (4463067230724161536 : UInt64) ∈ lw_good := lw_mem (mt2 (List.mem_of_getElem? (i := 160) rfl)) rfl
theorem q2_161 : Cond.constantDouble RX1 50 (4611686018427387904 : UInt64) ∈ lw_good := lw_mem (mt2 (List.mem_of_getElem? (i := 161) rfl)) rfl
theorem q2_162 : Cond.constantDouble RX1 52 (4602678819172646912 : UInt64) ∈ lw_good := lw_mem (mt2 (List.mem_of_getElem? (i := 162) rfl)) rfl
theorem q2_163 : Cond.methodLink RX6 89 yX1_wideDigits ∈ lw_good := lw_mem (mt2 (List.mem_of_getElem? (i := 163) rfl)) rfl
theorem q2_164 : Cond.static yX1_wideDigits ∈ lw_good := lw_mem (mt2 (List.mem_of_getElem? (i := 164) rfl)) rfl
theorem q2_165 : Cond.code yX1_wideDigits cX1_wideDigits 4 (some .long) ∈ lw_good := lw_mem (mt2 (List.mem_of_getElem? (i := 165) rfl)) rfl
theorem q2_166 : Cond.constantLong RX1 54 (4503599627370495 : Int64) ∈ lw_good := lw_mem (mt2 (List.mem_of_getElem? (i := 166) rfl)) rfl
theorem q2_167 : Cond.constantLong RX1 56 (4503599627370496 : Int64) ∈ lw_good := lw_mem (mt2 (List.mem_of_getElem? (i := 167) rfl)) rfl
theorem q2_168 : Cond.methodLink RX6 93 yX1_widePower ∈ lw_good := lw_mem (mt2 (List.mem_of_getElem? (i := 168) rfl)) rfl
theorem q2_169 : Cond.static yX1_widePower ∈ lw_good := lw_mem (mt2 (List.mem_of_getElem? (i := 169) rfl)) rfl
theorem q2_170 : Cond.code yX1_widePower cX1_widePower 3 (some .int) ∈ lw_good := lw_mem (mt2 (List.mem_of_getElem? (i := 170) rfl)) rfl
theorem q2_171 : Cond.methodLink RX6 97 yJ9_min_7cf53 ∈ lw_good := lw_mem (mt2 (List.mem_of_getElem? (i := 171) rfl)) rfl
theorem q2_172 : Cond.methodLink RX6 103 yX6_twoTo ∈ lw_good := lw_mem (mt2 (List.mem_of_getElem? (i := 172) rfl)) rfl
theorem q2_173 : Cond.methodLink RX6 67 yX6_lesser ∈ lw_good := lw_mem (mt2 (List.mem_of_getElem? (i := 173) rfl)) rfl
theorem q2_174 : Cond.static yX6_lesser ∈ lw_good := lw_mem (mt2 (List.mem_of_getElem? (i := 174) rfl)) rfl
theorem q2_175 : Cond.code yX6_lesser cX6_lesser 4 (some .double) ∈ lw_good := lw_mem (mt2 (List.mem_of_getElem? (i := 175) rfl)) rfl
theorem q2_176 : Cond.methodLink RX6 33 yX6_isBelow ∈ lw_good := lw_mem (mt2 (List.mem_of_getElem? (i := 176) rfl)) rfl
theorem q2_177 : Cond.static yX6_isBelow ∈ lw_good := lw_mem (mt2 (List.mem_of_getElem? (i := 177) rfl)) rfl
theorem q2_178 : Cond.code yX6_isBelow cX6_isBelow 4 (some .boolean) ∈ lw_good := lw_mem (mt2 (List.mem_of_getElem? (i := 178) rfl)) rfl
theorem q2_179 : Cond.methodLink RX6 70 yX6_greater ∈ lw_good := lw_mem (mt2 (List.mem_of_getElem? (i := 179) rfl)) rfl
theorem q2_180 : Cond.static yX6_greater ∈ lw_good := lw_mem (mt2 (List.mem_of_getElem? (i := 180) rfl)) rfl
theorem q2_181 : Cond.code yX6_greater cX6_greater 4 (some .double) ∈ lw_good := lw_mem (mt2 (List.mem_of_getElem? (i := 181) rfl)) rfl
theorem q2_182 : Cond.methodLink RX9 42 yX9_fromRow ∈ lw_good := lw_mem (mt2 (List.mem_of_getElem? (i := 182) rfl)) rfl
theorem q2_184 : Cond.instanceMethod yX9_fromRow ∈ lw_good := lw_mem (mt2 (List.mem_of_getElem? (i := 184) rfl)) rfl
theorem q2_185 : Cond.code yX9_fromRow cX9_fromRow 4 none ∈ lw_good := lw_mem (mt2 (List.mem_of_getElem? (i := 185) rfl)) rfl
theorem q2_186 : Cond.methodLink RX9 78 yX9_keep ∈ lw_good := lw_mem (mt2 (List.mem_of_getElem? (i := 186) rfl)) rfl
theorem q2_188 : Cond.instanceMethod yX9_keep ∈ lw_good := lw_mem (mt2 (List.mem_of_getElem? (i := 188) rfl)) rfl
theorem q2_189 : Cond.code yX9_keep cX9_keep 4 none ∈ lw_good := lw_mem (mt2 (List.mem_of_getElem? (i := 189) rfl)) rfl
theorem q2_190 : Cond.methodLink RX9 106 yX5_isSo ∈ lw_good := lw_mem (mt2 (List.mem_of_getElem? (i := 190) rfl)) rfl
theorem q2_191 : Cond.static yX5_isSo ∈ lw_good := lw_mem (mt2 (List.mem_of_getElem? (i := 191) rfl)) rfl
theorem q2_192 : Cond.code yX5_isSo cX5_isSo 9 (some .boolean) ∈ lw_good := lw_mem (mt2 (List.mem_of_getElem? (i := 192) rfl)) rfl
theorem q2_193 : Cond.methodLink RX5 9 yX8_blankAt ∈ lw_good := lw_mem (mt2 (List.mem_of_getElem? (i := 193) rfl)) rfl
theorem q2_194 : Cond.methodLink RX5 15 yX8_at ∈ lw_good := lw_mem (mt2 (List.mem_of_getElem? (i := 194) rfl)) rfl
theorem q2_195 : Cond.methodLink RX5 19 yX5_isSoOf ∈ lw_good := lw_mem (mt2 (List.mem_of_getElem? (i := 195) rfl)) rfl
theorem q2_196 : Cond.static yX5_isSoOf ∈ lw_good := lw_mem (mt2 (List.mem_of_getElem? (i := 196) rfl)) rfl
theorem q2_197 : Cond.code yX5_isSoOf cX5_isSoOf 5 (some .boolean) ∈ lw_good := lw_mem (mt2 (List.mem_of_getElem? (i := 197) rfl)) rfl
theorem q2_198 : Cond.methodLink RX9 82 yX8_putBrought ∈ lw_good := lw_mem (mt2 (List.mem_of_getElem? (i := 198) rfl)) rfl
theorem q2_199 : Cond.methodLink RX9 86 yX9_middle ∈ lw_good := lw_mem (mt2 (List.mem_of_getElem? (i := 199) rfl)) rfl
theorem q2_201 : Cond.instanceMethod yX9_middle ∈ lw_good := lw_mem (mt2 (List.mem_of_getElem? (i := 201) rfl)) rfl
theorem q2_202 : Cond.code yX9_middle cX9_middle 11 none ∈ lw_good := lw_mem (mt2 (List.mem_of_getElem? (i := 202) rfl)) rfl
theorem q2_203 : Cond.methodLink RX9 112 yX6_lesser ∈ lw_good := lw_mem (mt2 (List.mem_of_getElem? (i := 203) rfl)) rfl
theorem q2_204 : Cond.methodLink RX9 116 yX6_greater ∈ lw_good := lw_mem (mt2 (List.mem_of_getElem? (i := 204) rfl)) rfl
theorem q2_205 : Cond.methodLink RX9 90 yX9_extreme ∈ lw_good := lw_mem (mt2 (List.mem_of_getElem? (i := 205) rfl)) rfl
theorem q2_207 : Cond.instanceMethod yX9_extreme ∈ lw_good := lw_mem (mt2 (List.mem_of_getElem? (i := 207) rfl)) rfl
theorem q2_208 : Cond.code yX9_extreme cX9_extreme 6 none ∈ lw_good := lw_mem (mt2 (List.mem_of_getElem? (i := 208) rfl)) rfl
theorem q2_209 : Cond.methodLink RX9 94 yX9_insert ∈ lw_good := lw_mem (mt2 (List.mem_of_getElem? (i := 209) rfl)) rfl
theorem q2_211 : Cond.instanceMethod yX9_insert ∈ lw_good := lw_mem (mt2 (List.mem_of_getElem? (i := 211) rfl)) rfl
theorem q2_212 : Cond.code yX9_insert cX9_insert 6 none ∈ lw_good := lw_mem (mt2 (List.mem_of_getElem? (i := 212) rfl)) rfl
theorem q2_213 : Cond.methodLink RX9 119 yX6_isBelow ∈ lw_good := lw_mem (mt2 (List.mem_of_getElem? (i := 213) rfl)) rfl
theorem q2_214 : Cond.methodLink RX9 97 yX9_countLess ∈ lw_good := lw_mem (mt2 (List.mem_of_getElem? (i := 214) rfl)) rfl
theorem q2_216 : Cond.instanceMethod yX9_countLess ∈ lw_good := lw_mem (mt2 (List.mem_of_getElem? (i := 216) rfl)) rfl
theorem q2_217 : Cond.code yX9_countLess cX9_countLess 5 none ∈ lw_good := lw_mem (mt2 (List.mem_of_getElem? (i := 217) rfl)) rfl
theorem q2_218 : Cond.methodLink RX9 100 yX9_step ∈ lw_good := lw_mem (mt2 (List.mem_of_getElem? (i := 218) rfl)) rfl
theorem q2_220 : Cond.instanceMethod yX9_step ∈ lw_good := lw_mem (mt2 (List.mem_of_getElem? (i := 220) rfl)) rfl
theorem q2_221 : Cond.code yX9_step cX9_step 8 none ∈ lw_good := lw_mem (mt2 (List.mem_of_getElem? (i := 221) rfl)) rfl
theorem q2_222 : Cond.methodLink RX9 123 yX6_sum ∈ lw_good := lw_mem (mt2 (List.mem_of_getElem? (i := 222) rfl)) rfl
theorem q2_223 : Cond.methodLink RX9 103 yX9_countSo ∈ lw_good := lw_mem (mt2 (List.mem_of_getElem? (i := 223) rfl)) rfl
theorem q2_225 : Cond.instanceMethod yX9_countSo ∈ lw_good := lw_mem (mt2 (List.mem_of_getElem? (i := 225) rfl)) rfl
theorem q2_226 : Cond.code yX9_countSo cX9_countSo 6 none ∈ lw_good := lw_mem (mt2 (List.mem_of_getElem? (i := 226) rfl)) rfl
theorem q2_227 : Cond.methodLink RL 42 yX10_width ∈ lw_good := lw_mem (mt2 (List.mem_of_getElem? (i := 227) rfl)) rfl
theorem q2_228 : Cond.instanceMethod yX10_width ∈ lw_good := lw_mem (mt2 (List.mem_of_getElem? (i := 228) rfl)) rfl
theorem q2_229 : Cond.selects RX10 yX10_width yX10_width ∈ lw_good := lw_mem (mt2 (List.mem_of_getElem? (i := 229) rfl)) rfl
theorem q2_230 : Cond.code yX10_width cX10_width 5 (some .int) ∈ lw_good := lw_mem (mt2 (List.mem_of_getElem? (i := 230) rfl)) rfl
theorem q2_231 : Cond.methodLink RL 47 yX10_back ∈ lw_good := lw_mem (mt2 (List.mem_of_getElem? (i := 231) rfl)) rfl
theorem q2_232 : Cond.instanceMethod yX10_back ∈ lw_good := lw_mem (mt2 (List.mem_of_getElem? (i := 232) rfl)) rfl
theorem q2_233 : Cond.selects RX10 yX10_back yX10_back ∈ lw_good := lw_mem (mt2 (List.mem_of_getElem? (i := 233) rfl)) rfl
theorem q2_234 : Cond.code yX10_back cX10_back 2 (some .int) ∈ lw_good := lw_mem (mt2 (List.mem_of_getElem? (i := 234) rfl)) rfl
theorem q2_235 : Cond.methodLink RX10 146 ⟨"TideBook$Change", "takeBack", "()V"⟩ ∈ lw_good := lw_mem (mt2 (List.mem_of_getElem? (i := 235) rfl)) rfl
theorem q2_237 : Cond.sameMethod "TideBook$Change" "TideBook$Change" "takeBack" "()V" ∈ lw_good := lw_mem (mt2 (List.mem_of_getElem? (i := 237) rfl)) rfl
theorem q2_238 : Cond.selects RX4 ⟨"TideBook$Change", "takeBack", "()V"⟩ yX4_takeBack ∈ lw_good := lw_mem (mt2 (List.mem_of_getElem? (i := 238) rfl)) rfl
theorem q2_239 : Cond.instanceMethod yX4_takeBack ∈ lw_good := lw_mem (mt2 (List.mem_of_getElem? (i := 239) rfl)) rfl
theorem q3_0 : Cond.code yX4_takeBack cX4_takeBack 1 none ∈ lw_good := lw_mem (mt3 (List.mem_of_getElem? (i := 0) rfl)) rfl
theorem q3_1 : Cond.selects RX7 ⟨"TideBook$Change", "takeBack", "()V"⟩ yX7_takeBack ∈ lw_good := lw_mem (mt3 (List.mem_of_getElem? (i := 1) rfl)) rfl
theorem q3_2 : Cond.instanceMethod yX7_takeBack ∈ lw_good := lw_mem (mt3 (List.mem_of_getElem? (i := 2) rfl)) rfl
theorem q3_3 : Cond.code yX7_takeBack cX7_takeBack 1 none ∈ lw_good := lw_mem (mt3 (List.mem_of_getElem? (i := 3) rfl)) rfl
theorem q3_4 : Cond.methodLink RX7 35 yX8_clear ∈ lw_good := lw_mem (mt3 (List.mem_of_getElem? (i := 4) rfl)) rfl
theorem q3_5 : Cond.methodLink RX7 39 yX8_put ∈ lw_good := lw_mem (mt3 (List.mem_of_getElem? (i := 5) rfl)) rfl
theorem q3_6 : Cond.methodLink RL 52 yX10_alarm ∈ lw_good := lw_mem (mt3 (List.mem_of_getElem? (i := 6) rfl)) rfl
theorem q3_7 : Cond.instanceMethod yX10_alarm ∈ lw_good := lw_mem (mt3 (List.mem_of_getElem? (i := 7) rfl)) rfl
theorem q3_8 : Cond.selects RX10 yX10_alarm yX10_alarm ∈ lw_good := lw_mem (mt3 (List.mem_of_getElem? (i := 8) rfl)) rfl
theorem q3_9 : Cond.code yX10_alarm cX10_alarm 5 (some .int) ∈ lw_good := lw_mem (mt3 (List.mem_of_getElem? (i := 9) rfl)) rfl
theorem q3_10 : Cond.methodLink RL 56 yX10_ring ∈ lw_good := lw_mem (mt3 (List.mem_of_getElem? (i := 10) rfl)) rfl
theorem q3_11 : Cond.instanceMethod yX10_ring ∈ lw_good := lw_mem (mt3 (List.mem_of_getElem? (i := 11) rfl)) rfl
theorem q3_12 : Cond.selects RX10 yX10_ring yX10_ring ∈ lw_good := lw_mem (mt3 (List.mem_of_getElem? (i := 12) rfl)) rfl
theorem q3_13 : Cond.code yX10_ring cX10_ring 3 (some .int) ∈ lw_good := lw_mem (mt3 (List.mem_of_getElem? (i := 13) rfl)) rfl
theorem q3_14 : Cond.methodLink RX10 166 yX10_placesWhere ∈ lw_good := lw_mem (mt3 (List.mem_of_getElem? (i := 14) rfl)) rfl
theorem q3_16 : Cond.instanceMethod yX10_placesWhere ∈ lw_good := lw_mem (mt3 (List.mem_of_getElem? (i := 16) rfl)) rfl
theorem q3_17 : Cond.code yX10_placesWhere cX10_placesWhere 6 (some .int) ∈ lw_good := lw_mem (mt3 (List.mem_of_getElem? (i := 17) rfl)) rfl
theorem q3_18 : Cond.methodLink RX10 201 yX5_isSo ∈ lw_good := lw_mem (mt3 (List.mem_of_getElem? (i := 18) rfl)) rfl
theorem q3_19 : Cond.methodLink RX10 170 yX0_look ∈ lw_good := lw_mem (mt3 (List.mem_of_getElem? (i := 19) rfl)) rfl
theorem q3_20 : Cond.instanceMethod yX0_look ∈ lw_good := lw_mem (mt3 (List.mem_of_getElem? (i := 20) rfl)) rfl
theorem q3_21 : Cond.selects RX0 yX0_look yX0_look ∈ lw_good := lw_mem (mt3 (List.mem_of_getElem? (i := 21) rfl)) rfl
theorem q3_22 : Cond.code yX0_look cX0_look 2 none ∈ lw_good := lw_mem (mt3 (List.mem_of_getElem? (i := 22) rfl)) rfl
theorem q3_23 : Cond.methodLink RX10 176 yJ6_bitCount_0f7a4 ∈ lw_good := lw_mem (mt3 (List.mem_of_getElem? (i := 23) rfl)) rfl
theorem q3_24 : Cond.static yJ6_bitCount_0f7a4 ∈ lw_good := lw_mem (mt3 (List.mem_of_getElem? (i := 24) rfl)) rfl
theorem q3_25 : Cond.code yJ6_bitCount_0f7a4 cJ6_bitCount_0f7a4 1 (some .int) ∈ lw_good := lw_mem (mt3 (List.mem_of_getElem? (i := 25) rfl)) rfl
theorem q3_26 : Cond.constant RJ6 265 (1431655765 : Int32) ∈ lw_good := lw_mem (mt3 (List.mem_of_getElem? (i := 26) rfl)) rfl
theorem q3_27 : Cond.constant RJ6 266 (858993459 : Int32) ∈ lw_good := lw_mem (mt3 (List.mem_of_getElem? (i := 27) rfl)) rfl
theorem q3_28 : Cond.constant RJ6 267 (252645135 : Int32) ∈ lw_good := lw_mem (mt3 (List.mem_of_getElem? (i := 28) rfl)) rfl
theorem q3_29 : Cond.methodLink RL 60 yX10_reading ∈ lw_good := lw_mem (mt3 (List.mem_of_getElem? (i := 29) rfl)) rfl
theorem q3_30 : Cond.instanceMethod yX10_reading ∈ lw_good := lw_mem (mt3 (List.mem_of_getElem? (i := 30) rfl)) rfl
theorem q3_31 : Cond.selects RX10 yX10_reading yX10_reading ∈ lw_good := lw_mem (mt3 (List.mem_of_getElem? (i := 31) rfl)) rfl
theorem q3_32 : Cond.code yX10_reading cX10_reading 3 (some .double) ∈ lw_good := lw_mem (mt3 (List.mem_of_getElem? (i := 32) rfl)) rfl
theorem q3_33 : Cond.methodLink RX10 182 yX8_at ∈ lw_good := lw_mem (mt3 (List.mem_of_getElem? (i := 33) rfl)) rfl
theorem q3_34 : Cond.methodLink RL 65 yX10_isBlank ∈ lw_good := lw_mem (mt3 (List.mem_of_getElem? (i := 34) rfl)) rfl
theorem q3_35 : Cond.instanceMethod yX10_isBlank ∈ lw_good := lw_mem (mt3 (List.mem_of_getElem? (i := 35) rfl)) rfl
theorem q3_36 : Cond.selects RX10 yX10_isBlank yX10_isBlank ∈ lw_good := lw_mem (mt3 (List.mem_of_getElem? (i := 36) rfl)) rfl
theorem q3_37 : Cond.code yX10_isBlank cX10_isBlank 3 (some .boolean) ∈ lw_good := lw_mem (mt3 (List.mem_of_getElem? (i := 37) rfl)) rfl
theorem q3_38 : Cond.methodLink RX10 185 yX8_blankAt ∈ lw_good := lw_mem (mt3 (List.mem_of_getElem? (i := 38) rfl)) rfl
theorem q3_39 : Cond.methodLink RL 70 yX10_isMinus ∈ lw_good := lw_mem (mt3 (List.mem_of_getElem? (i := 39) rfl)) rfl
theorem q3_40 : Cond.instanceMethod yX10_isMinus ∈ lw_good := lw_mem (mt3 (List.mem_of_getElem? (i := 40) rfl)) rfl
theorem q3_41 : Cond.selects RX10 yX10_isMinus yX10_isMinus ∈ lw_good := lw_mem (mt3 (List.mem_of_getElem? (i := 41) rfl)) rfl
theorem q3_42 : Cond.code yX10_isMinus cX10_isMinus 3 (some .boolean) ∈ lw_good := lw_mem (mt3 (List.mem_of_getElem? (i := 42) rfl)) rfl
theorem q3_43 : Cond.methodLink RX10 188 yX6_hasMinus ∈ lw_good := lw_mem (mt3 (List.mem_of_getElem? (i := 43) rfl)) rfl
theorem q3_44 : Cond.methodLink RL 74 yX10_bits ∈ lw_good := lw_mem (mt3 (List.mem_of_getElem? (i := 44) rfl)) rfl
theorem q3_45 : Cond.instanceMethod yX10_bits ∈ lw_good := lw_mem (mt3 (List.mem_of_getElem? (i := 45) rfl)) rfl
theorem q3_46 : Cond.selects RX10 yX10_bits yX10_bits ∈ lw_good := lw_mem (mt3 (List.mem_of_getElem? (i := 46) rfl)) rfl
theorem q3_47 : Cond.code yX10_bits cX10_bits 3 (some .long) ∈ lw_good := lw_mem (mt3 (List.mem_of_getElem? (i := 47) rfl)) rfl
theorem q3_48 : Cond.methodLink RX10 192 yX1_of ∈ lw_good := lw_mem (mt3 (List.mem_of_getElem? (i := 48) rfl)) rfl
theorem q3_49 : Cond.static yX1_of ∈ lw_good := lw_mem (mt3 (List.mem_of_getElem? (i := 49) rfl)) rfl
theorem q3_50 : Cond.code yX1_of cX1_of 7 (some .long) ∈ lw_good := lw_mem (mt3 (List.mem_of_getElem? (i := 50) rfl)) rfl
theorem q3_51 : Cond.constantLong RX1 7 (-2147483648 : Int64) ∈ lw_good := lw_mem (mt3 (List.mem_of_getElem? (i := 51) rfl)) rfl
theorem q3_52 : Cond.constantLong RX1 9 (-9223372036854775808 : Int64) ∈ lw_good := lw_mem (mt3 (List.mem_of_getElem? (i := 52) rfl)) rfl
theorem q3_53 : Cond.methodLink RX1 11 yX6_isInfinite ∈ lw_good := lw_mem (mt3 (List.mem_of_getElem? (i := 53) rfl)) rfl
theorem q3_54 : Cond.methodLink RX1 17 yX1_ofInfinite ∈ lw_good := lw_mem (mt3 (List.mem_of_getElem? (i := 54) rfl)) rfl
theorem q3_55 : Cond.static yX1_ofInfinite ∈ lw_good := lw_mem (mt3 (List.mem_of_getElem? (i := 55) rfl)) rfl
theorem q3_56 : Cond.code yX1_ofInfinite cX1_ofInfinite 1 (some .long) ∈ lw_good := lw_mem (mt3 (List.mem_of_getElem? (i := 56) rfl)) rfl
theorem q3_57 : Cond.constantLong RX1 34 (2139095040 : Int64) ∈ lw_good := lw_mem (mt3 (List.mem_of_getElem? (i := 57) rfl)) rfl
theorem q3_58 : Cond.constantLong RX1 36 (9218868437227405312 : Int64) ∈ lw_good := lw_mem (mt3 (List.mem_of_getElem? (i := 58) rfl)) rfl
theorem q3_59 : Cond.methodLink RX1 23 yX6_withSign ∈ lw_good := lw_mem (mt3 (List.mem_of_getElem? (i := 59) rfl)) rfl
theorem q3_60 : Cond.methodLink RX1 27 yX1_behindSign ∈ lw_good := lw_mem (mt3 (List.mem_of_getElem? (i := 60) rfl)) rfl
theorem q3_61 : Cond.methodLink RX1 31 yX6_hasMinus ∈ lw_good := lw_mem (mt3 (List.mem_of_getElem? (i := 61) rfl)) rfl
theorem q3_62 : Cond.methodLink RL 79 yX10_compared ∈ lw_good := lw_mem (mt3 (List.mem_of_getElem? (i := 62) rfl)) rfl
theorem q3_63 : Cond.instanceMethod yX10_compared ∈ lw_good := lw_mem (mt3 (List.mem_of_getElem? (i := 63) rfl)) rfl
theorem q3_64 : Cond.selects RX10 yX10_compared yX10_compared ∈ lw_good := lw_mem (mt3 (List.mem_of_getElem? (i := 64) rfl)) rfl
theorem q3_65 : Cond.code yX10_compared cX10_compared 8 (some .int) ∈ lw_good := lw_mem (mt3 (List.mem_of_getElem? (i := 65) rfl)) rfl
theorem q3_66 : Cond.methodLink RL 83 yX10_alarmed ∈ lw_good := lw_mem (mt3 (List.mem_of_getElem? (i := 66) rfl)) rfl
theorem q3_67 : Cond.instanceMethod yX10_alarmed ∈ lw_good := lw_mem (mt3 (List.mem_of_getElem? (i := 67) rfl)) rfl
theorem q3_68 : Cond.selects RX10 yX10_alarmed yX10_alarmed ∈ lw_good := lw_mem (mt3 (List.mem_of_getElem? (i := 68) rfl)) rfl
theorem q3_69 : Cond.code yX10_alarmed cX10_alarmed 3 (some .int) ∈ lw_good := lw_mem (mt3 (List.mem_of_getElem? (i := 69) rfl)) rfl
theorem q3_70 : Cond.methodLink RX10 210 yX0_answer ∈ lw_good := lw_mem (mt3 (List.mem_of_getElem? (i := 70) rfl)) rfl
theorem q3_71 : Cond.instanceMethod yX0_answer ∈ lw_good := lw_mem (mt3 (List.mem_of_getElem? (i := 71) rfl)) rfl
theorem q3_72 : Cond.selects RX0 yX0_answer yX0_answer ∈ lw_good := lw_mem (mt3 (List.mem_of_getElem? (i := 72) rfl)) rfl
theorem q3_73 : Cond.code yX0_answer cX0_answer 2 (some .int) ∈ lw_good := lw_mem (mt3 (List.mem_of_getElem? (i := 73) rfl)) rfl
theorem q3_74 : Cond.methodLink RX0 31 yJ6_bitCount_0f7a4 ∈ lw_good := lw_mem (mt3 (List.mem_of_getElem? (i := 74) rfl)) rfl
theorem q3_75 : Cond.methodLink RX0 37 yX0_firstRang ∈ lw_good := lw_mem (mt3 (List.mem_of_getElem? (i := 75) rfl)) rfl
theorem q3_77 : Cond.instanceMethod yX0_firstRang ∈ lw_good := lw_mem (mt3 (List.mem_of_getElem? (i := 77) rfl)) rfl
theorem q3_78 : Cond.code yX0_firstRang cX0_firstRang 2 (some .int) ∈ lw_good := lw_mem (mt3 (List.mem_of_getElem? (i := 78) rfl)) rfl
theorem q3_79 : Cond.methodLink RL 87 yX10_told ∈ lw_good := lw_mem (mt3 (List.mem_of_getElem? (i := 79) rfl)) rfl
theorem q3_80 : Cond.instanceMethod yX10_told ∈ lw_good := lw_mem (mt3 (List.mem_of_getElem? (i := 80) rfl)) rfl
theorem q3_81 : Cond.selects RX10 yX10_told yX10_told ∈ lw_good := lw_mem (mt3 (List.mem_of_getElem? (i := 81) rfl)) rfl
theorem q3_82 : Cond.code yX10_told cX10_told 3 (some .int) ∈ lw_good := lw_mem (mt3 (List.mem_of_getElem? (i := 82) rfl)) rfl
theorem q3_83 : Cond.methodLink RX10 213 yX10_toldOfBook ∈ lw_good := lw_mem (mt3 (List.mem_of_getElem? (i := 83) rfl)) rfl
theorem q3_85 : Cond.instanceMethod yX10_toldOfBook ∈ lw_good := lw_mem (mt3 (List.mem_of_getElem? (i := 85) rfl)) rfl
theorem q3_86 : Cond.code yX10_toldOfBook cX10_toldOfBook 2 (some .int) ∈ lw_good := lw_mem (mt3 (List.mem_of_getElem? (i := 86) rfl)) rfl
theorem q3_87 : Cond.methodLink RX10 216 yX3_answer ∈ lw_good := lw_mem (mt3 (List.mem_of_getElem? (i := 87) rfl)) rfl
theorem q3_88 : Cond.instanceMethod yX3_answer ∈ lw_good := lw_mem (mt3 (List.mem_of_getElem? (i := 88) rfl)) rfl
theorem q3_89 : Cond.selects RX3 yX3_answer yX3_answer ∈ lw_good := lw_mem (mt3 (List.mem_of_getElem? (i := 89) rfl)) rfl
theorem q3_90 : Cond.code yX3_answer cX3_answer 2 (some .int) ∈ lw_good := lw_mem (mt3 (List.mem_of_getElem? (i := 90) rfl)) rfl
theorem q3_91 : Cond.methodLink RX3 41 yX3_hasFormula ∈ lw_good := lw_mem (mt3 (List.mem_of_getElem? (i := 91) rfl)) rfl
theorem q3_92 : Cond.methodLink RX3 45 yX8_countBlanks ∈ lw_good := lw_mem (mt3 (List.mem_of_getElem? (i := 92) rfl)) rfl
theorem q3_93 : Cond.instanceMethod yX8_countBlanks ∈ lw_good := lw_mem (mt3 (List.mem_of_getElem? (i := 93) rfl)) rfl
theorem q3_94 : Cond.selects RX8 yX8_countBlanks yX8_countBlanks ∈ lw_good := lw_mem (mt3 (List.mem_of_getElem? (i := 94) rfl)) rfl
theorem q3_95 : Cond.code yX8_countBlanks cX8_countBlanks 6 (some .int) ∈ lw_good := lw_mem (mt3 (List.mem_of_getElem? (i := 95) rfl)) rfl
theorem q3_96 : Cond.classLink RL 10 RX11 ∈ lw_good := lw_mem (mt3 (List.mem_of_getElem? (i := 96) rfl)) rfl
theorem q3_97 : Cond.instantiable RX11 19 ∈ lw_good := lw_mem (mt3 (List.mem_of_getElem? (i := 97) rfl)) rfl
theorem q3_98 : Cond.methodLink RL 12 yX11_init ∈ lw_good := lw_mem (mt3 (List.mem_of_getElem? (i := 98) rfl)) rfl
theorem q3_99 : Cond.instanceMethod yX11_init ∈ lw_good := lw_mem (mt3 (List.mem_of_getElem? (i := 99) rfl)) rfl
theorem q3_100 : Cond.code yX11_init cX11_init 2 none ∈ lw_good := lw_mem (mt3 (List.mem_of_getElem? (i := 100) rfl)) rfl
theorem q3_101 : Cond.methodLink RX11 3 objectInit ∈ lw_good := lw_mem (mt3 (List.mem_of_getElem? (i := 101) rfl)) rfl
theorem q3_102 : Cond.constant RX11 32 (102400 : Int32) ∈ lw_good := lw_mem (mt3 (List.mem_of_getElem? (i := 102) rfl)) rfl
theorem q3_103 : Cond.fieldLink RX11 9 "TideBookModel" "told" "[D" ∈ lw_good := lw_mem (mt3 (List.mem_of_getElem? (i := 103) rfl)) rfl
theorem q3_104 : Cond.fieldLink RX11 15 "TideBookModel" "blank" "[Z" ∈ lw_good := lw_mem (mt3 (List.mem_of_getElem? (i := 104) rfl)) rfl
theorem q3_105 : Cond.fieldLink RX11 19 "TideBookModel" "narrow" "[Z" ∈ lw_good := lw_mem (mt3 (List.mem_of_getElem? (i := 105) rfl)) rfl
theorem q3_106 : Cond.fieldLink RX11 22 "TideBookModel" "made" "[I" ∈ lw_good := lw_mem (mt3 (List.mem_of_getElem? (i := 106) rfl)) rfl
theorem q3_107 : Cond.fieldLink RX11 26 "TideBookModel" "now" "[D" ∈ lw_good := lw_mem (mt3 (List.mem_of_getElem? (i := 107) rfl)) rfl
theorem q3_108 : Cond.fieldLink RX11 29 "TideBookModel" "none" "[Z" ∈ lw_good := lw_mem (mt3 (List.mem_of_getElem? (i := 108) rfl)) rfl
theorem q3_109 : Cond.fieldLink RX11 33 "TideBookModel" "toldThen" "[D" ∈ lw_good := lw_mem (mt3 (List.mem_of_getElem? (i := 109) rfl)) rfl
theorem q3_110 : Cond.fieldLink RX11 36 "TideBookModel" "blankThen" "[Z" ∈ lw_good := lw_mem (mt3 (List.mem_of_getElem? (i := 110) rfl)) rfl
theorem q3_111 : Cond.fieldLink RX11 39 "TideBookModel" "narrowThen" "[Z" ∈ lw_good := lw_mem (mt3 (List.mem_of_getElem? (i := 111) rfl)) rfl
theorem q3_112 : Cond.fieldLink RX11 42 "TideBookModel" "madeThen" "[I" ∈ lw_good := lw_mem (mt3 (List.mem_of_getElem? (i := 112) rfl)) rfl
theorem q3_113 : Cond.fieldLink RX11 187 "TideBookModel" "changes" "I" ∈ lw_good := lw_mem (mt3 (List.mem_of_getElem? (i := 113) rfl)) rfl
theorem q3_114 : Cond.fieldLink RX11 45 "TideBookModel" "alarms" "[I" ∈ lw_good := lw_mem (mt3 (List.mem_of_getElem? (i := 114) rfl)) rfl
theorem q3_115 : Cond.fieldLink RX11 48 "TideBookModel" "held" "[I" ∈ lw_good := lw_mem (mt3 (List.mem_of_getElem? (i := 115) rfl)) rfl
theorem q3_116 : Cond.fieldLink RX11 51 "TideBookModel" "rang" "[I" ∈ lw_good := lw_mem (mt3 (List.mem_of_getElem? (i := 116) rfl)) rfl
theorem q3_117 : Cond.fieldLink RX11 54 "TideBookModel" "looked" "[Z" ∈ lw_good := lw_mem (mt3 (List.mem_of_getElem? (i := 117) rfl)) rfl
theorem q3_118 : Cond.fieldLink RX11 229 "TideBookModel" "alarmMany" "I" ∈ lw_good := lw_mem (mt3 (List.mem_of_getElem? (i := 118) rfl)) rfl
theorem q3_119 : Cond.fieldLink RX11 239 "TideBookModel" "rings" "I" ∈ lw_good := lw_mem (mt3 (List.mem_of_getElem? (i := 119) rfl)) rfl
theorem q3_120 : Cond.fieldLink RX11 86 "TideBookModel" "worth" "D" ∈ lw_good := lw_mem (mt3 (List.mem_of_getElem? (i := 120) rfl)) rfl
theorem q3_121 : Cond.fieldLink RX11 90 "TideBookModel" "isNone" "Z" ∈ lw_good := lw_mem (mt3 (List.mem_of_getElem? (i := 121) rfl)) rfl
theorem q3_122 : Cond.laysFinal RX11 "TideBookModel" "told" "[D" ∈ lw_good := lw_mem (mt3 (List.mem_of_getElem? (i := 122) rfl)) rfl
theorem q3_124 : Cond.laysFinal RX11 "TideBookModel" "blank" "[Z" ∈ lw_good := lw_mem (mt3 (List.mem_of_getElem? (i := 124) rfl)) rfl
theorem q3_126 : Cond.laysFinal RX11 "TideBookModel" "narrow" "[Z" ∈ lw_good := lw_mem (mt3 (List.mem_of_getElem? (i := 126) rfl)) rfl
theorem q3_128 : Cond.laysFinal RX11 "TideBookModel" "made" "[I" ∈ lw_good := lw_mem (mt3 (List.mem_of_getElem? (i := 128) rfl)) rfl
theorem q3_130 : Cond.laysFinal RX11 "TideBookModel" "now" "[D" ∈ lw_good := lw_mem (mt3 (List.mem_of_getElem? (i := 130) rfl)) rfl
theorem q3_132 : Cond.laysFinal RX11 "TideBookModel" "none" "[Z" ∈ lw_good := lw_mem (mt3 (List.mem_of_getElem? (i := 132) rfl)) rfl
theorem q3_134 : Cond.laysFinal RX11 "TideBookModel" "toldThen" "[D" ∈ lw_good := lw_mem (mt3 (List.mem_of_getElem? (i := 134) rfl)) rfl
theorem q3_136 : Cond.laysFinal RX11 "TideBookModel" "blankThen" "[Z" ∈ lw_good := lw_mem (mt3 (List.mem_of_getElem? (i := 136) rfl)) rfl
theorem q3_138 : Cond.laysFinal RX11 "TideBookModel" "narrowThen" "[Z" ∈ lw_good := lw_mem (mt3 (List.mem_of_getElem? (i := 138) rfl)) rfl
theorem q3_140 : Cond.laysFinal RX11 "TideBookModel" "madeThen" "[I" ∈ lw_good := lw_mem (mt3 (List.mem_of_getElem? (i := 140) rfl)) rfl
theorem q3_142 : Cond.lays RX11 "TideBookModel" "changes" "I" ∈ lw_good := lw_mem (mt3 (List.mem_of_getElem? (i := 142) rfl)) rfl
theorem q3_144 : Cond.laysFinal RX11 "TideBookModel" "alarms" "[I" ∈ lw_good := lw_mem (mt3 (List.mem_of_getElem? (i := 144) rfl)) rfl
theorem q3_146 : Cond.laysFinal RX11 "TideBookModel" "held" "[I" ∈ lw_good := lw_mem (mt3 (List.mem_of_getElem? (i := 146) rfl)) rfl
theorem q3_148 : Cond.laysFinal RX11 "TideBookModel" "rang" "[I" ∈ lw_good := lw_mem (mt3 (List.mem_of_getElem? (i := 148) rfl)) rfl
theorem q3_150 : Cond.laysFinal RX11 "TideBookModel" "looked" "[Z" ∈ lw_good := lw_mem (mt3 (List.mem_of_getElem? (i := 150) rfl)) rfl
theorem q3_152 : Cond.lays RX11 "TideBookModel" "alarmMany" "I" ∈ lw_good := lw_mem (mt3 (List.mem_of_getElem? (i := 152) rfl)) rfl
theorem q3_154 : Cond.lays RX11 "TideBookModel" "rings" "I" ∈ lw_good := lw_mem (mt3 (List.mem_of_getElem? (i := 154) rfl)) rfl
theorem q3_156 : Cond.lays RX11 "TideBookModel" "worth" "D" ∈ lw_good := lw_mem (mt3 (List.mem_of_getElem? (i := 156) rfl)) rfl
theorem q3_158 : Cond.lays RX11 "TideBookModel" "isNone" "Z" ∈ lw_good := lw_mem (mt3 (List.mem_of_getElem? (i := 158) rfl)) rfl
theorem q3_160 : Cond.superclass RX11 "java/lang/Object" ∈ lw_good := lw_mem (mt3 (List.mem_of_getElem? (i := 160) rfl)) rfl
theorem q3_161 : Cond.arrayClass .int ∈ lw_good := lw_mem (mt3 (List.mem_of_getElem? (i := 161) rfl)) rfl
theorem q3_162 : Cond.methodLink RL 51 yX11_back ∈ lw_good := lw_mem (mt3 (List.mem_of_getElem? (i := 162) rfl)) rfl
theorem q3_163 : Cond.instanceMethod yX11_back ∈ lw_good := lw_mem (mt3 (List.mem_of_getElem? (i := 163) rfl)) rfl
theorem q3_164 : Cond.selects RX11 yX11_back yX11_back ∈ lw_good := lw_mem (mt3 (List.mem_of_getElem? (i := 164) rfl)) rfl
theorem q3_165 : Cond.code yX11_back cX11_back 2 (some .int) ∈ lw_good := lw_mem (mt3 (List.mem_of_getElem? (i := 165) rfl)) rfl
theorem q3_166 : Cond.methodLink RL 17 yX11_set ∈ lw_good := lw_mem (mt3 (List.mem_of_getElem? (i := 166) rfl)) rfl
theorem q3_167 : Cond.instanceMethod yX11_set ∈ lw_good := lw_mem (mt3 (List.mem_of_getElem? (i := 167) rfl)) rfl
theorem q3_168 : Cond.selects RX11 yX11_set yX11_set ∈ lw_good := lw_mem (mt3 (List.mem_of_getElem? (i := 168) rfl)) rfl
theorem q3_169 : Cond.code yX11_set cX11_set 5 (some .int) ∈ lw_good := lw_mem (mt3 (List.mem_of_getElem? (i := 169) rfl)) rfl
theorem q3_170 : Cond.methodLink RX11 209 yX11_canSet ∈ lw_good := lw_mem (mt3 (List.mem_of_getElem? (i := 170) rfl)) rfl
theorem q3_172 : Cond.instanceMethod yX11_canSet ∈ lw_good := lw_mem (mt3 (List.mem_of_getElem? (i := 172) rfl)) rfl
theorem q3_173 : Cond.code yX11_canSet cX11_canSet 3 (some .boolean) ∈ lw_good := lw_mem (mt3 (List.mem_of_getElem? (i := 173) rfl)) rfl
theorem q3_174 : Cond.methodLink RX11 191 yX11_isIn ∈ lw_good := lw_mem (mt3 (List.mem_of_getElem? (i := 174) rfl)) rfl
theorem q3_175 : Cond.static yX11_isIn ∈ lw_good := lw_mem (mt3 (List.mem_of_getElem? (i := 175) rfl)) rfl
theorem q3_176 : Cond.code yX11_isIn cX11_isIn 3 (some .boolean) ∈ lw_good := lw_mem (mt3 (List.mem_of_getElem? (i := 176) rfl)) rfl
theorem q3_177 : Cond.methodLink RX11 212 yX11_picture ∈ lw_good := lw_mem (mt3 (List.mem_of_getElem? (i := 177) rfl)) rfl
theorem q3_179 : Cond.instanceMethod yX11_picture ∈ lw_good := lw_mem (mt3 (List.mem_of_getElem? (i := 179) rfl)) rfl
theorem q3_180 : Cond.code yX11_picture cX11_picture 2 none ∈ lw_good := lw_mem (mt3 (List.mem_of_getElem? (i := 180) rfl)) rfl
theorem q3_181 : Cond.methodLink RX11 215 yX11_power ∈ lw_good := lw_mem (mt3 (List.mem_of_getElem? (i := 181) rfl)) rfl
theorem q3_182 : Cond.static yX11_power ∈ lw_good := lw_mem (mt3 (List.mem_of_getElem? (i := 182) rfl)) rfl
theorem q3_183 : Cond.code yX11_power cX11_power 5 (some .double) ∈ lw_good := lw_mem (mt3 (List.mem_of_getElem? (i := 183) rfl)) rfl
theorem q3_184 : Cond.constantDouble RX11 84 (4611686018427387904 : UInt64) ∈ lw_good := lw_mem (mt3 (List.mem_of_getElem? (i := 184) rfl)) rfl
theorem q3_185 : Cond.methodLink RX11 132 yX11_brought ∈ lw_good := lw_mem (mt3 (List.mem_of_getElem? (i := 185) rfl)) rfl
theorem q3_186 : Cond.static yX11_brought ∈ lw_good := lw_mem (mt3 (List.mem_of_getElem? (i := 186) rfl)) rfl
theorem q3_187 : Cond.code yX11_brought cX11_brought 3 (some .double) ∈ lw_good := lw_mem (mt3 (List.mem_of_getElem? (i := 187) rfl)) rfl
theorem q3_188 : Cond.methodLink RX11 195 yX11_put ∈ lw_good := lw_mem (mt3 (List.mem_of_getElem? (i := 188) rfl)) rfl
theorem q3_190 : Cond.instanceMethod yX11_put ∈ lw_good := lw_mem (mt3 (List.mem_of_getElem? (i := 190) rfl)) rfl
theorem q3_191 : Cond.code yX11_put cX11_put 4 none ∈ lw_good := lw_mem (mt3 (List.mem_of_getElem? (i := 191) rfl)) rfl
theorem q3_192 : Cond.methodLink RX11 218 yX11_changed ∈ lw_good := lw_mem (mt3 (List.mem_of_getElem? (i := 192) rfl)) rfl
theorem q3_194 : Cond.instanceMethod yX11_changed ∈ lw_good := lw_mem (mt3 (List.mem_of_getElem? (i := 194) rfl)) rfl
theorem q3_195 : Cond.code yX11_changed cX11_changed 1 (some .int) ∈ lw_good := lw_mem (mt3 (List.mem_of_getElem? (i := 195) rfl)) rfl
theorem q3_196 : Cond.methodLink RL 22 yX11_special ∈ lw_good := lw_mem (mt3 (List.mem_of_getElem? (i := 196) rfl)) rfl
theorem q3_197 : Cond.instanceMethod yX11_special ∈ lw_good := lw_mem (mt3 (List.mem_of_getElem? (i := 197) rfl)) rfl
theorem q3_198 : Cond.selects RX11 yX11_special yX11_special ∈ lw_good := lw_mem (mt3 (List.mem_of_getElem? (i := 198) rfl)) rfl
theorem q3_199 : Cond.code yX11_special cX11_special 4 (some .int) ∈ lw_good := lw_mem (mt3 (List.mem_of_getElem? (i := 199) rfl)) rfl
theorem q3_200 : Cond.methodLink RX11 222 yX11_putSpecial ∈ lw_good := lw_mem (mt3 (List.mem_of_getElem? (i := 200) rfl)) rfl
theorem q3_202 : Cond.instanceMethod yX11_putSpecial ∈ lw_good := lw_mem (mt3 (List.mem_of_getElem? (i := 202) rfl)) rfl
theorem q3_203 : Cond.code yX11_putSpecial cX11_putSpecial 4 none ∈ lw_good := lw_mem (mt3 (List.mem_of_getElem? (i := 203) rfl)) rfl
theorem q3_204 : Cond.constantDouble RX11 57 (9218868437227405312 : UInt64) ∈ lw_good := lw_mem (mt3 (List.mem_of_getElem? (i := 204) rfl)) rfl
theorem q3_205 : Cond.constantDouble RX11 59 (18442240474082181120 : UInt64) ∈ lw_good := lw_mem (mt3 (List.mem_of_getElem? (i := 205) rfl)) rfl
theorem q3_206 : Cond.constantDouble RX11 65 (9223372036854775808 : UInt64) ∈ lw_good := lw_mem (mt3 (List.mem_of_getElem? (i := 206) rfl)) rfl
theorem q3_207 : Cond.constantDouble RX11 201 (5183643170566569984 : UInt64) ∈ lw_good := lw_mem (mt3 (List.mem_of_getElem? (i := 207) rfl)) rfl
theorem q3_208 : Cond.constantDouble RX11 203 (9218868437227405311 : UInt64) ∈ lw_good := lw_mem (mt3 (List.mem_of_getElem? (i := 208) rfl)) rfl
theorem q3_209 : Cond.constantDouble RX11 205 (3936146074321813504 : UInt64) ∈ lw_good := lw_mem (mt3 (List.mem_of_getElem? (i := 209) rfl)) rfl
theorem q3_210 : Cond.constantDouble RX11 207 (1 : UInt64) ∈ lw_good := lw_mem (mt3 (List.mem_of_getElem? (i := 210) rfl)) rfl
theorem q3_211 : Cond.methodLink RL 26 yX11_constant ∈ lw_good := lw_mem (mt3 (List.mem_of_getElem? (i := 211) rfl)) rfl
theorem q3_212 : Cond.instanceMethod yX11_constant ∈ lw_good := lw_mem (mt3 (List.mem_of_getElem? (i := 212) rfl)) rfl
theorem q3_213 : Cond.selects RX11 yX11_constant yX11_constant ∈ lw_good := lw_mem (mt3 (List.mem_of_getElem? (i := 213) rfl)) rfl
theorem q3_214 : Cond.code yX11_constant cX11_constant 4 (some .int) ∈ lw_good := lw_mem (mt3 (List.mem_of_getElem? (i := 214) rfl)) rfl
theorem q3_215 : Cond.methodLink RL 31 yX11_constantSpecial ∈ lw_good := lw_mem (mt3 (List.mem_of_getElem? (i := 215) rfl)) rfl
theorem q3_216 : Cond.instanceMethod yX11_constantSpecial ∈ lw_good := lw_mem (mt3 (List.mem_of_getElem? (i := 216) rfl)) rfl
theorem q3_217 : Cond.selects RX11 yX11_constantSpecial yX11_constantSpecial ∈ lw_good := lw_mem (mt3 (List.mem_of_getElem? (i := 217) rfl)) rfl
theorem q3_218 : Cond.code yX11_constantSpecial cX11_constantSpecial 3 (some .int) ∈ lw_good := lw_mem (mt3 (List.mem_of_getElem? (i := 218) rfl)) rfl
theorem q3_219 : Cond.methodLink RL 36 yX11_formula ∈ lw_good := lw_mem (mt3 (List.mem_of_getElem? (i := 219) rfl)) rfl
theorem q3_220 : Cond.instanceMethod yX11_formula ∈ lw_good := lw_mem (mt3 (List.mem_of_getElem? (i := 220) rfl)) rfl
theorem q3_221 : Cond.selects RX11 yX11_formula yX11_formula ∈ lw_good := lw_mem (mt3 (List.mem_of_getElem? (i := 221) rfl)) rfl
theorem q3_222 : Cond.code yX11_formula cX11_formula 7 (some .int) ∈ lw_good := lw_mem (mt3 (List.mem_of_getElem? (i := 222) rfl)) rfl
theorem q3_223 : Cond.methodLink RL 41 yX11_input ∈ lw_good := lw_mem (mt3 (List.mem_of_getElem? (i := 223) rfl)) rfl
theorem q3_224 : Cond.instanceMethod yX11_input ∈ lw_good := lw_mem (mt3 (List.mem_of_getElem? (i := 224) rfl)) rfl
theorem q3_225 : Cond.selects RX11 yX11_input yX11_input ∈ lw_good := lw_mem (mt3 (List.mem_of_getElem? (i := 225) rfl)) rfl
theorem q3_226 : Cond.code yX11_input cX11_input 3 (some .int) ∈ lw_good := lw_mem (mt3 (List.mem_of_getElem? (i := 226) rfl)) rfl
theorem q3_227 : Cond.methodLink RX11 226 yX11_reckonAll ∈ lw_good := lw_mem (mt3 (List.mem_of_getElem? (i := 227) rfl)) rfl
theorem q3_229 : Cond.instanceMethod yX11_reckonAll ∈ lw_good := lw_mem (mt3 (List.mem_of_getElem? (i := 229) rfl)) rfl
theorem q3_230 : Cond.code yX11_reckonAll cX11_reckonAll 4 none ∈ lw_good := lw_mem (mt3 (List.mem_of_getElem? (i := 230) rfl)) rfl
theorem q3_231 : Cond.methodLink RX11 183 yX11_reckon ∈ lw_good := lw_mem (mt3 (List.mem_of_getElem? (i := 231) rfl)) rfl
theorem q3_233 : Cond.instanceMethod yX11_reckon ∈ lw_good := lw_mem (mt3 (List.mem_of_getElem? (i := 233) rfl)) rfl
theorem q3_234 : Cond.code yX11_reckon cX11_reckon 6 none ∈ lw_good := lw_mem (mt3 (List.mem_of_getElem? (i := 234) rfl)) rfl
theorem q3_235 : Cond.methodLink RX11 140 yX11_noX ∈ lw_good := lw_mem (mt3 (List.mem_of_getElem? (i := 235) rfl)) rfl
theorem q3_237 : Cond.instanceMethod yX11_noX ∈ lw_good := lw_mem (mt3 (List.mem_of_getElem? (i := 237) rfl)) rfl
theorem q3_238 : Cond.code yX11_noX cX11_noX 3 (some .boolean) ∈ lw_good := lw_mem (mt3 (List.mem_of_getElem? (i := 238) rfl)) rfl
theorem q3_239 : Cond.methodLink RX11 128 yX11_at ∈ lw_good := lw_mem (mt3 (List.mem_of_getElem? (i := 239) rfl)) rfl
theorem q4_0 : Cond.static yX11_at ∈ lw_good := lw_mem (mt4 (List.mem_of_getElem? (i := 0) rfl)) rfl
theorem q4_1 : Cond.code yX11_at cX11_at 2 (some .int) ∈ lw_good := lw_mem (mt4 (List.mem_of_getElem? (i := 1) rfl)) rfl
theorem q4_2 : Cond.methodLink RX11 147 yX11_noY ∈ lw_good := lw_mem (mt4 (List.mem_of_getElem? (i := 2) rfl)) rfl
theorem q4_4 : Cond.instanceMethod yX11_noY ∈ lw_good := lw_mem (mt4 (List.mem_of_getElem? (i := 4) rfl)) rfl
theorem q4_5 : Cond.code yX11_noY cX11_noY 3 (some .boolean) ∈ lw_good := lw_mem (mt4 (List.mem_of_getElem? (i := 5) rfl)) rfl
theorem q4_6 : Cond.methodLink RX11 114 yX11_givesNothing ∈ lw_good := lw_mem (mt4 (List.mem_of_getElem? (i := 6) rfl)) rfl
theorem q4_8 : Cond.instanceMethod yX11_givesNothing ∈ lw_good := lw_mem (mt4 (List.mem_of_getElem? (i := 8) rfl)) rfl
theorem q4_9 : Cond.code yX11_givesNothing cX11_givesNothing 1 none ∈ lw_good := lw_mem (mt4 (List.mem_of_getElem? (i := 9) rfl)) rfl
theorem q4_10 : Cond.methodLink RX11 136 yX11_x ∈ lw_good := lw_mem (mt4 (List.mem_of_getElem? (i := 10) rfl)) rfl
theorem q4_12 : Cond.instanceMethod yX11_x ∈ lw_good := lw_mem (mt4 (List.mem_of_getElem? (i := 12) rfl)) rfl
theorem q4_13 : Cond.code yX11_x cX11_x 3 (some .double) ∈ lw_good := lw_mem (mt4 (List.mem_of_getElem? (i := 13) rfl)) rfl
theorem q4_14 : Cond.methodLink RX11 161 yX11_single ∈ lw_good := lw_mem (mt4 (List.mem_of_getElem? (i := 14) rfl)) rfl
theorem q4_16 : Cond.instanceMethod yX11_single ∈ lw_good := lw_mem (mt4 (List.mem_of_getElem? (i := 16) rfl)) rfl
theorem q4_17 : Cond.code yX11_single cX11_single 5 none ∈ lw_good := lw_mem (mt4 (List.mem_of_getElem? (i := 17) rfl)) rfl
theorem q4_18 : Cond.methodLink RX11 94 yX11_gives ∈ lw_good := lw_mem (mt4 (List.mem_of_getElem? (i := 18) rfl)) rfl
theorem q4_20 : Cond.instanceMethod yX11_gives ∈ lw_good := lw_mem (mt4 (List.mem_of_getElem? (i := 20) rfl)) rfl
theorem q4_21 : Cond.code yX11_gives cX11_gives 3 none ∈ lw_good := lw_mem (mt4 (List.mem_of_getElem? (i := 21) rfl)) rfl
theorem q4_22 : Cond.methodLink RX11 67 yX11_hasMinus ∈ lw_good := lw_mem (mt4 (List.mem_of_getElem? (i := 22) rfl)) rfl
theorem q4_23 : Cond.static yX11_hasMinus ∈ lw_good := lw_mem (mt4 (List.mem_of_getElem? (i := 23) rfl)) rfl
theorem q4_24 : Cond.code yX11_hasMinus cX11_hasMinus 2 (some .boolean) ∈ lw_good := lw_mem (mt4 (List.mem_of_getElem? (i := 24) rfl)) rfl
theorem q4_25 : Cond.methodLink RX11 61 yX11_isZero ∈ lw_good := lw_mem (mt4 (List.mem_of_getElem? (i := 25) rfl)) rfl
theorem q4_26 : Cond.static yX11_isZero ∈ lw_good := lw_mem (mt4 (List.mem_of_getElem? (i := 26) rfl)) rfl
theorem q4_27 : Cond.code yX11_isZero cX11_isZero 2 (some .boolean) ∈ lw_good := lw_mem (mt4 (List.mem_of_getElem? (i := 27) rfl)) rfl
theorem q4_28 : Cond.methodLink RX11 98 yX11_whole ∈ lw_good := lw_mem (mt4 (List.mem_of_getElem? (i := 28) rfl)) rfl
theorem q4_29 : Cond.static yX11_whole ∈ lw_good := lw_mem (mt4 (List.mem_of_getElem? (i := 29) rfl)) rfl
theorem q4_30 : Cond.code yX11_whole cX11_whole 8 (some .double) ∈ lw_good := lw_mem (mt4 (List.mem_of_getElem? (i := 30) rfl)) rfl
theorem q4_31 : Cond.constantDouble RX11 70 (4841369599423283200 : UInt64) ∈ lw_good := lw_mem (mt4 (List.mem_of_getElem? (i := 31) rfl)) rfl
theorem q4_32 : Cond.constantDouble RX11 72 (14064741636278059008 : UInt64) ∈ lw_good := lw_mem (mt4 (List.mem_of_getElem? (i := 32) rfl)) rfl
theorem q4_33 : Cond.constantDouble RX11 74 (4602678819172646912 : UInt64) ∈ lw_good := lw_mem (mt4 (List.mem_of_getElem? (i := 33) rfl)) rfl
theorem q4_34 : Cond.constantDouble RX11 76 (13826050856027422720 : UInt64) ∈ lw_good := lw_mem (mt4 (List.mem_of_getElem? (i := 34) rfl)) rfl
theorem q4_35 : Cond.constantLong RX11 78 (-1 : Int64) ∈ lw_good := lw_mem (mt4 (List.mem_of_getElem? (i := 35) rfl)) rfl
theorem q4_36 : Cond.methodLink RX11 80 yX11_zero ∈ lw_good := lw_mem (mt4 (List.mem_of_getElem? (i := 36) rfl)) rfl
theorem q4_37 : Cond.static yX11_zero ∈ lw_good := lw_mem (mt4 (List.mem_of_getElem? (i := 37) rfl)) rfl
theorem q4_38 : Cond.code yX11_zero cX11_zero 1 (some .double) ∈ lw_good := lw_mem (mt4 (List.mem_of_getElem? (i := 38) rfl)) rfl
theorem q4_39 : Cond.constantDouble RX11 102 (13830554455654793216 : UInt64) ∈ lw_good := lw_mem (mt4 (List.mem_of_getElem? (i := 39) rfl)) rfl
theorem q4_40 : Cond.methodLink RX11 104 yX11_quotient ∈ lw_good := lw_mem (mt4 (List.mem_of_getElem? (i := 40) rfl)) rfl
theorem q4_41 : Cond.static yX11_quotient ∈ lw_good := lw_mem (mt4 (List.mem_of_getElem? (i := 41) rfl)) rfl
theorem q4_42 : Cond.code yX11_quotient cX11_quotient 5 (some .double) ∈ lw_good := lw_mem (mt4 (List.mem_of_getElem? (i := 42) rfl)) rfl
theorem q4_43 : Cond.methodLink RX11 108 yX11_product ∈ lw_good := lw_mem (mt4 (List.mem_of_getElem? (i := 43) rfl)) rfl
theorem q4_44 : Cond.static yX11_product ∈ lw_good := lw_mem (mt4 (List.mem_of_getElem? (i := 44) rfl)) rfl
theorem q4_45 : Cond.code yX11_product cX11_product 5 (some .double) ∈ lw_good := lw_mem (mt4 (List.mem_of_getElem? (i := 45) rfl)) rfl
theorem q4_46 : Cond.methodLink RX11 144 yX11_y ∈ lw_good := lw_mem (mt4 (List.mem_of_getElem? (i := 46) rfl)) rfl
theorem q4_48 : Cond.instanceMethod yX11_y ∈ lw_good := lw_mem (mt4 (List.mem_of_getElem? (i := 48) rfl)) rfl
theorem q4_49 : Cond.code yX11_y cX11_y 3 (some .double) ∈ lw_good := lw_mem (mt4 (List.mem_of_getElem? (i := 49) rfl)) rfl
theorem q4_50 : Cond.methodLink RX11 165 yX11_both ∈ lw_good := lw_mem (mt4 (List.mem_of_getElem? (i := 50) rfl)) rfl
theorem q4_52 : Cond.instanceMethod yX11_both ∈ lw_good := lw_mem (mt4 (List.mem_of_getElem? (i := 52) rfl)) rfl
theorem q4_53 : Cond.code yX11_both cX11_both 8 none ∈ lw_good := lw_mem (mt4 (List.mem_of_getElem? (i := 53) rfl)) rfl
theorem q4_54 : Cond.methodLink RX11 111 yX11_isInfinite ∈ lw_good := lw_mem (mt4 (List.mem_of_getElem? (i := 54) rfl)) rfl
theorem q4_55 : Cond.static yX11_isInfinite ∈ lw_good := lw_mem (mt4 (List.mem_of_getElem? (i := 55) rfl)) rfl
theorem q4_56 : Cond.code yX11_isInfinite cX11_isInfinite 2 (some .boolean) ∈ lw_good := lw_mem (mt4 (List.mem_of_getElem? (i := 56) rfl)) rfl
theorem q4_57 : Cond.methodLink RX11 117 yX11_sum ∈ lw_good := lw_mem (mt4 (List.mem_of_getElem? (i := 57) rfl)) rfl
theorem q4_58 : Cond.static yX11_sum ∈ lw_good := lw_mem (mt4 (List.mem_of_getElem? (i := 58) rfl)) rfl
theorem q4_59 : Cond.code yX11_sum cX11_sum 5 (some .double) ∈ lw_good := lw_mem (mt4 (List.mem_of_getElem? (i := 59) rfl)) rfl
theorem q4_60 : Cond.methodLink RX11 120 yX11_difference ∈ lw_good := lw_mem (mt4 (List.mem_of_getElem? (i := 60) rfl)) rfl
theorem q4_62 : Cond.instanceMethod yX11_difference ∈ lw_good := lw_mem (mt4 (List.mem_of_getElem? (i := 62) rfl)) rfl
theorem q4_63 : Cond.code yX11_difference cX11_difference 6 none ∈ lw_good := lw_mem (mt4 (List.mem_of_getElem? (i := 63) rfl)) rfl
theorem q4_64 : Cond.methodLink RX11 124 yX11_isLower ∈ lw_good := lw_mem (mt4 (List.mem_of_getElem? (i := 64) rfl)) rfl
theorem q4_65 : Cond.static yX11_isLower ∈ lw_good := lw_mem (mt4 (List.mem_of_getElem? (i := 65) rfl)) rfl
theorem q4_66 : Cond.code yX11_isLower cX11_isLower 4 (some .boolean) ∈ lw_good := lw_mem (mt4 (List.mem_of_getElem? (i := 66) rfl)) rfl
theorem q4_67 : Cond.methodLink RX11 158 yX11_compares ∈ lw_good := lw_mem (mt4 (List.mem_of_getElem? (i := 67) rfl)) rfl
theorem q4_69 : Cond.instanceMethod yX11_compares ∈ lw_good := lw_mem (mt4 (List.mem_of_getElem? (i := 69) rfl)) rfl
theorem q4_70 : Cond.code yX11_compares cX11_compares 3 (some .boolean) ∈ lw_good := lw_mem (mt4 (List.mem_of_getElem? (i := 70) rfl)) rfl
theorem q4_71 : Cond.methodLink RX11 150 yX11_isSo ∈ lw_good := lw_mem (mt4 (List.mem_of_getElem? (i := 71) rfl)) rfl
theorem q4_72 : Cond.static yX11_isSo ∈ lw_good := lw_mem (mt4 (List.mem_of_getElem? (i := 72) rfl)) rfl
theorem q4_73 : Cond.code yX11_isSo cX11_isSo 9 (some .boolean) ∈ lw_good := lw_mem (mt4 (List.mem_of_getElem? (i := 73) rfl)) rfl
theorem q4_74 : Cond.methodLink RX11 169 yX11_manyX ∈ lw_good := lw_mem (mt4 (List.mem_of_getElem? (i := 74) rfl)) rfl
theorem q4_76 : Cond.instanceMethod yX11_manyX ∈ lw_good := lw_mem (mt4 (List.mem_of_getElem? (i := 76) rfl)) rfl
theorem q4_77 : Cond.code yX11_manyX cX11_manyX 6 (some .int) ∈ lw_good := lw_mem (mt4 (List.mem_of_getElem? (i := 77) rfl)) rfl
theorem q4_78 : Cond.methodLink RX11 173 yX11_ranked ∈ lw_good := lw_mem (mt4 (List.mem_of_getElem? (i := 78) rfl)) rfl
theorem q4_80 : Cond.instanceMethod yX11_ranked ∈ lw_good := lw_mem (mt4 (List.mem_of_getElem? (i := 80) rfl)) rfl
theorem q4_81 : Cond.code yX11_ranked cX11_ranked 6 none ∈ lw_good := lw_mem (mt4 (List.mem_of_getElem? (i := 81) rfl)) rfl
theorem q4_82 : Cond.methodLink RX11 154 yX11_rank ∈ lw_good := lw_mem (mt4 (List.mem_of_getElem? (i := 82) rfl)) rfl
theorem q4_84 : Cond.instanceMethod yX11_rank ∈ lw_good := lw_mem (mt4 (List.mem_of_getElem? (i := 84) rfl)) rfl
theorem q4_85 : Cond.code yX11_rank cX11_rank 11 (some .int) ∈ lw_good := lw_mem (mt4 (List.mem_of_getElem? (i := 85) rfl)) rfl
theorem q4_86 : Cond.methodLink RX11 177 yX11_lessThan ∈ lw_good := lw_mem (mt4 (List.mem_of_getElem? (i := 86) rfl)) rfl
theorem q4_88 : Cond.instanceMethod yX11_lessThan ∈ lw_good := lw_mem (mt4 (List.mem_of_getElem? (i := 88) rfl)) rfl
theorem q4_89 : Cond.code yX11_lessThan cX11_lessThan 5 (some .int) ∈ lw_good := lw_mem (mt4 (List.mem_of_getElem? (i := 89) rfl)) rfl
theorem q4_90 : Cond.methodLink RX11 180 yX11_manySo ∈ lw_good := lw_mem (mt4 (List.mem_of_getElem? (i := 90) rfl)) rfl
theorem q4_92 : Cond.instanceMethod yX11_manySo ∈ lw_good := lw_mem (mt4 (List.mem_of_getElem? (i := 92) rfl)) rfl
theorem q4_93 : Cond.code yX11_manySo cX11_manySo 5 (some .int) ∈ lw_good := lw_mem (mt4 (List.mem_of_getElem? (i := 93) rfl)) rfl
theorem q4_94 : Cond.methodLink RL 46 yX11_width ∈ lw_good := lw_mem (mt4 (List.mem_of_getElem? (i := 94) rfl)) rfl
theorem q4_95 : Cond.instanceMethod yX11_width ∈ lw_good := lw_mem (mt4 (List.mem_of_getElem? (i := 95) rfl)) rfl
theorem q4_96 : Cond.selects RX11 yX11_width yX11_width ∈ lw_good := lw_mem (mt4 (List.mem_of_getElem? (i := 96) rfl)) rfl
theorem q4_97 : Cond.code yX11_width cX11_width 4 (some .int) ∈ lw_good := lw_mem (mt4 (List.mem_of_getElem? (i := 97) rfl)) rfl
theorem q4_98 : Cond.methodLink RL 55 yX11_alarm ∈ lw_good := lw_mem (mt4 (List.mem_of_getElem? (i := 98) rfl)) rfl
theorem q4_99 : Cond.instanceMethod yX11_alarm ∈ lw_good := lw_mem (mt4 (List.mem_of_getElem? (i := 99) rfl)) rfl
theorem q4_100 : Cond.selects RX11 yX11_alarm yX11_alarm ∈ lw_good := lw_mem (mt4 (List.mem_of_getElem? (i := 100) rfl)) rfl
theorem q4_101 : Cond.code yX11_alarm cX11_alarm 4 (some .int) ∈ lw_good := lw_mem (mt4 (List.mem_of_getElem? (i := 101) rfl)) rfl
theorem q4_102 : Cond.methodLink RL 59 yX11_ring ∈ lw_good := lw_mem (mt4 (List.mem_of_getElem? (i := 102) rfl)) rfl
theorem q4_103 : Cond.instanceMethod yX11_ring ∈ lw_good := lw_mem (mt4 (List.mem_of_getElem? (i := 103) rfl)) rfl
theorem q4_104 : Cond.selects RX11 yX11_ring yX11_ring ∈ lw_good := lw_mem (mt4 (List.mem_of_getElem? (i := 104) rfl)) rfl
theorem q4_105 : Cond.code yX11_ring cX11_ring 5 (some .int) ∈ lw_good := lw_mem (mt4 (List.mem_of_getElem? (i := 105) rfl)) rfl
theorem q4_106 : Cond.methodLink RX11 232 yX11_holds ∈ lw_good := lw_mem (mt4 (List.mem_of_getElem? (i := 106) rfl)) rfl
theorem q4_108 : Cond.instanceMethod yX11_holds ∈ lw_good := lw_mem (mt4 (List.mem_of_getElem? (i := 108) rfl)) rfl
theorem q4_109 : Cond.code yX11_holds cX11_holds 5 (some .boolean) ∈ lw_good := lw_mem (mt4 (List.mem_of_getElem? (i := 109) rfl)) rfl
theorem q4_110 : Cond.methodLink RX11 235 yX11_manyBits ∈ lw_good := lw_mem (mt4 (List.mem_of_getElem? (i := 110) rfl)) rfl
theorem q4_111 : Cond.static yX11_manyBits ∈ lw_good := lw_mem (mt4 (List.mem_of_getElem? (i := 111) rfl)) rfl
theorem q4_112 : Cond.code yX11_manyBits cX11_manyBits 3 (some .int) ∈ lw_good := lw_mem (mt4 (List.mem_of_getElem? (i := 112) rfl)) rfl
theorem q4_113 : Cond.methodLink RL 86 yX11_alarmed ∈ lw_good := lw_mem (mt4 (List.mem_of_getElem? (i := 113) rfl)) rfl
theorem q4_114 : Cond.instanceMethod yX11_alarmed ∈ lw_good := lw_mem (mt4 (List.mem_of_getElem? (i := 114) rfl)) rfl
theorem q4_115 : Cond.selects RX11 yX11_alarmed yX11_alarmed ∈ lw_good := lw_mem (mt4 (List.mem_of_getElem? (i := 115) rfl)) rfl
theorem q4_116 : Cond.code yX11_alarmed cX11_alarmed 4 (some .int) ∈ lw_good := lw_mem (mt4 (List.mem_of_getElem? (i := 116) rfl)) rfl
theorem q4_117 : Cond.methodLink RL 64 yX11_reading ∈ lw_good := lw_mem (mt4 (List.mem_of_getElem? (i := 117) rfl)) rfl
theorem q4_118 : Cond.instanceMethod yX11_reading ∈ lw_good := lw_mem (mt4 (List.mem_of_getElem? (i := 118) rfl)) rfl
theorem q4_119 : Cond.selects RX11 yX11_reading yX11_reading ∈ lw_good := lw_mem (mt4 (List.mem_of_getElem? (i := 119) rfl)) rfl
theorem q4_120 : Cond.code yX11_reading cX11_reading 3 (some .double) ∈ lw_good := lw_mem (mt4 (List.mem_of_getElem? (i := 120) rfl)) rfl
theorem q4_121 : Cond.methodLink RX11 242 yX11_isThere ∈ lw_good := lw_mem (mt4 (List.mem_of_getElem? (i := 121) rfl)) rfl
theorem q4_123 : Cond.instanceMethod yX11_isThere ∈ lw_good := lw_mem (mt4 (List.mem_of_getElem? (i := 123) rfl)) rfl
theorem q4_124 : Cond.code yX11_isThere cX11_isThere 3 (some .boolean) ∈ lw_good := lw_mem (mt4 (List.mem_of_getElem? (i := 124) rfl)) rfl
theorem q4_125 : Cond.methodLink RL 69 yX11_isBlank ∈ lw_good := lw_mem (mt4 (List.mem_of_getElem? (i := 125) rfl)) rfl
theorem q4_126 : Cond.instanceMethod yX11_isBlank ∈ lw_good := lw_mem (mt4 (List.mem_of_getElem? (i := 126) rfl)) rfl
theorem q4_127 : Cond.selects RX11 yX11_isBlank yX11_isBlank ∈ lw_good := lw_mem (mt4 (List.mem_of_getElem? (i := 127) rfl)) rfl
theorem q4_128 : Cond.code yX11_isBlank cX11_isBlank 3 (some .boolean) ∈ lw_good := lw_mem (mt4 (List.mem_of_getElem? (i := 128) rfl)) rfl
theorem q4_129 : Cond.methodLink RL 73 yX11_isMinus ∈ lw_good := lw_mem (mt4 (List.mem_of_getElem? (i := 129) rfl)) rfl
theorem q4_130 : Cond.instanceMethod yX11_isMinus ∈ lw_good := lw_mem (mt4 (List.mem_of_getElem? (i := 130) rfl)) rfl
theorem q4_131 : Cond.selects RX11 yX11_isMinus yX11_isMinus ∈ lw_good := lw_mem (mt4 (List.mem_of_getElem? (i := 131) rfl)) rfl
theorem q4_132 : Cond.code yX11_isMinus cX11_isMinus 3 (some .boolean) ∈ lw_good := lw_mem (mt4 (List.mem_of_getElem? (i := 132) rfl)) rfl
theorem q4_133 : Cond.methodLink RL 78 yX11_bits ∈ lw_good := lw_mem (mt4 (List.mem_of_getElem? (i := 133) rfl)) rfl
theorem q4_134 : Cond.instanceMethod yX11_bits ∈ lw_good := lw_mem (mt4 (List.mem_of_getElem? (i := 134) rfl)) rfl
theorem q4_135 : Cond.selects RX11 yX11_bits yX11_bits ∈ lw_good := lw_mem (mt4 (List.mem_of_getElem? (i := 135) rfl)) rfl
theorem q4_136 : Cond.code yX11_bits cX11_bits 9 (some .long) ∈ lw_good := lw_mem (mt4 (List.mem_of_getElem? (i := 136) rfl)) rfl
theorem q4_137 : Cond.methodLink RX11 247 yX11_digits ∈ lw_good := lw_mem (mt4 (List.mem_of_getElem? (i := 137) rfl)) rfl
theorem q4_138 : Cond.static yX11_digits ∈ lw_good := lw_mem (mt4 (List.mem_of_getElem? (i := 138) rfl)) rfl
theorem q4_139 : Cond.code yX11_digits cX11_digits 10 (some .long) ∈ lw_good := lw_mem (mt4 (List.mem_of_getElem? (i := 139) rfl)) rfl
theorem q4_140 : Cond.constantLong RX11 245 (2 : Int64) ∈ lw_good := lw_mem (mt4 (List.mem_of_getElem? (i := 140) rfl)) rfl
theorem q4_141 : Cond.constant RX11 251 (-2147483648 : Int32) ∈ lw_good := lw_mem (mt4 (List.mem_of_getElem? (i := 141) rfl)) rfl
theorem q4_142 : Cond.constantLong RX11 252 (-9223372036854775808 : Int64) ∈ lw_good := lw_mem (mt4 (List.mem_of_getElem? (i := 142) rfl)) rfl
theorem q4_143 : Cond.methodLink RL 82 yX11_compared ∈ lw_good := lw_mem (mt4 (List.mem_of_getElem? (i := 143) rfl)) rfl
theorem q4_144 : Cond.instanceMethod yX11_compared ∈ lw_good := lw_mem (mt4 (List.mem_of_getElem? (i := 144) rfl)) rfl
theorem q4_145 : Cond.selects RX11 yX11_compared yX11_compared ∈ lw_good := lw_mem (mt4 (List.mem_of_getElem? (i := 145) rfl)) rfl
theorem q4_146 : Cond.code yX11_compared cX11_compared 8 (some .int) ∈ lw_good := lw_mem (mt4 (List.mem_of_getElem? (i := 146) rfl)) rfl
theorem q4_147 : Cond.methodLink RL 90 yX11_told ∈ lw_good := lw_mem (mt4 (List.mem_of_getElem? (i := 147) rfl)) rfl
theorem q4_148 : Cond.instanceMethod yX11_told ∈ lw_good := lw_mem (mt4 (List.mem_of_getElem? (i := 148) rfl)) rfl
theorem q4_149 : Cond.selects RX11 yX11_told yX11_told ∈ lw_good := lw_mem (mt4 (List.mem_of_getElem? (i := 149) rfl)) rfl
theorem q4_150 : Cond.code yX11_told cX11_told 5 (some .int) ∈ lw_good := lw_mem (mt4 (List.mem_of_getElem? (i := 150) rfl)) rfl
theorem q4_151 : Cond.methodLink RX11 254 yX11_isBlank ∈ lw_good := lw_mem (mt4 (List.mem_of_getElem? (i := 151) rfl)) rfl
theorem inX0 : ∀ w ∈ u_ws RX0 TX0 6, w ∈ lw_good := by
  intro w hw
  obtain ⟨k, hk, rfl⟩ := List.mem_map.mp hw
  have hk := List.mem_range.mp hk
  rcases (show k = 0 ∨ k = 1 ∨ k = 2 ∨ k = 3 ∨ k = 4 ∨ k = 5 by omega) with rfl | rfl | rfl | rfl | rfl | rfl
  · exact q1_111
  · exact q1_113
  · exact q1_115
  · exact q1_117
  · exact q1_119
  · exact q1_121
theorem inX3 : ∀ w ∈ u_ws RX3 TX3 6, w ∈ lw_good := by
  intro w hw
  obtain ⟨k, hk, rfl⟩ := List.mem_map.mp hw
  have hk := List.mem_range.mp hk
  rcases (show k = 0 ∨ k = 1 ∨ k = 2 ∨ k = 3 ∨ k = 4 ∨ k = 5 by omega) with rfl | rfl | rfl | rfl | rfl | rfl
  · exact q1_82
  · exact q1_84
  · exact q1_86
  · exact q1_88
  · exact q1_90
  · exact q1_92
theorem inX4 : ∀ w ∈ u_ws RX4 TX4 4, w ∈ lw_good := by
  intro w hw
  obtain ⟨k, hk, rfl⟩ := List.mem_map.mp hw
  have hk := List.mem_range.mp hk
  rcases (show k = 0 ∨ k = 1 ∨ k = 2 ∨ k = 3 by omega) with rfl | rfl | rfl | rfl
  · exact q2_64
  · exact q2_65
  · exact q2_60
  · exact q2_62
theorem inX7 : ∀ w ∈ u_ws RX7 TX7 6, w ∈ lw_good := by
  intro w hw
  obtain ⟨k, hk, rfl⟩ := List.mem_map.mp hw
  have hk := List.mem_range.mp hk
  rcases (show k = 0 ∨ k = 1 ∨ k = 2 ∨ k = 3 ∨ k = 4 ∨ k = 5 by omega) with rfl | rfl | rfl | rfl | rfl | rfl
  · exact q1_210
  · exact q1_212
  · exact q1_202
  · exact q1_204
  · exact q1_206
  · exact q1_208
theorem inX8 : ∀ w ∈ u_ws RX8 TX8 2, w ∈ lw_good := by
  intro w hw
  obtain ⟨k, hk, rfl⟩ := List.mem_map.mp hw
  have hk := List.mem_range.mp hk
  rcases (show k = 0 ∨ k = 1 by omega) with rfl | rfl
  · exact q1_33
  · exact q1_35
theorem inX9 : ∀ w ∈ u_ws RX9 TX9 2, w ∈ lw_good := by
  intro w hw
  obtain ⟨k, hk, rfl⟩ := List.mem_map.mp hw
  have hk := List.mem_range.mp hk
  rcases (show k = 0 ∨ k = 1 by omega) with rfl | rfl
  · exact q1_52
  · exact q1_54
theorem inX10 : ∀ w ∈ u_ws RX10 TX10 9, w ∈ lw_good := by
  intro w hw
  obtain ⟨k, hk, rfl⟩ := List.mem_map.mp hw
  have hk := List.mem_range.mp hk
  rcases (show k = 0 ∨ k = 1 ∨ k = 2 ∨ k = 3 ∨ k = 4 ∨ k = 5 ∨ k = 6 ∨ k = 7 ∨ k = 8 by omega) with rfl | rfl | rfl | rfl | rfl | rfl | rfl | rfl | rfl
  · exact q1_133
  · exact q1_135
  · exact q1_137
  · exact q1_139
  · exact q1_141
  · exact q1_143
  · exact q1_145
  · exact q1_147
  · exact q1_149
theorem inX11 : ∀ w ∈ u_ws RX11 TX11 19, w ∈ lw_good := by
  intro w hw
  obtain ⟨k, hk, rfl⟩ := List.mem_map.mp hw
  have hk := List.mem_range.mp hk
  rcases (show k = 0 ∨ k = 1 ∨ k = 2 ∨ k = 3 ∨ k = 4 ∨ k = 5 ∨ k = 6 ∨ k = 7 ∨ k = 8 ∨ k = 9 ∨ k = 10 ∨ k = 11 ∨ k = 12 ∨ k = 13 ∨ k = 14 ∨ k = 15 ∨ k = 16 ∨ k = 17 ∨ k = 18 by omega) with rfl | rfl | rfl | rfl | rfl | rfl | rfl | rfl | rfl | rfl | rfl | rfl | rfl | rfl | rfl | rfl | rfl | rfl | rfl
  · exact q3_122
  · exact q3_124
  · exact q3_126
  · exact q3_128
  · exact q3_130
  · exact q3_132
  · exact q3_134
  · exact q3_136
  · exact q3_138
  · exact q3_140
  · exact q3_142
  · exact q3_144
  · exact q3_146
  · exact q3_148
  · exact q3_150
  · exact q3_152
  · exact q3_154
  · exact q3_156
  · exact q3_158
def lw_ex : List Cond := [Cond.arrayOver (.object RX3), Cond.methodLinkNest RX10 26 yX9_init RX10, Cond.arrayOver (.object RX0), Cond.methodLinkNest RX10 54 yX3_init RX10, Cond.methodLinkNest RX10 55 yX0_init RX10, Cond.methodLinkNest RX4 9 yX3_init RX10, Cond.declares ⟨"TideBook$Change", "takeBack", "()V"⟩]
theorem eq1_24 : Cond.arrayOver (.object RX3) ∈ lw_ex := List.mem_of_getElem? (i := 0) rfl
theorem eq1_42 : Cond.methodLinkNest RX10 26 yX9_init RX10 ∈ lw_ex := List.mem_of_getElem? (i := 1) rfl
theorem eq1_58 : Cond.arrayOver (.object RX0) ∈ lw_ex := List.mem_of_getElem? (i := 2) rfl
theorem eq1_60 : Cond.methodLinkNest RX10 54 yX3_init RX10 ∈ lw_ex := List.mem_of_getElem? (i := 3) rfl
theorem eq1_96 : Cond.methodLinkNest RX10 55 yX0_init RX10 ∈ lw_ex := List.mem_of_getElem? (i := 4) rfl
theorem eq2_48 : Cond.methodLinkNest RX4 9 yX3_init RX10 ∈ lw_ex := List.mem_of_getElem? (i := 5) rfl
theorem eq2_236 : Cond.declares ⟨"TideBook$Change", "takeBack", "()V"⟩ ∈ lw_ex := List.mem_of_getElem? (i := 6) rfl
theorem lw_ex_tbl : ∀ w ∈ lw_ex, w ∈ lw_tbl := by
  intro w hw
  simp only [lw_ex, List.mem_cons, List.not_mem_nil, or_false] at hw
  rcases hw with rfl | rfl | rfl | rfl | rfl | rfl | rfl
  · exact mt1 (List.mem_of_getElem? (i := 24) rfl)
  · exact mt1 (List.mem_of_getElem? (i := 42) rfl)
  · exact mt1 (List.mem_of_getElem? (i := 58) rfl)
  · exact mt1 (List.mem_of_getElem? (i := 60) rfl)
  · exact mt1 (List.mem_of_getElem? (i := 96) rfl)
  · exact mt2 (List.mem_of_getElem? (i := 48) rfl)
  · exact mt2 (List.mem_of_getElem? (i := 236) rfl)
end
section
theorem dX0_init_0 : decode cX0_init 0 = .ok (.aload_n 0, 1) := by decide +kernel
theorem dX0_init_1 : decode cX0_init 1 = .ok (.invokespecial 3, 3) := by decide +kernel
theorem dX0_init_4 : decode cX0_init 4 = .ok (.aload_n 0, 1) := by decide +kernel
theorem dX0_init_5 : decode cX0_init 5 = .ok (.iconst 0, 1) := by decide +kernel
theorem dX0_init_6 : decode cX0_init 6 = .ok (.putfield 9, 3) := by decide +kernel
theorem dX0_init_9 : decode cX0_init 9 = .ok (.aload_n 0, 1) := by decide +kernel
theorem dX0_init_10 : decode cX0_init 10 = .ok (.iconst 0, 1) := by decide +kernel
theorem dX0_init_11 : decode cX0_init 11 = .ok (.putfield 15, 3) := by decide +kernel
theorem dX0_init_14 : decode cX0_init 14 = .ok (.aload_n 0, 1) := by decide +kernel
theorem dX0_init_15 : decode cX0_init 15 = .ok (.iconst 0, 1) := by decide +kernel
theorem dX0_init_16 : decode cX0_init 16 = .ok (.putfield 18, 3) := by decide +kernel
theorem dX0_init_19 : decode cX0_init 19 = .ok (.aload_n 0, 1) := by decide +kernel
theorem dX0_init_20 : decode cX0_init 20 = .ok (.iconst 0, 1) := by decide +kernel
theorem dX0_init_21 : decode cX0_init 21 = .ok (.putfield 21, 3) := by decide +kernel
theorem dX0_init_24 : decode cX0_init 24 = .ok (.aload_n 0, 1) := by decide +kernel
theorem dX0_init_25 : decode cX0_init 25 = .ok (.iconst 0, 1) := by decide +kernel
theorem dX0_init_26 : decode cX0_init 26 = .ok (.putfield 25, 3) := by decide +kernel
theorem dX0_init_29 : decode cX0_init 29 = .ok (.aload_n 0, 1) := by decide +kernel
theorem dX0_init_30 : decode cX0_init 30 = .ok (.iconst 0, 1) := by decide +kernel
theorem dX0_init_31 : decode cX0_init 31 = .ok (.putfield 28, 3) := by decide +kernel
theorem dX0_init_34 : decode cX0_init 34 = .ok (.return_, 1) := by decide +kernel
theorem dX0_look_0 : decode cX0_look 0 = .ok (.aload_n 0, 1) := by decide +kernel
theorem dX0_look_1 : decode cX0_look 1 = .ok (.iload_n 1, 1) := by decide +kernel
theorem dX0_look_2 : decode cX0_look 2 = .ok (.aload_n 0, 1) := by decide +kernel
theorem dX0_look_3 : decode cX0_look 3 = .ok (.getfield 25, 3) := by decide +kernel
theorem dX0_look_6 : decode cX0_look 6 = .ok (.iconst (-1), 1) := by decide +kernel
theorem dX0_look_7 : decode cX0_look 7 = .ok (.ixor, 1) := by decide +kernel
theorem dX0_look_8 : decode cX0_look 8 = .ok (.iand, 1) := by decide +kernel
theorem dX0_look_9 : decode cX0_look 9 = .ok (.putfield 28, 3) := by decide +kernel
theorem dX0_look_12 : decode cX0_look 12 = .ok (.aload_n 0, 1) := by decide +kernel
theorem dX0_look_13 : decode cX0_look 13 = .ok (.iload_n 1, 1) := by decide +kernel
theorem dX0_look_14 : decode cX0_look 14 = .ok (.putfield 25, 3) := by decide +kernel
theorem dX0_look_17 : decode cX0_look 17 = .ok (.aload_n 0, 1) := by decide +kernel
theorem dX0_look_18 : decode cX0_look 18 = .ok (.iconst 1, 1) := by decide +kernel
theorem dX0_look_19 : decode cX0_look 19 = .ok (.putfield 21, 3) := by decide +kernel
theorem dX0_look_22 : decode cX0_look 22 = .ok (.return_, 1) := by decide +kernel
theorem dX0_answer_0 : decode cX0_answer 0 = .ok (.iload_n 1, 1) := by decide +kernel
theorem dX0_answer_1 : decode cX0_answer 1 = .ok (.tableswitch 48 0 2 #[27, 35, 43], 27) := by decide +kernel
theorem dX0_answer_28 : decode cX0_answer 28 = .ok (.aload_n 0, 1) := by decide +kernel
theorem dX0_answer_29 : decode cX0_answer 29 = .ok (.getfield 25, 3) := by decide +kernel
theorem dX0_answer_32 : decode cX0_answer 32 = .ok (.invokestatic 31, 3) := by decide +kernel
theorem dX0_answer_35 : decode cX0_answer 35 = .ok (.ireturn, 1) := by decide +kernel
theorem dX0_answer_36 : decode cX0_answer 36 = .ok (.aload_n 0, 1) := by decide +kernel
theorem dX0_answer_37 : decode cX0_answer 37 = .ok (.getfield 28, 3) := by decide +kernel
theorem dX0_answer_40 : decode cX0_answer 40 = .ok (.invokestatic 31, 3) := by decide +kernel
theorem dX0_answer_43 : decode cX0_answer 43 = .ok (.ireturn, 1) := by decide +kernel
theorem dX0_answer_44 : decode cX0_answer 44 = .ok (.aload_n 0, 1) := by decide +kernel
theorem dX0_answer_45 : decode cX0_answer 45 = .ok (.invokevirtual 37, 3) := by decide +kernel
theorem dX0_answer_48 : decode cX0_answer 48 = .ok (.ireturn, 1) := by decide +kernel
theorem dX0_answer_49 : decode cX0_answer 49 = .ok (.iconst (-1), 1) := by decide +kernel
theorem dX0_answer_50 : decode cX0_answer 50 = .ok (.ireturn, 1) := by decide +kernel
theorem dX0_firstRang_0 : decode cX0_firstRang 0 = .ok (.iconst 0, 1) := by decide +kernel
theorem dX0_firstRang_1 : decode cX0_firstRang 1 = .ok (.istore_n 1, 1) := by decide +kernel
theorem dX0_firstRang_2 : decode cX0_firstRang 2 = .ok (.iload_n 1, 1) := by decide +kernel
theorem dX0_firstRang_3 : decode cX0_firstRang 3 = .ok (.bipush 16, 2) := by decide +kernel
theorem dX0_firstRang_5 : decode cX0_firstRang 5 = .ok (.if_icmp .ge 22, 3) := by decide +kernel
theorem dX0_firstRang_8 : decode cX0_firstRang 8 = .ok (.aload_n 0, 1) := by decide +kernel
theorem dX0_firstRang_9 : decode cX0_firstRang 9 = .ok (.getfield 28, 3) := by decide +kernel
theorem dX0_firstRang_12 : decode cX0_firstRang 12 = .ok (.iload_n 1, 1) := by decide +kernel
theorem dX0_firstRang_13 : decode cX0_firstRang 13 = .ok (.ishr, 1) := by decide +kernel
theorem dX0_firstRang_14 : decode cX0_firstRang 14 = .ok (.iconst 1, 1) := by decide +kernel
theorem dX0_firstRang_15 : decode cX0_firstRang 15 = .ok (.iand, 1) := by decide +kernel
theorem dX0_firstRang_16 : decode cX0_firstRang 16 = .ok (.ifCond .eq 5, 3) := by decide +kernel
theorem dX0_firstRang_19 : decode cX0_firstRang 19 = .ok (.iload_n 1, 1) := by decide +kernel
theorem dX0_firstRang_20 : decode cX0_firstRang 20 = .ok (.ireturn, 1) := by decide +kernel
theorem dX0_firstRang_21 : decode cX0_firstRang 21 = .ok (.iinc 1 1, 3) := by decide +kernel
theorem dX0_firstRang_24 : decode cX0_firstRang 24 = .ok (.goto (-22), 3) := by decide +kernel
theorem dX0_firstRang_27 : decode cX0_firstRang 27 = .ok (.iconst (-1), 1) := by decide +kernel
theorem dX0_firstRang_28 : decode cX0_firstRang 28 = .ok (.ireturn, 1) := by decide +kernel
theorem dX1_of_0 : decode cX1_of 0 = .ok (.iload_n 2, 1) := by decide +kernel
theorem dX1_of_1 : decode cX1_of 1 = .ok (.ifCond .eq 9, 3) := by decide +kernel
theorem dX1_of_4 : decode cX1_of 4 = .ok (.ldc2_w 7, 3) := by decide +kernel
theorem dX1_of_7 : decode cX1_of 7 = .ok (.goto 6, 3) := by decide +kernel
theorem dX1_of_10 : decode cX1_of 10 = .ok (.ldc2_w 9, 3) := by decide +kernel
theorem dX1_of_13 : decode cX1_of 13 = .ok (.lstore_n 3, 1) := by decide +kernel
theorem dX1_of_14 : decode cX1_of 14 = .ok (.dload_n 0, 1) := by decide +kernel
theorem dX1_of_15 : decode cX1_of 15 = .ok (.invokestatic 11, 3) := by decide +kernel
theorem dX1_of_18 : decode cX1_of 18 = .ok (.ifCond .eq 10, 3) := by decide +kernel
theorem dX1_of_21 : decode cX1_of 21 = .ok (.iload_n 2, 1) := by decide +kernel
theorem dX1_of_22 : decode cX1_of 22 = .ok (.invokestatic 17, 3) := by decide +kernel
theorem dX1_of_25 : decode cX1_of 25 = .ok (.goto 12, 3) := by decide +kernel
theorem dX1_of_28 : decode cX1_of 28 = .ok (.dload_n 0, 1) := by decide +kernel
theorem dX1_of_29 : decode cX1_of 29 = .ok (.iconst 0, 1) := by decide +kernel
theorem dX1_of_30 : decode cX1_of 30 = .ok (.invokestatic 23, 3) := by decide +kernel
theorem dX1_of_33 : decode cX1_of 33 = .ok (.iload_n 2, 1) := by decide +kernel
theorem dX1_of_34 : decode cX1_of 34 = .ok (.invokestatic 27, 3) := by decide +kernel
theorem dX1_of_37 : decode cX1_of 37 = .ok (.lstore 5, 2) := by decide +kernel
theorem dX1_of_39 : decode cX1_of 39 = .ok (.dload_n 0, 1) := by decide +kernel
theorem dX1_of_40 : decode cX1_of 40 = .ok (.invokestatic 31, 3) := by decide +kernel
theorem dX1_of_43 : decode cX1_of 43 = .ok (.ifCond .eq 10, 3) := by decide +kernel
theorem dX1_of_46 : decode cX1_of 46 = .ok (.lload 5, 2) := by decide +kernel
theorem dX1_of_48 : decode cX1_of 48 = .ok (.lload_n 3, 1) := by decide +kernel
theorem dX1_of_49 : decode cX1_of 49 = .ok (.lor, 1) := by decide +kernel
theorem dX1_of_50 : decode cX1_of 50 = .ok (.goto 5, 3) := by decide +kernel
theorem dX1_of_53 : decode cX1_of 53 = .ok (.lload 5, 2) := by decide +kernel
theorem dX1_of_55 : decode cX1_of 55 = .ok (.lreturn, 1) := by decide +kernel
theorem dX1_ofInfinite_0 : decode cX1_ofInfinite 0 = .ok (.iload_n 0, 1) := by decide +kernel
theorem dX1_ofInfinite_1 : decode cX1_ofInfinite 1 = .ok (.ifCond .eq 9, 3) := by decide +kernel
theorem dX1_ofInfinite_4 : decode cX1_ofInfinite 4 = .ok (.ldc2_w 34, 3) := by decide +kernel
theorem dX1_ofInfinite_7 : decode cX1_ofInfinite 7 = .ok (.goto 6, 3) := by decide +kernel
theorem dX1_ofInfinite_10 : decode cX1_ofInfinite 10 = .ok (.ldc2_w 36, 3) := by decide +kernel
theorem dX1_ofInfinite_13 : decode cX1_ofInfinite 13 = .ok (.lreturn, 1) := by decide +kernel
theorem dX1_behindSign_0 : decode cX1_behindSign 0 = .ok (.iload_n 2, 1) := by decide +kernel
theorem dX1_behindSign_1 : decode cX1_behindSign 1 = .ok (.ifCond .eq 9, 3) := by decide +kernel
theorem dX1_behindSign_4 : decode cX1_behindSign 4 = .ok (.ldc2_w 38, 3) := by decide +kernel
theorem dX1_behindSign_7 : decode cX1_behindSign 7 = .ok (.goto 6, 3) := by decide +kernel
theorem dX1_behindSign_10 : decode cX1_behindSign 10 = .ok (.ldc2_w 40, 3) := by decide +kernel
theorem dX1_behindSign_13 : decode cX1_behindSign 13 = .ok (.dstore_n 3, 1) := by decide +kernel
theorem dX1_behindSign_14 : decode cX1_behindSign 14 = .ok (.iload_n 2, 1) := by decide +kernel
theorem dX1_behindSign_15 : decode cX1_behindSign 15 = .ok (.ifCond .eq 9, 3) := by decide +kernel
theorem dX1_behindSign_18 : decode cX1_behindSign 18 = .ok (.ldc2_w 42, 3) := by decide +kernel
theorem dX1_behindSign_21 : decode cX1_behindSign 21 = .ok (.goto 6, 3) := by decide +kernel
theorem dX1_behindSign_24 : decode cX1_behindSign 24 = .ok (.ldc2_w 44, 3) := by decide +kernel
theorem dX1_behindSign_27 : decode cX1_behindSign 27 = .ok (.dstore 5, 2) := by decide +kernel
theorem dX1_behindSign_29 : decode cX1_behindSign 29 = .ok (.dload_n 0, 1) := by decide +kernel
theorem dX1_behindSign_30 : decode cX1_behindSign 30 = .ok (.dload_n 3, 1) := by decide +kernel
theorem dX1_behindSign_31 : decode cX1_behindSign 31 = .ok (.dcmp .g, 1) := by decide +kernel
theorem dX1_behindSign_32 : decode cX1_behindSign 32 = .ok (.ifCond .ge 11, 3) := by decide +kernel
theorem dX1_behindSign_35 : decode cX1_behindSign 35 = .ok (.dload_n 0, 1) := by decide +kernel
theorem dX1_behindSign_36 : decode cX1_behindSign 36 = .ok (.dload_n 3, 1) := by decide +kernel
theorem dX1_behindSign_37 : decode cX1_behindSign 37 = .ok (.ddiv, 1) := by decide +kernel
theorem dX1_behindSign_38 : decode cX1_behindSign 38 = .ok (.dload 5, 2) := by decide +kernel
theorem dX1_behindSign_40 : decode cX1_behindSign 40 = .ok (.dmul, 1) := by decide +kernel
theorem dX1_behindSign_41 : decode cX1_behindSign 41 = .ok (.d2l, 1) := by decide +kernel
theorem dX1_behindSign_42 : decode cX1_behindSign 42 = .ok (.lreturn, 1) := by decide +kernel
theorem dX1_behindSign_43 : decode cX1_behindSign 43 = .ok (.dload_n 0, 1) := by decide +kernel
theorem dX1_behindSign_44 : decode cX1_behindSign 44 = .ok (.dstore 7, 2) := by decide +kernel
theorem dX1_behindSign_46 : decode cX1_behindSign 46 = .ok (.iconst 0, 1) := by decide +kernel
theorem dX1_behindSign_47 : decode cX1_behindSign 47 = .ok (.istore 9, 2) := by decide +kernel
theorem dX1_behindSign_49 : decode cX1_behindSign 49 = .ok (.iconst 0, 1) := by decide +kernel
theorem dX1_behindSign_50 : decode cX1_behindSign 50 = .ok (.istore 10, 2) := by decide +kernel
theorem dX1_behindSign_52 : decode cX1_behindSign 52 = .ok (.iload 10, 2) := by decide +kernel
theorem dX1_behindSign_54 : decode cX1_behindSign 54 = .ok (.bipush 32, 2) := by decide +kernel
theorem dX1_behindSign_56 : decode cX1_behindSign 56 = .ok (.if_icmp .ge 29, 3) := by decide +kernel
theorem dX1_behindSign_59 : decode cX1_behindSign 59 = .ok (.dload 7, 2) := by decide +kernel
theorem dX1_behindSign_61 : decode cX1_behindSign 61 = .ok (.ldc2_w 46, 3) := by decide +kernel
theorem dX1_behindSign_64 : decode cX1_behindSign 64 = .ok (.dcmp .l, 1) := by decide +kernel
theorem dX1_behindSign_65 : decode cX1_behindSign 65 = .ok (.ifCond .lt 20, 3) := by decide +kernel
theorem dX1_behindSign_68 : decode cX1_behindSign 68 = .ok (.dload 7, 2) := by decide +kernel
theorem dX1_behindSign_70 : decode cX1_behindSign 70 = .ok (.ldc2_w 48, 3) := by decide +kernel
theorem dX1_behindSign_73 : decode cX1_behindSign 73 = .ok (.dmul, 1) := by decide +kernel
theorem dX1_behindSign_74 : decode cX1_behindSign 74 = .ok (.dstore 7, 2) := by decide +kernel
theorem dX1_behindSign_76 : decode cX1_behindSign 76 = .ok (.iinc 9 32, 3) := by decide +kernel
theorem dX1_behindSign_79 : decode cX1_behindSign 79 = .ok (.iinc 10 1, 3) := by decide +kernel
theorem dX1_behindSign_82 : decode cX1_behindSign 82 = .ok (.goto (-30), 3) := by decide +kernel
theorem dX1_behindSign_85 : decode cX1_behindSign 85 = .ok (.iconst 0, 1) := by decide +kernel
theorem dX1_behindSign_86 : decode cX1_behindSign 86 = .ok (.istore 10, 2) := by decide +kernel
theorem dX1_behindSign_88 : decode cX1_behindSign 88 = .ok (.iload 10, 2) := by decide +kernel
theorem dX1_behindSign_90 : decode cX1_behindSign 90 = .ok (.bipush 32, 2) := by decide +kernel
theorem dX1_behindSign_92 : decode cX1_behindSign 92 = .ok (.if_icmp .ge 27, 3) := by decide +kernel
theorem dX1_behindSign_95 : decode cX1_behindSign 95 = .ok (.dload 7, 2) := by decide +kernel
theorem dX1_behindSign_97 : decode cX1_behindSign 97 = .ok (.dconst 1, 1) := by decide +kernel
theorem dX1_behindSign_98 : decode cX1_behindSign 98 = .ok (.dcmp .g, 1) := by decide +kernel
theorem dX1_behindSign_99 : decode cX1_behindSign 99 = .ok (.ifCond .ge 20, 3) := by decide +kernel
theorem dX1_behindSign_102 : decode cX1_behindSign 102 = .ok (.dload 7, 2) := by decide +kernel
theorem dX1_behindSign_104 : decode cX1_behindSign 104 = .ok (.ldc2_w 46, 3) := by decide +kernel
theorem dX1_behindSign_107 : decode cX1_behindSign 107 = .ok (.dmul, 1) := by decide +kernel
theorem dX1_behindSign_108 : decode cX1_behindSign 108 = .ok (.dstore 7, 2) := by decide +kernel
theorem dX1_behindSign_110 : decode cX1_behindSign 110 = .ok (.iinc 9 (-32), 3) := by decide +kernel
theorem dX1_behindSign_113 : decode cX1_behindSign 113 = .ok (.iinc 10 1, 3) := by decide +kernel
theorem dX1_behindSign_116 : decode cX1_behindSign 116 = .ok (.goto (-28), 3) := by decide +kernel
theorem dX1_behindSign_119 : decode cX1_behindSign 119 = .ok (.iconst 0, 1) := by decide +kernel
theorem dX1_behindSign_120 : decode cX1_behindSign 120 = .ok (.istore 10, 2) := by decide +kernel
theorem dX1_behindSign_122 : decode cX1_behindSign 122 = .ok (.iload 10, 2) := by decide +kernel
theorem dX1_behindSign_124 : decode cX1_behindSign 124 = .ok (.bipush 32, 2) := by decide +kernel
theorem dX1_behindSign_126 : decode cX1_behindSign 126 = .ok (.if_icmp .ge 29, 3) := by decide +kernel
theorem dX1_behindSign_129 : decode cX1_behindSign 129 = .ok (.dload 7, 2) := by decide +kernel
theorem dX1_behindSign_131 : decode cX1_behindSign 131 = .ok (.ldc2_w 50, 3) := by decide +kernel
theorem dX1_behindSign_134 : decode cX1_behindSign 134 = .ok (.dcmp .l, 1) := by decide +kernel
theorem dX1_behindSign_135 : decode cX1_behindSign 135 = .ok (.ifCond .lt 20, 3) := by decide +kernel
theorem dX1_behindSign_138 : decode cX1_behindSign 138 = .ok (.dload 7, 2) := by decide +kernel
theorem dX1_behindSign_140 : decode cX1_behindSign 140 = .ok (.ldc2_w 52, 3) := by decide +kernel
theorem dX1_behindSign_143 : decode cX1_behindSign 143 = .ok (.dmul, 1) := by decide +kernel
theorem dX1_behindSign_144 : decode cX1_behindSign 144 = .ok (.dstore 7, 2) := by decide +kernel
theorem dX1_behindSign_146 : decode cX1_behindSign 146 = .ok (.iinc 9 1, 3) := by decide +kernel
theorem dX1_behindSign_149 : decode cX1_behindSign 149 = .ok (.iinc 10 1, 3) := by decide +kernel
theorem dX1_behindSign_152 : decode cX1_behindSign 152 = .ok (.goto (-30), 3) := by decide +kernel
theorem dX1_behindSign_155 : decode cX1_behindSign 155 = .ok (.iload 9, 2) := by decide +kernel
theorem dX1_behindSign_157 : decode cX1_behindSign 157 = .ok (.iload_n 2, 1) := by decide +kernel
theorem dX1_behindSign_158 : decode cX1_behindSign 158 = .ok (.ifCond .eq 8, 3) := by decide +kernel
theorem dX1_behindSign_161 : decode cX1_behindSign 161 = .ok (.bipush 127, 2) := by decide +kernel
theorem dX1_behindSign_163 : decode cX1_behindSign 163 = .ok (.goto 6, 3) := by decide +kernel
theorem dX1_behindSign_166 : decode cX1_behindSign 166 = .ok (.sipush 1023, 3) := by decide +kernel
theorem dX1_behindSign_169 : decode cX1_behindSign 169 = .ok (.iadd, 1) := by decide +kernel
theorem dX1_behindSign_170 : decode cX1_behindSign 170 = .ok (.i2l, 1) := by decide +kernel
theorem dX1_behindSign_171 : decode cX1_behindSign 171 = .ok (.lstore 10, 2) := by decide +kernel
theorem dX1_behindSign_173 : decode cX1_behindSign 173 = .ok (.dload 7, 2) := by decide +kernel
theorem dX1_behindSign_175 : decode cX1_behindSign 175 = .ok (.dconst 1, 1) := by decide +kernel
theorem dX1_behindSign_176 : decode cX1_behindSign 176 = .ok (.dsub, 1) := by decide +kernel
theorem dX1_behindSign_177 : decode cX1_behindSign 177 = .ok (.dload 5, 2) := by decide +kernel
theorem dX1_behindSign_179 : decode cX1_behindSign 179 = .ok (.dmul, 1) := by decide +kernel
theorem dX1_behindSign_180 : decode cX1_behindSign 180 = .ok (.d2l, 1) := by decide +kernel
theorem dX1_behindSign_181 : decode cX1_behindSign 181 = .ok (.lstore 12, 2) := by decide +kernel
theorem dX1_behindSign_183 : decode cX1_behindSign 183 = .ok (.lload 10, 2) := by decide +kernel
theorem dX1_behindSign_185 : decode cX1_behindSign 185 = .ok (.iload_n 2, 1) := by decide +kernel
theorem dX1_behindSign_186 : decode cX1_behindSign 186 = .ok (.ifCond .eq 8, 3) := by decide +kernel
theorem dX1_behindSign_189 : decode cX1_behindSign 189 = .ok (.bipush 23, 2) := by decide +kernel
theorem dX1_behindSign_191 : decode cX1_behindSign 191 = .ok (.goto 5, 3) := by decide +kernel
theorem dX1_behindSign_194 : decode cX1_behindSign 194 = .ok (.bipush 52, 2) := by decide +kernel
theorem dX1_behindSign_196 : decode cX1_behindSign 196 = .ok (.lshl, 1) := by decide +kernel
theorem dX1_behindSign_197 : decode cX1_behindSign 197 = .ok (.lload 12, 2) := by decide +kernel
theorem dX1_behindSign_199 : decode cX1_behindSign 199 = .ok (.ladd, 1) := by decide +kernel
theorem dX1_behindSign_200 : decode cX1_behindSign 200 = .ok (.lreturn, 1) := by decide +kernel
theorem dX1_wideDigits_0 : decode cX1_wideDigits 0 = .ok (.lload_n 0, 1) := by decide +kernel
theorem dX1_wideDigits_1 : decode cX1_wideDigits 1 = .ok (.ldc2_w 54, 3) := by decide +kernel
theorem dX1_wideDigits_4 : decode cX1_wideDigits 4 = .ok (.land, 1) := by decide +kernel
theorem dX1_wideDigits_5 : decode cX1_wideDigits 5 = .ok (.lstore_n 2, 1) := by decide +kernel
theorem dX1_wideDigits_6 : decode cX1_wideDigits 6 = .ok (.lload_n 0, 1) := by decide +kernel
theorem dX1_wideDigits_7 : decode cX1_wideDigits 7 = .ok (.lload_n 2, 1) := by decide +kernel
theorem dX1_wideDigits_8 : decode cX1_wideDigits 8 = .ok (.lcmp, 1) := by decide +kernel
theorem dX1_wideDigits_9 : decode cX1_wideDigits 9 = .ok (.ifCond .ne 7, 3) := by decide +kernel
theorem dX1_wideDigits_12 : decode cX1_wideDigits 12 = .ok (.lload_n 2, 1) := by decide +kernel
theorem dX1_wideDigits_13 : decode cX1_wideDigits 13 = .ok (.goto 8, 3) := by decide +kernel
theorem dX1_wideDigits_16 : decode cX1_wideDigits 16 = .ok (.lload_n 2, 1) := by decide +kernel
theorem dX1_wideDigits_17 : decode cX1_wideDigits 17 = .ok (.ldc2_w 56, 3) := by decide +kernel
theorem dX1_wideDigits_20 : decode cX1_wideDigits 20 = .ok (.ladd, 1) := by decide +kernel
theorem dX1_wideDigits_21 : decode cX1_wideDigits 21 = .ok (.lreturn, 1) := by decide +kernel
theorem dX1_widePower_0 : decode cX1_widePower 0 = .ok (.lload_n 0, 1) := by decide +kernel
theorem dX1_widePower_1 : decode cX1_widePower 1 = .ok (.bipush 52, 2) := by decide +kernel
theorem dX1_widePower_3 : decode cX1_widePower 3 = .ok (.lshr, 1) := by decide +kernel
theorem dX1_widePower_4 : decode cX1_widePower 4 = .ok (.l2i, 1) := by decide +kernel
theorem dX1_widePower_5 : decode cX1_widePower 5 = .ok (.istore_n 2, 1) := by decide +kernel
theorem dX1_widePower_6 : decode cX1_widePower 6 = .ok (.iload_n 2, 1) := by decide +kernel
theorem dX1_widePower_7 : decode cX1_widePower 7 = .ok (.ifCond .ne 7, 3) := by decide +kernel
theorem dX1_widePower_10 : decode cX1_widePower 10 = .ok (.iconst 1, 1) := by decide +kernel
theorem dX1_widePower_11 : decode cX1_widePower 11 = .ok (.goto 4, 3) := by decide +kernel
theorem dX1_widePower_14 : decode cX1_widePower 14 = .ok (.iload_n 2, 1) := by decide +kernel
theorem dX1_widePower_15 : decode cX1_widePower 15 = .ok (.sipush 1023, 3) := by decide +kernel
theorem dX1_widePower_18 : decode cX1_widePower 18 = .ok (.isub, 1) := by decide +kernel
theorem dX1_widePower_19 : decode cX1_widePower 19 = .ok (.bipush 52, 2) := by decide +kernel
theorem dX1_widePower_21 : decode cX1_widePower 21 = .ok (.isub, 1) := by decide +kernel
theorem dX1_widePower_22 : decode cX1_widePower 22 = .ok (.ireturn, 1) := by decide +kernel
theorem dX2_init_0 : decode cX2_init 0 = .ok (.aload_n 0, 1) := by decide +kernel
theorem dX2_init_1 : decode cX2_init 1 = .ok (.invokespecial 1, 3) := by decide +kernel
theorem dX2_init_4 : decode cX2_init 4 = .ok (.aload_n 0, 1) := by decide +kernel
theorem dX2_init_5 : decode cX2_init 5 = .ok (.aload_n 1, 1) := by decide +kernel
theorem dX2_init_6 : decode cX2_init 6 = .ok (.putfield 7, 3) := by decide +kernel
theorem dX2_init_9 : decode cX2_init 9 = .ok (.aload_n 0, 1) := by decide +kernel
theorem dX2_init_10 : decode cX2_init 10 = .ok (.iload_n 2, 1) := by decide +kernel
theorem dX2_init_11 : decode cX2_init 11 = .ok (.putfield 13, 3) := by decide +kernel
theorem dX2_init_14 : decode cX2_init 14 = .ok (.return_, 1) := by decide +kernel
theorem dX3_init_0 : decode cX3_init 0 = .ok (.aload_n 0, 1) := by decide +kernel
theorem dX3_init_1 : decode cX3_init 1 = .ok (.invokespecial 3, 3) := by decide +kernel
theorem dX3_init_4 : decode cX3_init 4 = .ok (.aload_n 0, 1) := by decide +kernel
theorem dX3_init_5 : decode cX3_init 5 = .ok (.new 9, 3) := by decide +kernel
theorem dX3_init_8 : decode cX3_init 8 = .ok (.dup, 1) := by decide +kernel
theorem dX3_init_9 : decode cX3_init 9 = .ok (.bipush 16, 2) := by decide +kernel
theorem dX3_init_11 : decode cX3_init 11 = .ok (.invokespecial 11, 3) := by decide +kernel
theorem dX3_init_14 : decode cX3_init 14 = .ok (.putfield 14, 3) := by decide +kernel
theorem dX3_init_17 : decode cX3_init 17 = .ok (.aload_n 0, 1) := by decide +kernel
theorem dX3_init_18 : decode cX3_init 18 = .ok (.iconst 0, 1) := by decide +kernel
theorem dX3_init_19 : decode cX3_init 19 = .ok (.putfield 20, 3) := by decide +kernel
theorem dX3_init_22 : decode cX3_init 22 = .ok (.aload_n 0, 1) := by decide +kernel
theorem dX3_init_23 : decode cX3_init 23 = .ok (.iconst (-1), 1) := by decide +kernel
theorem dX3_init_24 : decode cX3_init 24 = .ok (.putfield 24, 3) := by decide +kernel
theorem dX3_init_27 : decode cX3_init 27 = .ok (.aload_n 0, 1) := by decide +kernel
theorem dX3_init_28 : decode cX3_init 28 = .ok (.iconst 0, 1) := by decide +kernel
theorem dX3_init_29 : decode cX3_init 29 = .ok (.putfield 28, 3) := by decide +kernel
theorem dX3_init_32 : decode cX3_init 32 = .ok (.aload_n 0, 1) := by decide +kernel
theorem dX3_init_33 : decode cX3_init 33 = .ok (.iconst 0, 1) := by decide +kernel
theorem dX3_init_34 : decode cX3_init 34 = .ok (.putfield 31, 3) := by decide +kernel
theorem dX3_init_37 : decode cX3_init 37 = .ok (.aload_n 0, 1) := by decide +kernel
theorem dX3_init_38 : decode cX3_init 38 = .ok (.iconst 0, 1) := by decide +kernel
theorem dX3_init_39 : decode cX3_init 39 = .ok (.putfield 34, 3) := by decide +kernel
theorem dX3_init_42 : decode cX3_init 42 = .ok (.return_, 1) := by decide +kernel
theorem dX3_hasFormula_0 : decode cX3_hasFormula 0 = .ok (.aload_n 0, 1) := by decide +kernel
theorem dX3_hasFormula_1 : decode cX3_hasFormula 1 = .ok (.getfield 24, 3) := by decide +kernel
theorem dX3_hasFormula_4 : decode cX3_hasFormula 4 = .ok (.iconst (-1), 1) := by decide +kernel
theorem dX3_hasFormula_5 : decode cX3_hasFormula 5 = .ok (.if_icmp .eq 7, 3) := by decide +kernel
theorem dX3_hasFormula_8 : decode cX3_hasFormula 8 = .ok (.iconst 1, 1) := by decide +kernel
theorem dX3_hasFormula_9 : decode cX3_hasFormula 9 = .ok (.goto 4, 3) := by decide +kernel
theorem dX3_hasFormula_12 : decode cX3_hasFormula 12 = .ok (.iconst 0, 1) := by decide +kernel
theorem dX3_hasFormula_13 : decode cX3_hasFormula 13 = .ok (.ireturn, 1) := by decide +kernel
theorem dX3_become_0 : decode cX3_become 0 = .ok (.aload_n 0, 1) := by decide +kernel
theorem dX3_become_1 : decode cX3_become 1 = .ok (.aload_n 1, 1) := by decide +kernel
theorem dX3_become_2 : decode cX3_become 2 = .ok (.getfield 20, 3) := by decide +kernel
theorem dX3_become_5 : decode cX3_become 5 = .ok (.putfield 20, 3) := by decide +kernel
theorem dX3_become_8 : decode cX3_become 8 = .ok (.aload_n 0, 1) := by decide +kernel
theorem dX3_become_9 : decode cX3_become 9 = .ok (.aload_n 1, 1) := by decide +kernel
theorem dX3_become_10 : decode cX3_become 10 = .ok (.getfield 24, 3) := by decide +kernel
theorem dX3_become_13 : decode cX3_become 13 = .ok (.putfield 24, 3) := by decide +kernel
theorem dX3_become_16 : decode cX3_become 16 = .ok (.aload_n 0, 1) := by decide +kernel
theorem dX3_become_17 : decode cX3_become 17 = .ok (.aload_n 1, 1) := by decide +kernel
theorem dX3_become_18 : decode cX3_become 18 = .ok (.getfield 28, 3) := by decide +kernel
theorem dX3_become_21 : decode cX3_become 21 = .ok (.putfield 28, 3) := by decide +kernel
theorem dX3_become_24 : decode cX3_become 24 = .ok (.aload_n 0, 1) := by decide +kernel
theorem dX3_become_25 : decode cX3_become 25 = .ok (.aload_n 1, 1) := by decide +kernel
theorem dX3_become_26 : decode cX3_become 26 = .ok (.getfield 31, 3) := by decide +kernel
theorem dX3_become_29 : decode cX3_become 29 = .ok (.putfield 31, 3) := by decide +kernel
theorem dX3_become_32 : decode cX3_become 32 = .ok (.aload_n 0, 1) := by decide +kernel
theorem dX3_become_33 : decode cX3_become 33 = .ok (.aload_n 1, 1) := by decide +kernel
theorem dX3_become_34 : decode cX3_become 34 = .ok (.getfield 34, 3) := by decide +kernel
theorem dX3_become_37 : decode cX3_become 37 = .ok (.putfield 34, 3) := by decide +kernel
theorem dX3_become_40 : decode cX3_become 40 = .ok (.iconst 0, 1) := by decide +kernel
theorem dX3_become_41 : decode cX3_become 41 = .ok (.istore_n 2, 1) := by decide +kernel
theorem dX3_become_42 : decode cX3_become 42 = .ok (.iload_n 2, 1) := by decide +kernel
theorem dX3_become_43 : decode cX3_become 43 = .ok (.bipush 16, 2) := by decide +kernel
theorem dX3_become_45 : decode cX3_become 45 = .ok (.if_icmp .ge 23, 3) := by decide +kernel
theorem dX3_become_48 : decode cX3_become 48 = .ok (.aload_n 0, 1) := by decide +kernel
theorem dX3_become_49 : decode cX3_become 49 = .ok (.getfield 14, 3) := by decide +kernel
theorem dX3_become_52 : decode cX3_become 52 = .ok (.iload_n 2, 1) := by decide +kernel
theorem dX3_become_53 : decode cX3_become 53 = .ok (.aload_n 1, 1) := by decide +kernel
theorem dX3_become_54 : decode cX3_become 54 = .ok (.getfield 14, 3) := by decide +kernel
theorem dX3_become_57 : decode cX3_become 57 = .ok (.iload_n 2, 1) := by decide +kernel
theorem dX3_become_58 : decode cX3_become 58 = .ok (.iconst 0, 1) := by decide +kernel
theorem dX3_become_59 : decode cX3_become 59 = .ok (.invokevirtual 37, 3) := by decide +kernel
theorem dX3_become_62 : decode cX3_become 62 = .ok (.iinc 2 1, 3) := by decide +kernel
theorem dX3_become_65 : decode cX3_become 65 = .ok (.goto (-23), 3) := by decide +kernel
theorem dX3_become_68 : decode cX3_become 68 = .ok (.return_, 1) := by decide +kernel
theorem dX3_answer_0 : decode cX3_answer 0 = .ok (.iload_n 1, 1) := by decide +kernel
theorem dX3_answer_1 : decode cX3_answer 1 = .ok (.tableswitch 70 0 3 #[31, 44, 57, 65], 31) := by decide +kernel
theorem dX3_answer_32 : decode cX3_answer 32 = .ok (.aload_n 0, 1) := by decide +kernel
theorem dX3_answer_33 : decode cX3_answer 33 = .ok (.invokevirtual 41, 3) := by decide +kernel
theorem dX3_answer_36 : decode cX3_answer 36 = .ok (.ifCond .eq 7, 3) := by decide +kernel
theorem dX3_answer_39 : decode cX3_answer 39 = .ok (.iconst 1, 1) := by decide +kernel
theorem dX3_answer_40 : decode cX3_answer 40 = .ok (.goto 4, 3) := by decide +kernel
theorem dX3_answer_43 : decode cX3_answer 43 = .ok (.iconst 0, 1) := by decide +kernel
theorem dX3_answer_44 : decode cX3_answer 44 = .ok (.ireturn, 1) := by decide +kernel
theorem dX3_answer_45 : decode cX3_answer 45 = .ok (.aload_n 0, 1) := by decide +kernel
theorem dX3_answer_46 : decode cX3_answer 46 = .ok (.getfield 20, 3) := by decide +kernel
theorem dX3_answer_49 : decode cX3_answer 49 = .ok (.ifCond .eq 7, 3) := by decide +kernel
theorem dX3_answer_52 : decode cX3_answer 52 = .ok (.iconst 1, 1) := by decide +kernel
theorem dX3_answer_53 : decode cX3_answer 53 = .ok (.goto 4, 3) := by decide +kernel
theorem dX3_answer_56 : decode cX3_answer 56 = .ok (.iconst 0, 1) := by decide +kernel
theorem dX3_answer_57 : decode cX3_answer 57 = .ok (.ireturn, 1) := by decide +kernel
theorem dX3_answer_58 : decode cX3_answer 58 = .ok (.aload_n 0, 1) := by decide +kernel
theorem dX3_answer_59 : decode cX3_answer 59 = .ok (.getfield 14, 3) := by decide +kernel
theorem dX3_answer_62 : decode cX3_answer 62 = .ok (.invokevirtual 45, 3) := by decide +kernel
theorem dX3_answer_65 : decode cX3_answer 65 = .ok (.ireturn, 1) := by decide +kernel
theorem dX3_answer_66 : decode cX3_answer 66 = .ok (.aload_n 0, 1) := by decide +kernel
theorem dX3_answer_67 : decode cX3_answer 67 = .ok (.getfield 24, 3) := by decide +kernel
theorem dX3_answer_70 : decode cX3_answer 70 = .ok (.ireturn, 1) := by decide +kernel
theorem dX3_answer_71 : decode cX3_answer 71 = .ok (.iconst (-1), 1) := by decide +kernel
theorem dX3_answer_72 : decode cX3_answer 72 = .ok (.ireturn, 1) := by decide +kernel
theorem dX4_init_0 : decode cX4_init 0 = .ok (.aload_n 0, 1) := by decide +kernel
theorem dX4_init_1 : decode cX4_init 1 = .ok (.aload_n 1, 1) := by decide +kernel
theorem dX4_init_2 : decode cX4_init 2 = .ok (.iload_n 2, 1) := by decide +kernel
theorem dX4_init_3 : decode cX4_init 3 = .ok (.invokespecial 1, 3) := by decide +kernel
theorem dX4_init_6 : decode cX4_init 6 = .ok (.aload_n 0, 1) := by decide +kernel
theorem dX4_init_7 : decode cX4_init 7 = .ok (.new 7, 3) := by decide +kernel
theorem dX4_init_10 : decode cX4_init 10 = .ok (.dup, 1) := by decide +kernel
theorem dX4_init_11 : decode cX4_init 11 = .ok (.invokespecial 9, 3) := by decide +kernel
theorem dX4_init_14 : decode cX4_init 14 = .ok (.putfield 12, 3) := by decide +kernel
theorem dX4_init_17 : decode cX4_init 17 = .ok (.aload_n 0, 1) := by decide +kernel
theorem dX4_init_18 : decode cX4_init 18 = .ok (.aload_n 3, 1) := by decide +kernel
theorem dX4_init_19 : decode cX4_init 19 = .ok (.putfield 18, 3) := by decide +kernel
theorem dX4_init_22 : decode cX4_init 22 = .ok (.aload_n 0, 1) := by decide +kernel
theorem dX4_init_23 : decode cX4_init 23 = .ok (.getfield 12, 3) := by decide +kernel
theorem dX4_init_26 : decode cX4_init 26 = .ok (.aload_n 3, 1) := by decide +kernel
theorem dX4_init_27 : decode cX4_init 27 = .ok (.invokevirtual 21, 3) := by decide +kernel
theorem dX4_init_30 : decode cX4_init 30 = .ok (.return_, 1) := by decide +kernel
theorem dX4_takeBack_0 : decode cX4_takeBack 0 = .ok (.aload_n 0, 1) := by decide +kernel
theorem dX4_takeBack_1 : decode cX4_takeBack 1 = .ok (.getfield 18, 3) := by decide +kernel
theorem dX4_takeBack_4 : decode cX4_takeBack 4 = .ok (.aload_n 0, 1) := by decide +kernel
theorem dX4_takeBack_5 : decode cX4_takeBack 5 = .ok (.getfield 12, 3) := by decide +kernel
theorem dX4_takeBack_8 : decode cX4_takeBack 8 = .ok (.invokevirtual 21, 3) := by decide +kernel
theorem dX4_takeBack_11 : decode cX4_takeBack 11 = .ok (.return_, 1) := by decide +kernel
theorem dX5_isSo_0 : decode cX5_isSo 0 = .ok (.iload_n 0, 1) := by decide +kernel
theorem dX5_isSo_1 : decode cX5_isSo 1 = .ok (.bipush 6, 2) := by decide +kernel
theorem dX5_isSo_3 : decode cX5_isSo 3 = .ok (.if_icmp .lt 7, 3) := by decide +kernel
theorem dX5_isSo_6 : decode cX5_isSo 6 = .ok (.iconst 1, 1) := by decide +kernel
theorem dX5_isSo_7 : decode cX5_isSo 7 = .ok (.goto 4, 3) := by decide +kernel
theorem dX5_isSo_10 : decode cX5_isSo 10 = .ok (.iconst 0, 1) := by decide +kernel
theorem dX5_isSo_11 : decode cX5_isSo 11 = .ok (.istore 5, 2) := by decide +kernel
theorem dX5_isSo_13 : decode cX5_isSo 13 = .ok (.iload 5, 2) := by decide +kernel
theorem dX5_isSo_15 : decode cX5_isSo 15 = .ok (.ifCond .eq 10, 3) := by decide +kernel
theorem dX5_isSo_18 : decode cX5_isSo 18 = .ok (.iload_n 0, 1) := by decide +kernel
theorem dX5_isSo_19 : decode cX5_isSo 19 = .ok (.bipush 6, 2) := by decide +kernel
theorem dX5_isSo_21 : decode cX5_isSo 21 = .ok (.isub, 1) := by decide +kernel
theorem dX5_isSo_22 : decode cX5_isSo 22 = .ok (.goto 4, 3) := by decide +kernel
theorem dX5_isSo_25 : decode cX5_isSo 25 = .ok (.iload_n 0, 1) := by decide +kernel
theorem dX5_isSo_26 : decode cX5_isSo 26 = .ok (.istore 6, 2) := by decide +kernel
theorem dX5_isSo_28 : decode cX5_isSo 28 = .ok (.aload_n 1, 1) := by decide +kernel
theorem dX5_isSo_29 : decode cX5_isSo 29 = .ok (.iload_n 2, 1) := by decide +kernel
theorem dX5_isSo_30 : decode cX5_isSo 30 = .ok (.invokevirtual 9, 3) := by decide +kernel
theorem dX5_isSo_33 : decode cX5_isSo 33 = .ok (.ifCond .ne 12, 3) := by decide +kernel
theorem dX5_isSo_36 : decode cX5_isSo 36 = .ok (.aload_n 3, 1) := by decide +kernel
theorem dX5_isSo_37 : decode cX5_isSo 37 = .ok (.iload 4, 2) := by decide +kernel
theorem dX5_isSo_39 : decode cX5_isSo 39 = .ok (.invokevirtual 9, 3) := by decide +kernel
theorem dX5_isSo_42 : decode cX5_isSo 42 = .ok (.ifCond .eq 7, 3) := by decide +kernel
theorem dX5_isSo_45 : decode cX5_isSo 45 = .ok (.iconst 1, 1) := by decide +kernel
theorem dX5_isSo_46 : decode cX5_isSo 46 = .ok (.goto 4, 3) := by decide +kernel
theorem dX5_isSo_49 : decode cX5_isSo 49 = .ok (.iconst 0, 1) := by decide +kernel
theorem dX5_isSo_50 : decode cX5_isSo 50 = .ok (.istore 7, 2) := by decide +kernel
theorem dX5_isSo_52 : decode cX5_isSo 52 = .ok (.iload 7, 2) := by decide +kernel
theorem dX5_isSo_54 : decode cX5_isSo 54 = .ok (.ifCond .eq 17, 3) := by decide +kernel
theorem dX5_isSo_57 : decode cX5_isSo 57 = .ok (.iload 6, 2) := by decide +kernel
theorem dX5_isSo_59 : decode cX5_isSo 59 = .ok (.iconst 5, 1) := by decide +kernel
theorem dX5_isSo_60 : decode cX5_isSo 60 = .ok (.if_icmp .ne 7, 3) := by decide +kernel
theorem dX5_isSo_63 : decode cX5_isSo 63 = .ok (.iconst 1, 1) := by decide +kernel
theorem dX5_isSo_64 : decode cX5_isSo 64 = .ok (.goto 23, 3) := by decide +kernel
theorem dX5_isSo_67 : decode cX5_isSo 67 = .ok (.iconst 0, 1) := by decide +kernel
theorem dX5_isSo_68 : decode cX5_isSo 68 = .ok (.goto 19, 3) := by decide +kernel
theorem dX5_isSo_71 : decode cX5_isSo 71 = .ok (.iload 6, 2) := by decide +kernel
theorem dX5_isSo_73 : decode cX5_isSo 73 = .ok (.aload_n 1, 1) := by decide +kernel
theorem dX5_isSo_74 : decode cX5_isSo 74 = .ok (.iload_n 2, 1) := by decide +kernel
theorem dX5_isSo_75 : decode cX5_isSo 75 = .ok (.invokevirtual 15, 3) := by decide +kernel
theorem dX5_isSo_78 : decode cX5_isSo 78 = .ok (.aload_n 3, 1) := by decide +kernel
theorem dX5_isSo_79 : decode cX5_isSo 79 = .ok (.iload 4, 2) := by decide +kernel
theorem dX5_isSo_81 : decode cX5_isSo 81 = .ok (.invokevirtual 15, 3) := by decide +kernel
theorem dX5_isSo_84 : decode cX5_isSo 84 = .ok (.invokestatic 19, 3) := by decide +kernel
theorem dX5_isSo_87 : decode cX5_isSo 87 = .ok (.istore 8, 2) := by decide +kernel
theorem dX5_isSo_89 : decode cX5_isSo 89 = .ok (.iload 8, 2) := by decide +kernel
theorem dX5_isSo_91 : decode cX5_isSo 91 = .ok (.iload 5, 2) := by decide +kernel
theorem dX5_isSo_93 : decode cX5_isSo 93 = .ok (.if_icmp .eq 7, 3) := by decide +kernel
theorem dX5_isSo_96 : decode cX5_isSo 96 = .ok (.iconst 1, 1) := by decide +kernel
theorem dX5_isSo_97 : decode cX5_isSo 97 = .ok (.goto 4, 3) := by decide +kernel
theorem dX5_isSo_100 : decode cX5_isSo 100 = .ok (.iconst 0, 1) := by decide +kernel
theorem dX5_isSo_101 : decode cX5_isSo 101 = .ok (.ireturn, 1) := by decide +kernel
theorem dX5_isSoOf_0 : decode cX5_isSoOf 0 = .ok (.iload_n 0, 1) := by decide +kernel
theorem dX5_isSoOf_1 : decode cX5_isSoOf 1 = .ok (.tableswitch 95 0 4 #[35, 47, 59, 71, 83], 35) := by decide +kernel
theorem dX5_isSoOf_36 : decode cX5_isSoOf 36 = .ok (.dload_n 1, 1) := by decide +kernel
theorem dX5_isSoOf_37 : decode cX5_isSoOf 37 = .ok (.dload_n 3, 1) := by decide +kernel
theorem dX5_isSoOf_38 : decode cX5_isSoOf 38 = .ok (.dcmp .g, 1) := by decide +kernel
theorem dX5_isSoOf_39 : decode cX5_isSoOf 39 = .ok (.ifCond .ge 7, 3) := by decide +kernel
theorem dX5_isSoOf_42 : decode cX5_isSoOf 42 = .ok (.iconst 1, 1) := by decide +kernel
theorem dX5_isSoOf_43 : decode cX5_isSoOf 43 = .ok (.goto 4, 3) := by decide +kernel
theorem dX5_isSoOf_46 : decode cX5_isSoOf 46 = .ok (.iconst 0, 1) := by decide +kernel
theorem dX5_isSoOf_47 : decode cX5_isSoOf 47 = .ok (.ireturn, 1) := by decide +kernel
theorem dX5_isSoOf_48 : decode cX5_isSoOf 48 = .ok (.dload_n 1, 1) := by decide +kernel
theorem dX5_isSoOf_49 : decode cX5_isSoOf 49 = .ok (.dload_n 3, 1) := by decide +kernel
theorem dX5_isSoOf_50 : decode cX5_isSoOf 50 = .ok (.dcmp .g, 1) := by decide +kernel
theorem dX5_isSoOf_51 : decode cX5_isSoOf 51 = .ok (.ifCond .gt 7, 3) := by decide +kernel
theorem dX5_isSoOf_54 : decode cX5_isSoOf 54 = .ok (.iconst 1, 1) := by decide +kernel
theorem dX5_isSoOf_55 : decode cX5_isSoOf 55 = .ok (.goto 4, 3) := by decide +kernel
theorem dX5_isSoOf_58 : decode cX5_isSoOf 58 = .ok (.iconst 0, 1) := by decide +kernel
theorem dX5_isSoOf_59 : decode cX5_isSoOf 59 = .ok (.ireturn, 1) := by decide +kernel
theorem dX5_isSoOf_60 : decode cX5_isSoOf 60 = .ok (.dload_n 1, 1) := by decide +kernel
theorem dX5_isSoOf_61 : decode cX5_isSoOf 61 = .ok (.dload_n 3, 1) := by decide +kernel
theorem dX5_isSoOf_62 : decode cX5_isSoOf 62 = .ok (.dcmp .l, 1) := by decide +kernel
theorem dX5_isSoOf_63 : decode cX5_isSoOf 63 = .ok (.ifCond .le 7, 3) := by decide +kernel
theorem dX5_isSoOf_66 : decode cX5_isSoOf 66 = .ok (.iconst 1, 1) := by decide +kernel
theorem dX5_isSoOf_67 : decode cX5_isSoOf 67 = .ok (.goto 4, 3) := by decide +kernel
theorem dX5_isSoOf_70 : decode cX5_isSoOf 70 = .ok (.iconst 0, 1) := by decide +kernel
theorem dX5_isSoOf_71 : decode cX5_isSoOf 71 = .ok (.ireturn, 1) := by decide +kernel
theorem dX5_isSoOf_72 : decode cX5_isSoOf 72 = .ok (.dload_n 1, 1) := by decide +kernel
theorem dX5_isSoOf_73 : decode cX5_isSoOf 73 = .ok (.dload_n 3, 1) := by decide +kernel
theorem dX5_isSoOf_74 : decode cX5_isSoOf 74 = .ok (.dcmp .l, 1) := by decide +kernel
theorem dX5_isSoOf_75 : decode cX5_isSoOf 75 = .ok (.ifCond .lt 7, 3) := by decide +kernel
theorem dX5_isSoOf_78 : decode cX5_isSoOf 78 = .ok (.iconst 1, 1) := by decide +kernel
theorem dX5_isSoOf_79 : decode cX5_isSoOf 79 = .ok (.goto 4, 3) := by decide +kernel
theorem dX5_isSoOf_82 : decode cX5_isSoOf 82 = .ok (.iconst 0, 1) := by decide +kernel
theorem dX5_isSoOf_83 : decode cX5_isSoOf 83 = .ok (.ireturn, 1) := by decide +kernel
theorem dX5_isSoOf_84 : decode cX5_isSoOf 84 = .ok (.dload_n 1, 1) := by decide +kernel
theorem dX5_isSoOf_85 : decode cX5_isSoOf 85 = .ok (.dload_n 3, 1) := by decide +kernel
theorem dX5_isSoOf_86 : decode cX5_isSoOf 86 = .ok (.dcmp .l, 1) := by decide +kernel
theorem dX5_isSoOf_87 : decode cX5_isSoOf 87 = .ok (.ifCond .ne 7, 3) := by decide +kernel
theorem dX5_isSoOf_90 : decode cX5_isSoOf 90 = .ok (.iconst 1, 1) := by decide +kernel
theorem dX5_isSoOf_91 : decode cX5_isSoOf 91 = .ok (.goto 4, 3) := by decide +kernel
theorem dX5_isSoOf_94 : decode cX5_isSoOf 94 = .ok (.iconst 0, 1) := by decide +kernel
theorem dX5_isSoOf_95 : decode cX5_isSoOf 95 = .ok (.ireturn, 1) := by decide +kernel
theorem dX5_isSoOf_96 : decode cX5_isSoOf 96 = .ok (.dload_n 1, 1) := by decide +kernel
theorem dX5_isSoOf_97 : decode cX5_isSoOf 97 = .ok (.dload_n 3, 1) := by decide +kernel
theorem dX5_isSoOf_98 : decode cX5_isSoOf 98 = .ok (.dcmp .l, 1) := by decide +kernel
theorem dX5_isSoOf_99 : decode cX5_isSoOf 99 = .ok (.ifCond .eq 7, 3) := by decide +kernel
theorem dX5_isSoOf_102 : decode cX5_isSoOf 102 = .ok (.iconst 1, 1) := by decide +kernel
theorem dX5_isSoOf_103 : decode cX5_isSoOf 103 = .ok (.goto 4, 3) := by decide +kernel
theorem dX5_isSoOf_106 : decode cX5_isSoOf 106 = .ok (.iconst 0, 1) := by decide +kernel
theorem dX5_isSoOf_107 : decode cX5_isSoOf 107 = .ok (.ireturn, 1) := by decide +kernel
theorem dX6_brought_0 : decode cX6_brought 0 = .ok (.iload_n 2, 1) := by decide +kernel
theorem dX6_brought_1 : decode cX6_brought 1 = .ok (.ifCond .eq 9, 3) := by decide +kernel
theorem dX6_brought_4 : decode cX6_brought 4 = .ok (.dload_n 0, 1) := by decide +kernel
theorem dX6_brought_5 : decode cX6_brought 5 = .ok (.d2f, 1) := by decide +kernel
theorem dX6_brought_6 : decode cX6_brought 6 = .ok (.f2d, 1) := by decide +kernel
theorem dX6_brought_7 : decode cX6_brought 7 = .ok (.goto 4, 3) := by decide +kernel
theorem dX6_brought_10 : decode cX6_brought 10 = .ok (.dload_n 0, 1) := by decide +kernel
theorem dX6_brought_11 : decode cX6_brought 11 = .ok (.dreturn, 1) := by decide +kernel
theorem dX6_twoTo_0 : decode cX6_twoTo 0 = .ok (.dconst 1, 1) := by decide +kernel
theorem dX6_twoTo_1 : decode cX6_twoTo 1 = .ok (.dstore_n 1, 1) := by decide +kernel
theorem dX6_twoTo_2 : decode cX6_twoTo 2 = .ok (.iload_n 0, 1) := by decide +kernel
theorem dX6_twoTo_3 : decode cX6_twoTo 3 = .ok (.ifCond .ge 9, 3) := by decide +kernel
theorem dX6_twoTo_6 : decode cX6_twoTo 6 = .ok (.ldc2_w 7, 3) := by decide +kernel
theorem dX6_twoTo_9 : decode cX6_twoTo 9 = .ok (.goto 6, 3) := by decide +kernel
theorem dX6_twoTo_12 : decode cX6_twoTo 12 = .ok (.ldc2_w 9, 3) := by decide +kernel
theorem dX6_twoTo_15 : decode cX6_twoTo 15 = .ok (.dstore_n 3, 1) := by decide +kernel
theorem dX6_twoTo_16 : decode cX6_twoTo 16 = .ok (.iload_n 0, 1) := by decide +kernel
theorem dX6_twoTo_17 : decode cX6_twoTo 17 = .ok (.ifCond .ge 8, 3) := by decide +kernel
theorem dX6_twoTo_20 : decode cX6_twoTo 20 = .ok (.iload_n 0, 1) := by decide +kernel
theorem dX6_twoTo_21 : decode cX6_twoTo 21 = .ok (.ineg, 1) := by decide +kernel
theorem dX6_twoTo_22 : decode cX6_twoTo 22 = .ok (.goto 4, 3) := by decide +kernel
theorem dX6_twoTo_25 : decode cX6_twoTo 25 = .ok (.iload_n 0, 1) := by decide +kernel
theorem dX6_twoTo_26 : decode cX6_twoTo 26 = .ok (.istore 5, 2) := by decide +kernel
theorem dX6_twoTo_28 : decode cX6_twoTo 28 = .ok (.iconst 0, 1) := by decide +kernel
theorem dX6_twoTo_29 : decode cX6_twoTo 29 = .ok (.istore 6, 2) := by decide +kernel
theorem dX6_twoTo_31 : decode cX6_twoTo 31 = .ok (.iload 6, 2) := by decide +kernel
theorem dX6_twoTo_33 : decode cX6_twoTo 33 = .ok (.bipush 11, 2) := by decide +kernel
theorem dX6_twoTo_35 : decode cX6_twoTo 35 = .ok (.if_icmp .ge 27, 3) := by decide +kernel
theorem dX6_twoTo_38 : decode cX6_twoTo 38 = .ok (.iload 5, 2) := by decide +kernel
theorem dX6_twoTo_40 : decode cX6_twoTo 40 = .ok (.iload 6, 2) := by decide +kernel
theorem dX6_twoTo_42 : decode cX6_twoTo 42 = .ok (.ishr, 1) := by decide +kernel
theorem dX6_twoTo_43 : decode cX6_twoTo 43 = .ok (.iconst 1, 1) := by decide +kernel
theorem dX6_twoTo_44 : decode cX6_twoTo 44 = .ok (.iand, 1) := by decide +kernel
theorem dX6_twoTo_45 : decode cX6_twoTo 45 = .ok (.ifCond .eq 7, 3) := by decide +kernel
theorem dX6_twoTo_48 : decode cX6_twoTo 48 = .ok (.dload_n 1, 1) := by decide +kernel
theorem dX6_twoTo_49 : decode cX6_twoTo 49 = .ok (.dload_n 3, 1) := by decide +kernel
theorem dX6_twoTo_50 : decode cX6_twoTo 50 = .ok (.dmul, 1) := by decide +kernel
theorem dX6_twoTo_51 : decode cX6_twoTo 51 = .ok (.dstore_n 1, 1) := by decide +kernel
theorem dX6_twoTo_52 : decode cX6_twoTo 52 = .ok (.dload_n 3, 1) := by decide +kernel
theorem dX6_twoTo_53 : decode cX6_twoTo 53 = .ok (.dload_n 3, 1) := by decide +kernel
theorem dX6_twoTo_54 : decode cX6_twoTo 54 = .ok (.dmul, 1) := by decide +kernel
theorem dX6_twoTo_55 : decode cX6_twoTo 55 = .ok (.dstore_n 3, 1) := by decide +kernel
theorem dX6_twoTo_56 : decode cX6_twoTo 56 = .ok (.iinc 6 1, 3) := by decide +kernel
theorem dX6_twoTo_59 : decode cX6_twoTo 59 = .ok (.goto (-28), 3) := by decide +kernel
theorem dX6_twoTo_62 : decode cX6_twoTo 62 = .ok (.dload_n 1, 1) := by decide +kernel
theorem dX6_twoTo_63 : decode cX6_twoTo 63 = .ok (.dreturn, 1) := by decide +kernel
theorem dX6_named_0 : decode cX6_named 0 = .ok (.iload_n 0, 1) := by decide +kernel
theorem dX6_named_1 : decode cX6_named 1 = .ok (.tableswitch 57 1 4 #[31, 35, 39, 43], 31) := by decide +kernel
theorem dX6_named_32 : decode cX6_named 32 = .ok (.ldc2_w 11, 3) := by decide +kernel
theorem dX6_named_35 : decode cX6_named 35 = .ok (.dreturn, 1) := by decide +kernel
theorem dX6_named_36 : decode cX6_named 36 = .ok (.ldc2_w 13, 3) := by decide +kernel
theorem dX6_named_39 : decode cX6_named 39 = .ok (.dreturn, 1) := by decide +kernel
theorem dX6_named_40 : decode cX6_named 40 = .ok (.ldc2_w 15, 3) := by decide +kernel
theorem dX6_named_43 : decode cX6_named 43 = .ok (.dreturn, 1) := by decide +kernel
theorem dX6_named_44 : decode cX6_named 44 = .ok (.iload_n 1, 1) := by decide +kernel
theorem dX6_named_45 : decode cX6_named 45 = .ok (.ifCond .eq 9, 3) := by decide +kernel
theorem dX6_named_48 : decode cX6_named 48 = .ok (.ldc2_w 17, 3) := by decide +kernel
theorem dX6_named_51 : decode cX6_named 51 = .ok (.goto 6, 3) := by decide +kernel
theorem dX6_named_54 : decode cX6_named 54 = .ok (.ldc2_w 19, 3) := by decide +kernel
theorem dX6_named_57 : decode cX6_named 57 = .ok (.dreturn, 1) := by decide +kernel
theorem dX6_named_58 : decode cX6_named 58 = .ok (.iload_n 1, 1) := by decide +kernel
theorem dX6_named_59 : decode cX6_named 59 = .ok (.ifCond .eq 9, 3) := by decide +kernel
theorem dX6_named_62 : decode cX6_named 62 = .ok (.ldc2_w 21, 3) := by decide +kernel
theorem dX6_named_65 : decode cX6_named 65 = .ok (.goto 6, 3) := by decide +kernel
theorem dX6_named_68 : decode cX6_named 68 = .ok (.ldc2_w 23, 3) := by decide +kernel
theorem dX6_named_71 : decode cX6_named 71 = .ok (.dreturn, 1) := by decide +kernel
theorem dX6_isInfinite_0 : decode cX6_isInfinite 0 = .ok (.dload_n 0, 1) := by decide +kernel
theorem dX6_isInfinite_1 : decode cX6_isInfinite 1 = .ok (.ldc2_w 19, 3) := by decide +kernel
theorem dX6_isInfinite_4 : decode cX6_isInfinite 4 = .ok (.dcmp .l, 1) := by decide +kernel
theorem dX6_isInfinite_5 : decode cX6_isInfinite 5 = .ok (.ifCond .gt 11, 3) := by decide +kernel
theorem dX6_isInfinite_8 : decode cX6_isInfinite 8 = .ok (.dload_n 0, 1) := by decide +kernel
theorem dX6_isInfinite_9 : decode cX6_isInfinite 9 = .ok (.ldc2_w 25, 3) := by decide +kernel
theorem dX6_isInfinite_12 : decode cX6_isInfinite 12 = .ok (.dcmp .g, 1) := by decide +kernel
theorem dX6_isInfinite_13 : decode cX6_isInfinite 13 = .ok (.ifCond .ge 7, 3) := by decide +kernel
theorem dX6_isInfinite_16 : decode cX6_isInfinite 16 = .ok (.iconst 1, 1) := by decide +kernel
theorem dX6_isInfinite_17 : decode cX6_isInfinite 17 = .ok (.goto 4, 3) := by decide +kernel
theorem dX6_isInfinite_20 : decode cX6_isInfinite 20 = .ok (.iconst 0, 1) := by decide +kernel
theorem dX6_isInfinite_21 : decode cX6_isInfinite 21 = .ok (.ireturn, 1) := by decide +kernel
theorem dX6_hasMinus_0 : decode cX6_hasMinus 0 = .ok (.dload_n 0, 1) := by decide +kernel
theorem dX6_hasMinus_1 : decode cX6_hasMinus 1 = .ok (.dconst 0, 1) := by decide +kernel
theorem dX6_hasMinus_2 : decode cX6_hasMinus 2 = .ok (.dcmp .g, 1) := by decide +kernel
theorem dX6_hasMinus_3 : decode cX6_hasMinus 3 = .ok (.ifCond .lt 17, 3) := by decide +kernel
theorem dX6_hasMinus_6 : decode cX6_hasMinus 6 = .ok (.dload_n 0, 1) := by decide +kernel
theorem dX6_hasMinus_7 : decode cX6_hasMinus 7 = .ok (.dconst 0, 1) := by decide +kernel
theorem dX6_hasMinus_8 : decode cX6_hasMinus 8 = .ok (.dcmp .l, 1) := by decide +kernel
theorem dX6_hasMinus_9 : decode cX6_hasMinus 9 = .ok (.ifCond .ne 15, 3) := by decide +kernel
theorem dX6_hasMinus_12 : decode cX6_hasMinus 12 = .ok (.dconst 1, 1) := by decide +kernel
theorem dX6_hasMinus_13 : decode cX6_hasMinus 13 = .ok (.dload_n 0, 1) := by decide +kernel
theorem dX6_hasMinus_14 : decode cX6_hasMinus 14 = .ok (.ddiv, 1) := by decide +kernel
theorem dX6_hasMinus_15 : decode cX6_hasMinus 15 = .ok (.dconst 0, 1) := by decide +kernel
theorem dX6_hasMinus_16 : decode cX6_hasMinus 16 = .ok (.dcmp .g, 1) := by decide +kernel
theorem dX6_hasMinus_17 : decode cX6_hasMinus 17 = .ok (.ifCond .ge 7, 3) := by decide +kernel
theorem dX6_hasMinus_20 : decode cX6_hasMinus 20 = .ok (.iconst 1, 1) := by decide +kernel
theorem dX6_hasMinus_21 : decode cX6_hasMinus 21 = .ok (.goto 4, 3) := by decide +kernel
theorem dX6_hasMinus_24 : decode cX6_hasMinus 24 = .ok (.iconst 0, 1) := by decide +kernel
theorem dX6_hasMinus_25 : decode cX6_hasMinus 25 = .ok (.ireturn, 1) := by decide +kernel
theorem dX6_withSign_0 : decode cX6_withSign 0 = .ok (.dload_n 0, 1) := by decide +kernel
theorem dX6_withSign_1 : decode cX6_withSign 1 = .ok (.invokestatic 27, 3) := by decide +kernel
theorem dX6_withSign_4 : decode cX6_withSign 4 = .ok (.iload_n 2, 1) := by decide +kernel
theorem dX6_withSign_5 : decode cX6_withSign 5 = .ok (.if_icmp .ne 7, 3) := by decide +kernel
theorem dX6_withSign_8 : decode cX6_withSign 8 = .ok (.dload_n 0, 1) := by decide +kernel
theorem dX6_withSign_9 : decode cX6_withSign 9 = .ok (.goto 5, 3) := by decide +kernel
theorem dX6_withSign_12 : decode cX6_withSign 12 = .ok (.dload_n 0, 1) := by decide +kernel
theorem dX6_withSign_13 : decode cX6_withSign 13 = .ok (.dneg, 1) := by decide +kernel
theorem dX6_withSign_14 : decode cX6_withSign 14 = .ok (.dreturn, 1) := by decide +kernel
theorem dX6_isBelow_0 : decode cX6_isBelow 0 = .ok (.dload_n 0, 1) := by decide +kernel
theorem dX6_isBelow_1 : decode cX6_isBelow 1 = .ok (.dload_n 2, 1) := by decide +kernel
theorem dX6_isBelow_2 : decode cX6_isBelow 2 = .ok (.dcmp .g, 1) := by decide +kernel
theorem dX6_isBelow_3 : decode cX6_isBelow 3 = .ok (.ifCond .lt 25, 3) := by decide +kernel
theorem dX6_isBelow_6 : decode cX6_isBelow 6 = .ok (.dload_n 0, 1) := by decide +kernel
theorem dX6_isBelow_7 : decode cX6_isBelow 7 = .ok (.dconst 0, 1) := by decide +kernel
theorem dX6_isBelow_8 : decode cX6_isBelow 8 = .ok (.dcmp .l, 1) := by decide +kernel
theorem dX6_isBelow_9 : decode cX6_isBelow 9 = .ok (.ifCond .ne 23, 3) := by decide +kernel
theorem dX6_isBelow_12 : decode cX6_isBelow 12 = .ok (.dload_n 2, 1) := by decide +kernel
theorem dX6_isBelow_13 : decode cX6_isBelow 13 = .ok (.dconst 0, 1) := by decide +kernel
theorem dX6_isBelow_14 : decode cX6_isBelow 14 = .ok (.dcmp .l, 1) := by decide +kernel
theorem dX6_isBelow_15 : decode cX6_isBelow 15 = .ok (.ifCond .ne 17, 3) := by decide +kernel
theorem dX6_isBelow_18 : decode cX6_isBelow 18 = .ok (.dconst 1, 1) := by decide +kernel
theorem dX6_isBelow_19 : decode cX6_isBelow 19 = .ok (.dload_n 0, 1) := by decide +kernel
theorem dX6_isBelow_20 : decode cX6_isBelow 20 = .ok (.ddiv, 1) := by decide +kernel
theorem dX6_isBelow_21 : decode cX6_isBelow 21 = .ok (.dconst 1, 1) := by decide +kernel
theorem dX6_isBelow_22 : decode cX6_isBelow 22 = .ok (.dload_n 2, 1) := by decide +kernel
theorem dX6_isBelow_23 : decode cX6_isBelow 23 = .ok (.ddiv, 1) := by decide +kernel
theorem dX6_isBelow_24 : decode cX6_isBelow 24 = .ok (.dcmp .g, 1) := by decide +kernel
theorem dX6_isBelow_25 : decode cX6_isBelow 25 = .ok (.ifCond .ge 7, 3) := by decide +kernel
theorem dX6_isBelow_28 : decode cX6_isBelow 28 = .ok (.iconst 1, 1) := by decide +kernel
theorem dX6_isBelow_29 : decode cX6_isBelow 29 = .ok (.goto 4, 3) := by decide +kernel
theorem dX6_isBelow_32 : decode cX6_isBelow 32 = .ok (.iconst 0, 1) := by decide +kernel
theorem dX6_isBelow_33 : decode cX6_isBelow 33 = .ok (.ireturn, 1) := by decide +kernel
theorem dX6_lesser_0 : decode cX6_lesser 0 = .ok (.dload_n 2, 1) := by decide +kernel
theorem dX6_lesser_1 : decode cX6_lesser 1 = .ok (.dload_n 0, 1) := by decide +kernel
theorem dX6_lesser_2 : decode cX6_lesser 2 = .ok (.invokestatic 33, 3) := by decide +kernel
theorem dX6_lesser_5 : decode cX6_lesser 5 = .ok (.ifCond .eq 7, 3) := by decide +kernel
theorem dX6_lesser_8 : decode cX6_lesser 8 = .ok (.dload_n 2, 1) := by decide +kernel
theorem dX6_lesser_9 : decode cX6_lesser 9 = .ok (.goto 4, 3) := by decide +kernel
theorem dX6_lesser_12 : decode cX6_lesser 12 = .ok (.dload_n 0, 1) := by decide +kernel
theorem dX6_lesser_13 : decode cX6_lesser 13 = .ok (.dreturn, 1) := by decide +kernel
theorem dX6_greater_0 : decode cX6_greater 0 = .ok (.dload_n 0, 1) := by decide +kernel
theorem dX6_greater_1 : decode cX6_greater 1 = .ok (.dload_n 2, 1) := by decide +kernel
theorem dX6_greater_2 : decode cX6_greater 2 = .ok (.invokestatic 33, 3) := by decide +kernel
theorem dX6_greater_5 : decode cX6_greater 5 = .ok (.ifCond .eq 7, 3) := by decide +kernel
theorem dX6_greater_8 : decode cX6_greater 8 = .ok (.dload_n 2, 1) := by decide +kernel
theorem dX6_greater_9 : decode cX6_greater 9 = .ok (.goto 4, 3) := by decide +kernel
theorem dX6_greater_12 : decode cX6_greater 12 = .ok (.dload_n 0, 1) := by decide +kernel
theorem dX6_greater_13 : decode cX6_greater 13 = .ok (.dreturn, 1) := by decide +kernel
theorem dX6_ofOne_0 : decode cX6_ofOne 0 = .ok (.iload_n 0, 1) := by decide +kernel
theorem dX6_ofOne_1 : decode cX6_ofOne 1 = .ok (.tableswitch 115 1 8 #[47, 53, 58, 65, 70, 94, 103, 112], 47) := by decide +kernel
theorem dX6_ofOne_48 : decode cX6_ofOne 48 = .ok (.dload_n 1, 1) := by decide +kernel
theorem dX6_ofOne_49 : decode cX6_ofOne 49 = .ok (.iconst 0, 1) := by decide +kernel
theorem dX6_ofOne_50 : decode cX6_ofOne 50 = .ok (.invokestatic 37, 3) := by decide +kernel
theorem dX6_ofOne_53 : decode cX6_ofOne 53 = .ok (.dreturn, 1) := by decide +kernel
theorem dX6_ofOne_54 : decode cX6_ofOne 54 = .ok (.dload_n 1, 1) := by decide +kernel
theorem dX6_ofOne_55 : decode cX6_ofOne 55 = .ok (.invokestatic 41, 3) := by decide +kernel
theorem dX6_ofOne_58 : decode cX6_ofOne 58 = .ok (.dreturn, 1) := by decide +kernel
theorem dX6_ofOne_59 : decode cX6_ofOne 59 = .ok (.dload_n 1, 1) := by decide +kernel
theorem dX6_ofOne_60 : decode cX6_ofOne 60 = .ok (.dneg, 1) := by decide +kernel
theorem dX6_ofOne_61 : decode cX6_ofOne 61 = .ok (.invokestatic 41, 3) := by decide +kernel
theorem dX6_ofOne_64 : decode cX6_ofOne 64 = .ok (.dneg, 1) := by decide +kernel
theorem dX6_ofOne_65 : decode cX6_ofOne 65 = .ok (.dreturn, 1) := by decide +kernel
theorem dX6_ofOne_66 : decode cX6_ofOne 66 = .ok (.dload_n 1, 1) := by decide +kernel
theorem dX6_ofOne_67 : decode cX6_ofOne 67 = .ok (.invokestatic 45, 3) := by decide +kernel
theorem dX6_ofOne_70 : decode cX6_ofOne 70 = .ok (.dreturn, 1) := by decide +kernel
theorem dX6_ofOne_71 : decode cX6_ofOne 71 = .ok (.dload_n 1, 1) := by decide +kernel
theorem dX6_ofOne_72 : decode cX6_ofOne 72 = .ok (.dconst 0, 1) := by decide +kernel
theorem dX6_ofOne_73 : decode cX6_ofOne 73 = .ok (.dcmp .l, 1) := by decide +kernel
theorem dX6_ofOne_74 : decode cX6_ofOne 74 = .ok (.ifCond .le 7, 3) := by decide +kernel
theorem dX6_ofOne_77 : decode cX6_ofOne 77 = .ok (.dconst 1, 1) := by decide +kernel
theorem dX6_ofOne_78 : decode cX6_ofOne 78 = .ok (.goto 16, 3) := by decide +kernel
theorem dX6_ofOne_81 : decode cX6_ofOne 81 = .ok (.dload_n 1, 1) := by decide +kernel
theorem dX6_ofOne_82 : decode cX6_ofOne 82 = .ok (.dconst 0, 1) := by decide +kernel
theorem dX6_ofOne_83 : decode cX6_ofOne 83 = .ok (.dcmp .g, 1) := by decide +kernel
theorem dX6_ofOne_84 : decode cX6_ofOne 84 = .ok (.ifCond .ge 9, 3) := by decide +kernel
theorem dX6_ofOne_87 : decode cX6_ofOne 87 = .ok (.ldc2_w 48, 3) := by decide +kernel
theorem dX6_ofOne_90 : decode cX6_ofOne 90 = .ok (.goto 4, 3) := by decide +kernel
theorem dX6_ofOne_93 : decode cX6_ofOne 93 = .ok (.dload_n 1, 1) := by decide +kernel
theorem dX6_ofOne_94 : decode cX6_ofOne 94 = .ok (.dreturn, 1) := by decide +kernel
theorem dX6_ofOne_95 : decode cX6_ofOne 95 = .ok (.dload_n 1, 1) := by decide +kernel
theorem dX6_ofOne_96 : decode cX6_ofOne 96 = .ok (.ldc2_w 9, 3) := by decide +kernel
theorem dX6_ofOne_99 : decode cX6_ofOne 99 = .ok (.iload_n 3, 1) := by decide +kernel
theorem dX6_ofOne_100 : decode cX6_ofOne 100 = .ok (.invokestatic 50, 3) := by decide +kernel
theorem dX6_ofOne_103 : decode cX6_ofOne 103 = .ok (.dreturn, 1) := by decide +kernel
theorem dX6_ofOne_104 : decode cX6_ofOne 104 = .ok (.dload_n 1, 1) := by decide +kernel
theorem dX6_ofOne_105 : decode cX6_ofOne 105 = .ok (.ldc2_w 9, 3) := by decide +kernel
theorem dX6_ofOne_108 : decode cX6_ofOne 108 = .ok (.iload_n 3, 1) := by decide +kernel
theorem dX6_ofOne_109 : decode cX6_ofOne 109 = .ok (.invokestatic 54, 3) := by decide +kernel
theorem dX6_ofOne_112 : decode cX6_ofOne 112 = .ok (.dreturn, 1) := by decide +kernel
theorem dX6_ofOne_113 : decode cX6_ofOne 113 = .ok (.dload_n 1, 1) := by decide +kernel
theorem dX6_ofOne_114 : decode cX6_ofOne 114 = .ok (.dneg, 1) := by decide +kernel
theorem dX6_ofOne_115 : decode cX6_ofOne 115 = .ok (.dreturn, 1) := by decide +kernel
theorem dX6_ofOne_116 : decode cX6_ofOne 116 = .ok (.dload_n 1, 1) := by decide +kernel
theorem dX6_ofOne_117 : decode cX6_ofOne 117 = .ok (.dreturn, 1) := by decide +kernel
theorem dX6_isVoid_0 : decode cX6_isVoid 0 = .ok (.iload_n 0, 1) := by decide +kernel
theorem dX6_isVoid_1 : decode cX6_isVoid 1 = .ok (.tableswitch 241 9 26 #[87, 113, 139, 171, 203, 241, 241, 241, 241, 241, 241, 241, 241, 241, 241, 241, 241, 222], 87) := by decide +kernel
theorem dX6_isVoid_88 : decode cX6_isVoid 88 = .ok (.dload_n 1, 1) := by decide +kernel
theorem dX6_isVoid_89 : decode cX6_isVoid 89 = .ok (.invokestatic 57, 3) := by decide +kernel
theorem dX6_isVoid_92 : decode cX6_isVoid 92 = .ok (.ifCond .eq 20, 3) := by decide +kernel
theorem dX6_isVoid_95 : decode cX6_isVoid 95 = .ok (.dload_n 3, 1) := by decide +kernel
theorem dX6_isVoid_96 : decode cX6_isVoid 96 = .ok (.invokestatic 57, 3) := by decide +kernel
theorem dX6_isVoid_99 : decode cX6_isVoid 99 = .ok (.ifCond .eq 13, 3) := by decide +kernel
theorem dX6_isVoid_102 : decode cX6_isVoid 102 = .ok (.dload_n 1, 1) := by decide +kernel
theorem dX6_isVoid_103 : decode cX6_isVoid 103 = .ok (.dload_n 3, 1) := by decide +kernel
theorem dX6_isVoid_104 : decode cX6_isVoid 104 = .ok (.dcmp .l, 1) := by decide +kernel
theorem dX6_isVoid_105 : decode cX6_isVoid 105 = .ok (.ifCond .eq 7, 3) := by decide +kernel
theorem dX6_isVoid_108 : decode cX6_isVoid 108 = .ok (.iconst 1, 1) := by decide +kernel
theorem dX6_isVoid_109 : decode cX6_isVoid 109 = .ok (.goto 4, 3) := by decide +kernel
theorem dX6_isVoid_112 : decode cX6_isVoid 112 = .ok (.iconst 0, 1) := by decide +kernel
theorem dX6_isVoid_113 : decode cX6_isVoid 113 = .ok (.ireturn, 1) := by decide +kernel
theorem dX6_isVoid_114 : decode cX6_isVoid 114 = .ok (.dload_n 1, 1) := by decide +kernel
theorem dX6_isVoid_115 : decode cX6_isVoid 115 = .ok (.invokestatic 57, 3) := by decide +kernel
theorem dX6_isVoid_118 : decode cX6_isVoid 118 = .ok (.ifCond .eq 20, 3) := by decide +kernel
theorem dX6_isVoid_121 : decode cX6_isVoid 121 = .ok (.dload_n 3, 1) := by decide +kernel
theorem dX6_isVoid_122 : decode cX6_isVoid 122 = .ok (.invokestatic 57, 3) := by decide +kernel
theorem dX6_isVoid_125 : decode cX6_isVoid 125 = .ok (.ifCond .eq 13, 3) := by decide +kernel
theorem dX6_isVoid_128 : decode cX6_isVoid 128 = .ok (.dload_n 1, 1) := by decide +kernel
theorem dX6_isVoid_129 : decode cX6_isVoid 129 = .ok (.dload_n 3, 1) := by decide +kernel
theorem dX6_isVoid_130 : decode cX6_isVoid 130 = .ok (.dcmp .l, 1) := by decide +kernel
theorem dX6_isVoid_131 : decode cX6_isVoid 131 = .ok (.ifCond .ne 7, 3) := by decide +kernel
theorem dX6_isVoid_134 : decode cX6_isVoid 134 = .ok (.iconst 1, 1) := by decide +kernel
theorem dX6_isVoid_135 : decode cX6_isVoid 135 = .ok (.goto 4, 3) := by decide +kernel
theorem dX6_isVoid_138 : decode cX6_isVoid 138 = .ok (.iconst 0, 1) := by decide +kernel
theorem dX6_isVoid_139 : decode cX6_isVoid 139 = .ok (.ireturn, 1) := by decide +kernel
theorem dX6_isVoid_140 : decode cX6_isVoid 140 = .ok (.dload_n 1, 1) := by decide +kernel
theorem dX6_isVoid_141 : decode cX6_isVoid 141 = .ok (.dconst 0, 1) := by decide +kernel
theorem dX6_isVoid_142 : decode cX6_isVoid 142 = .ok (.dcmp .l, 1) := by decide +kernel
theorem dX6_isVoid_143 : decode cX6_isVoid 143 = .ok (.ifCond .ne 10, 3) := by decide +kernel
theorem dX6_isVoid_146 : decode cX6_isVoid 146 = .ok (.dload_n 3, 1) := by decide +kernel
theorem dX6_isVoid_147 : decode cX6_isVoid 147 = .ok (.invokestatic 57, 3) := by decide +kernel
theorem dX6_isVoid_150 : decode cX6_isVoid 150 = .ok (.ifCond .ne 16, 3) := by decide +kernel
theorem dX6_isVoid_153 : decode cX6_isVoid 153 = .ok (.dload_n 1, 1) := by decide +kernel
theorem dX6_isVoid_154 : decode cX6_isVoid 154 = .ok (.invokestatic 57, 3) := by decide +kernel
theorem dX6_isVoid_157 : decode cX6_isVoid 157 = .ok (.ifCond .eq 13, 3) := by decide +kernel
theorem dX6_isVoid_160 : decode cX6_isVoid 160 = .ok (.dload_n 3, 1) := by decide +kernel
theorem dX6_isVoid_161 : decode cX6_isVoid 161 = .ok (.dconst 0, 1) := by decide +kernel
theorem dX6_isVoid_162 : decode cX6_isVoid 162 = .ok (.dcmp .l, 1) := by decide +kernel
theorem dX6_isVoid_163 : decode cX6_isVoid 163 = .ok (.ifCond .ne 7, 3) := by decide +kernel
theorem dX6_isVoid_166 : decode cX6_isVoid 166 = .ok (.iconst 1, 1) := by decide +kernel
theorem dX6_isVoid_167 : decode cX6_isVoid 167 = .ok (.goto 4, 3) := by decide +kernel
theorem dX6_isVoid_170 : decode cX6_isVoid 170 = .ok (.iconst 0, 1) := by decide +kernel
theorem dX6_isVoid_171 : decode cX6_isVoid 171 = .ok (.ireturn, 1) := by decide +kernel
theorem dX6_isVoid_172 : decode cX6_isVoid 172 = .ok (.dload_n 1, 1) := by decide +kernel
theorem dX6_isVoid_173 : decode cX6_isVoid 173 = .ok (.dconst 0, 1) := by decide +kernel
theorem dX6_isVoid_174 : decode cX6_isVoid 174 = .ok (.dcmp .l, 1) := by decide +kernel
theorem dX6_isVoid_175 : decode cX6_isVoid 175 = .ok (.ifCond .ne 9, 3) := by decide +kernel
theorem dX6_isVoid_178 : decode cX6_isVoid 178 = .ok (.dload_n 3, 1) := by decide +kernel
theorem dX6_isVoid_179 : decode cX6_isVoid 179 = .ok (.dconst 0, 1) := by decide +kernel
theorem dX6_isVoid_180 : decode cX6_isVoid 180 = .ok (.dcmp .l, 1) := by decide +kernel
theorem dX6_isVoid_181 : decode cX6_isVoid 181 = .ok (.ifCond .eq 17, 3) := by decide +kernel
theorem dX6_isVoid_184 : decode cX6_isVoid 184 = .ok (.dload_n 1, 1) := by decide +kernel
theorem dX6_isVoid_185 : decode cX6_isVoid 185 = .ok (.invokestatic 57, 3) := by decide +kernel
theorem dX6_isVoid_188 : decode cX6_isVoid 188 = .ok (.ifCond .eq 14, 3) := by decide +kernel
theorem dX6_isVoid_191 : decode cX6_isVoid 191 = .ok (.dload_n 3, 1) := by decide +kernel
theorem dX6_isVoid_192 : decode cX6_isVoid 192 = .ok (.invokestatic 57, 3) := by decide +kernel
theorem dX6_isVoid_195 : decode cX6_isVoid 195 = .ok (.ifCond .eq 7, 3) := by decide +kernel
theorem dX6_isVoid_198 : decode cX6_isVoid 198 = .ok (.iconst 1, 1) := by decide +kernel
theorem dX6_isVoid_199 : decode cX6_isVoid 199 = .ok (.goto 4, 3) := by decide +kernel
theorem dX6_isVoid_202 : decode cX6_isVoid 202 = .ok (.iconst 0, 1) := by decide +kernel
theorem dX6_isVoid_203 : decode cX6_isVoid 203 = .ok (.ireturn, 1) := by decide +kernel
theorem dX6_isVoid_204 : decode cX6_isVoid 204 = .ok (.dload_n 3, 1) := by decide +kernel
theorem dX6_isVoid_205 : decode cX6_isVoid 205 = .ok (.dconst 0, 1) := by decide +kernel
theorem dX6_isVoid_206 : decode cX6_isVoid 206 = .ok (.dcmp .l, 1) := by decide +kernel
theorem dX6_isVoid_207 : decode cX6_isVoid 207 = .ok (.ifCond .eq 10, 3) := by decide +kernel
theorem dX6_isVoid_210 : decode cX6_isVoid 210 = .ok (.dload_n 1, 1) := by decide +kernel
theorem dX6_isVoid_211 : decode cX6_isVoid 211 = .ok (.invokestatic 57, 3) := by decide +kernel
theorem dX6_isVoid_214 : decode cX6_isVoid 214 = .ok (.ifCond .eq 7, 3) := by decide +kernel
theorem dX6_isVoid_217 : decode cX6_isVoid 217 = .ok (.iconst 1, 1) := by decide +kernel
theorem dX6_isVoid_218 : decode cX6_isVoid 218 = .ok (.goto 4, 3) := by decide +kernel
theorem dX6_isVoid_221 : decode cX6_isVoid 221 = .ok (.iconst 0, 1) := by decide +kernel
theorem dX6_isVoid_222 : decode cX6_isVoid 222 = .ok (.ireturn, 1) := by decide +kernel
theorem dX6_isVoid_223 : decode cX6_isVoid 223 = .ok (.dload_n 3, 1) := by decide +kernel
theorem dX6_isVoid_224 : decode cX6_isVoid 224 = .ok (.dconst 0, 1) := by decide +kernel
theorem dX6_isVoid_225 : decode cX6_isVoid 225 = .ok (.dcmp .l, 1) := by decide +kernel
theorem dX6_isVoid_226 : decode cX6_isVoid 226 = .ok (.ifCond .eq 10, 3) := by decide +kernel
theorem dX6_isVoid_229 : decode cX6_isVoid 229 = .ok (.dload_n 3, 1) := by decide +kernel
theorem dX6_isVoid_230 : decode cX6_isVoid 230 = .ok (.invokestatic 57, 3) := by decide +kernel
theorem dX6_isVoid_233 : decode cX6_isVoid 233 = .ok (.ifCond .eq 7, 3) := by decide +kernel
theorem dX6_isVoid_236 : decode cX6_isVoid 236 = .ok (.iconst 1, 1) := by decide +kernel
theorem dX6_isVoid_237 : decode cX6_isVoid 237 = .ok (.goto 4, 3) := by decide +kernel
theorem dX6_isVoid_240 : decode cX6_isVoid 240 = .ok (.iconst 0, 1) := by decide +kernel
theorem dX6_isVoid_241 : decode cX6_isVoid 241 = .ok (.ireturn, 1) := by decide +kernel
theorem dX6_isVoid_242 : decode cX6_isVoid 242 = .ok (.iconst 0, 1) := by decide +kernel
theorem dX6_isVoid_243 : decode cX6_isVoid 243 = .ok (.ireturn, 1) := by decide +kernel
theorem dX6_ofTwo_0 : decode cX6_ofTwo 0 = .ok (.iload_n 0, 1) := by decide +kernel
theorem dX6_ofTwo_1 : decode cX6_ofTwo 1 = .ok (.tableswitch 107 9 16 #[47, 55, 64, 72, 80, 86, 92, 98], 47) := by decide +kernel
theorem dX6_ofTwo_48 : decode cX6_ofTwo 48 = .ok (.dload_n 1, 1) := by decide +kernel
theorem dX6_ofTwo_49 : decode cX6_ofTwo 49 = .ok (.dload_n 3, 1) := by decide +kernel
theorem dX6_ofTwo_50 : decode cX6_ofTwo 50 = .ok (.iload 5, 2) := by decide +kernel
theorem dX6_ofTwo_52 : decode cX6_ofTwo 52 = .ok (.invokestatic 60, 3) := by decide +kernel
theorem dX6_ofTwo_55 : decode cX6_ofTwo 55 = .ok (.dreturn, 1) := by decide +kernel
theorem dX6_ofTwo_56 : decode cX6_ofTwo 56 = .ok (.dload_n 1, 1) := by decide +kernel
theorem dX6_ofTwo_57 : decode cX6_ofTwo 57 = .ok (.dload_n 3, 1) := by decide +kernel
theorem dX6_ofTwo_58 : decode cX6_ofTwo 58 = .ok (.dneg, 1) := by decide +kernel
theorem dX6_ofTwo_59 : decode cX6_ofTwo 59 = .ok (.iload 5, 2) := by decide +kernel
theorem dX6_ofTwo_61 : decode cX6_ofTwo 61 = .ok (.invokestatic 60, 3) := by decide +kernel
theorem dX6_ofTwo_64 : decode cX6_ofTwo 64 = .ok (.dreturn, 1) := by decide +kernel
theorem dX6_ofTwo_65 : decode cX6_ofTwo 65 = .ok (.dload_n 1, 1) := by decide +kernel
theorem dX6_ofTwo_66 : decode cX6_ofTwo 66 = .ok (.dload_n 3, 1) := by decide +kernel
theorem dX6_ofTwo_67 : decode cX6_ofTwo 67 = .ok (.iload 5, 2) := by decide +kernel
theorem dX6_ofTwo_69 : decode cX6_ofTwo 69 = .ok (.invokestatic 54, 3) := by decide +kernel
theorem dX6_ofTwo_72 : decode cX6_ofTwo 72 = .ok (.dreturn, 1) := by decide +kernel
theorem dX6_ofTwo_73 : decode cX6_ofTwo 73 = .ok (.dload_n 1, 1) := by decide +kernel
theorem dX6_ofTwo_74 : decode cX6_ofTwo 74 = .ok (.dload_n 3, 1) := by decide +kernel
theorem dX6_ofTwo_75 : decode cX6_ofTwo 75 = .ok (.iload 5, 2) := by decide +kernel
theorem dX6_ofTwo_77 : decode cX6_ofTwo 77 = .ok (.invokestatic 50, 3) := by decide +kernel
theorem dX6_ofTwo_80 : decode cX6_ofTwo 80 = .ok (.dreturn, 1) := by decide +kernel
theorem dX6_ofTwo_81 : decode cX6_ofTwo 81 = .ok (.dload_n 1, 1) := by decide +kernel
theorem dX6_ofTwo_82 : decode cX6_ofTwo 82 = .ok (.dload_n 3, 1) := by decide +kernel
theorem dX6_ofTwo_83 : decode cX6_ofTwo 83 = .ok (.invokestatic 63, 3) := by decide +kernel
theorem dX6_ofTwo_86 : decode cX6_ofTwo 86 = .ok (.dreturn, 1) := by decide +kernel
theorem dX6_ofTwo_87 : decode cX6_ofTwo 87 = .ok (.dload_n 1, 1) := by decide +kernel
theorem dX6_ofTwo_88 : decode cX6_ofTwo 88 = .ok (.dload_n 3, 1) := by decide +kernel
theorem dX6_ofTwo_89 : decode cX6_ofTwo 89 = .ok (.invokestatic 67, 3) := by decide +kernel
theorem dX6_ofTwo_92 : decode cX6_ofTwo 92 = .ok (.dreturn, 1) := by decide +kernel
theorem dX6_ofTwo_93 : decode cX6_ofTwo 93 = .ok (.dload_n 1, 1) := by decide +kernel
theorem dX6_ofTwo_94 : decode cX6_ofTwo 94 = .ok (.dload_n 3, 1) := by decide +kernel
theorem dX6_ofTwo_95 : decode cX6_ofTwo 95 = .ok (.invokestatic 70, 3) := by decide +kernel
theorem dX6_ofTwo_98 : decode cX6_ofTwo 98 = .ok (.dreturn, 1) := by decide +kernel
theorem dX6_ofTwo_99 : decode cX6_ofTwo 99 = .ok (.dload_n 1, 1) := by decide +kernel
theorem dX6_ofTwo_100 : decode cX6_ofTwo 100 = .ok (.dload_n 3, 1) := by decide +kernel
theorem dX6_ofTwo_101 : decode cX6_ofTwo 101 = .ok (.invokestatic 27, 3) := by decide +kernel
theorem dX6_ofTwo_104 : decode cX6_ofTwo 104 = .ok (.invokestatic 37, 3) := by decide +kernel
theorem dX6_ofTwo_107 : decode cX6_ofTwo 107 = .ok (.dreturn, 1) := by decide +kernel
theorem dX6_ofTwo_108 : decode cX6_ofTwo 108 = .ok (.dload_n 1, 1) := by decide +kernel
theorem dX6_ofTwo_109 : decode cX6_ofTwo 109 = .ok (.dload_n 3, 1) := by decide +kernel
theorem dX6_ofTwo_110 : decode cX6_ofTwo 110 = .ok (.iload 5, 2) := by decide +kernel
theorem dX6_ofTwo_112 : decode cX6_ofTwo 112 = .ok (.invokestatic 50, 3) := by decide +kernel
theorem dX6_ofTwo_115 : decode cX6_ofTwo 115 = .ok (.invokestatic 45, 3) := by decide +kernel
theorem dX6_ofTwo_118 : decode cX6_ofTwo 118 = .ok (.dload_n 3, 1) := by decide +kernel
theorem dX6_ofTwo_119 : decode cX6_ofTwo 119 = .ok (.iload 5, 2) := by decide +kernel
theorem dX6_ofTwo_121 : decode cX6_ofTwo 121 = .ok (.invokestatic 54, 3) := by decide +kernel
theorem dX6_ofTwo_124 : decode cX6_ofTwo 124 = .ok (.dreturn, 1) := by decide +kernel
theorem dX6_sum_0 : decode cX6_sum 0 = .ok (.iload 4, 2) := by decide +kernel
theorem dX6_sum_2 : decode cX6_sum 2 = .ok (.ifCond .eq 12, 3) := by decide +kernel
theorem dX6_sum_5 : decode cX6_sum 5 = .ok (.dload_n 0, 1) := by decide +kernel
theorem dX6_sum_6 : decode cX6_sum 6 = .ok (.d2f, 1) := by decide +kernel
theorem dX6_sum_7 : decode cX6_sum 7 = .ok (.dload_n 2, 1) := by decide +kernel
theorem dX6_sum_8 : decode cX6_sum 8 = .ok (.d2f, 1) := by decide +kernel
theorem dX6_sum_9 : decode cX6_sum 9 = .ok (.fadd, 1) := by decide +kernel
theorem dX6_sum_10 : decode cX6_sum 10 = .ok (.f2d, 1) := by decide +kernel
theorem dX6_sum_11 : decode cX6_sum 11 = .ok (.goto 6, 3) := by decide +kernel
theorem dX6_sum_14 : decode cX6_sum 14 = .ok (.dload_n 0, 1) := by decide +kernel
theorem dX6_sum_15 : decode cX6_sum 15 = .ok (.dload_n 2, 1) := by decide +kernel
theorem dX6_sum_16 : decode cX6_sum 16 = .ok (.dadd, 1) := by decide +kernel
theorem dX6_sum_17 : decode cX6_sum 17 = .ok (.dreturn, 1) := by decide +kernel
theorem dX6_product_0 : decode cX6_product 0 = .ok (.iload 4, 2) := by decide +kernel
theorem dX6_product_2 : decode cX6_product 2 = .ok (.ifCond .eq 12, 3) := by decide +kernel
theorem dX6_product_5 : decode cX6_product 5 = .ok (.dload_n 0, 1) := by decide +kernel
theorem dX6_product_6 : decode cX6_product 6 = .ok (.d2f, 1) := by decide +kernel
theorem dX6_product_7 : decode cX6_product 7 = .ok (.dload_n 2, 1) := by decide +kernel
theorem dX6_product_8 : decode cX6_product 8 = .ok (.d2f, 1) := by decide +kernel
theorem dX6_product_9 : decode cX6_product 9 = .ok (.fmul, 1) := by decide +kernel
theorem dX6_product_10 : decode cX6_product 10 = .ok (.f2d, 1) := by decide +kernel
theorem dX6_product_11 : decode cX6_product 11 = .ok (.goto 6, 3) := by decide +kernel
theorem dX6_product_14 : decode cX6_product 14 = .ok (.dload_n 0, 1) := by decide +kernel
theorem dX6_product_15 : decode cX6_product 15 = .ok (.dload_n 2, 1) := by decide +kernel
theorem dX6_product_16 : decode cX6_product 16 = .ok (.dmul, 1) := by decide +kernel
theorem dX6_product_17 : decode cX6_product 17 = .ok (.dreturn, 1) := by decide +kernel
theorem dX6_quotient_0 : decode cX6_quotient 0 = .ok (.iload 4, 2) := by decide +kernel
theorem dX6_quotient_2 : decode cX6_quotient 2 = .ok (.ifCond .eq 12, 3) := by decide +kernel
theorem dX6_quotient_5 : decode cX6_quotient 5 = .ok (.dload_n 0, 1) := by decide +kernel
theorem dX6_quotient_6 : decode cX6_quotient 6 = .ok (.d2f, 1) := by decide +kernel
theorem dX6_quotient_7 : decode cX6_quotient 7 = .ok (.dload_n 2, 1) := by decide +kernel
theorem dX6_quotient_8 : decode cX6_quotient 8 = .ok (.d2f, 1) := by decide +kernel
theorem dX6_quotient_9 : decode cX6_quotient 9 = .ok (.fdiv, 1) := by decide +kernel
theorem dX6_quotient_10 : decode cX6_quotient 10 = .ok (.f2d, 1) := by decide +kernel
theorem dX6_quotient_11 : decode cX6_quotient 11 = .ok (.goto 6, 3) := by decide +kernel
theorem dX6_quotient_14 : decode cX6_quotient 14 = .ok (.dload_n 0, 1) := by decide +kernel
theorem dX6_quotient_15 : decode cX6_quotient 15 = .ok (.dload_n 2, 1) := by decide +kernel
theorem dX6_quotient_16 : decode cX6_quotient 16 = .ok (.ddiv, 1) := by decide +kernel
theorem dX6_quotient_17 : decode cX6_quotient 17 = .ok (.dreturn, 1) := by decide +kernel
theorem dX6_isSurelyWhole_0 : decode cX6_isSurelyWhole 0 = .ok (.dload_n 0, 1) := by decide +kernel
theorem dX6_isSurelyWhole_1 : decode cX6_isSurelyWhole 1 = .ok (.ldc2_w 73, 3) := by decide +kernel
theorem dX6_isSurelyWhole_4 : decode cX6_isSurelyWhole 4 = .ok (.dcmp .l, 1) := by decide +kernel
theorem dX6_isSurelyWhole_5 : decode cX6_isSurelyWhole 5 = .ok (.ifCond .ge 11, 3) := by decide +kernel
theorem dX6_isSurelyWhole_8 : decode cX6_isSurelyWhole 8 = .ok (.dload_n 0, 1) := by decide +kernel
theorem dX6_isSurelyWhole_9 : decode cX6_isSurelyWhole 9 = .ok (.ldc2_w 75, 3) := by decide +kernel
theorem dX6_isSurelyWhole_12 : decode cX6_isSurelyWhole 12 = .ok (.dcmp .g, 1) := by decide +kernel
theorem dX6_isSurelyWhole_13 : decode cX6_isSurelyWhole 13 = .ok (.ifCond .gt 7, 3) := by decide +kernel
theorem dX6_isSurelyWhole_16 : decode cX6_isSurelyWhole 16 = .ok (.iconst 1, 1) := by decide +kernel
theorem dX6_isSurelyWhole_17 : decode cX6_isSurelyWhole 17 = .ok (.goto 4, 3) := by decide +kernel
theorem dX6_isSurelyWhole_20 : decode cX6_isSurelyWhole 20 = .ok (.iconst 0, 1) := by decide +kernel
theorem dX6_isSurelyWhole_21 : decode cX6_isSurelyWhole 21 = .ok (.ireturn, 1) := by decide +kernel
theorem dX6_floor_0 : decode cX6_floor 0 = .ok (.dload_n 0, 1) := by decide +kernel
theorem dX6_floor_1 : decode cX6_floor 1 = .ok (.invokestatic 77, 3) := by decide +kernel
theorem dX6_floor_4 : decode cX6_floor 4 = .ok (.ifCond .eq 5, 3) := by decide +kernel
theorem dX6_floor_7 : decode cX6_floor 7 = .ok (.dload_n 0, 1) := by decide +kernel
theorem dX6_floor_8 : decode cX6_floor 8 = .ok (.dreturn, 1) := by decide +kernel
theorem dX6_floor_9 : decode cX6_floor 9 = .ok (.dload_n 0, 1) := by decide +kernel
theorem dX6_floor_10 : decode cX6_floor 10 = .ok (.d2l, 1) := by decide +kernel
theorem dX6_floor_11 : decode cX6_floor 11 = .ok (.l2d, 1) := by decide +kernel
theorem dX6_floor_12 : decode cX6_floor 12 = .ok (.dstore_n 2, 1) := by decide +kernel
theorem dX6_floor_13 : decode cX6_floor 13 = .ok (.dload_n 2, 1) := by decide +kernel
theorem dX6_floor_14 : decode cX6_floor 14 = .ok (.dload_n 0, 1) := by decide +kernel
theorem dX6_floor_15 : decode cX6_floor 15 = .ok (.dcmp .l, 1) := by decide +kernel
theorem dX6_floor_16 : decode cX6_floor 16 = .ok (.ifCond .le 7, 3) := by decide +kernel
theorem dX6_floor_19 : decode cX6_floor 19 = .ok (.dload_n 2, 1) := by decide +kernel
theorem dX6_floor_20 : decode cX6_floor 20 = .ok (.dconst 1, 1) := by decide +kernel
theorem dX6_floor_21 : decode cX6_floor 21 = .ok (.dsub, 1) := by decide +kernel
theorem dX6_floor_22 : decode cX6_floor 22 = .ok (.dstore_n 2, 1) := by decide +kernel
theorem dX6_floor_23 : decode cX6_floor 23 = .ok (.dload_n 2, 1) := by decide +kernel
theorem dX6_floor_24 : decode cX6_floor 24 = .ok (.dconst 0, 1) := by decide +kernel
theorem dX6_floor_25 : decode cX6_floor 25 = .ok (.dcmp .l, 1) := by decide +kernel
theorem dX6_floor_26 : decode cX6_floor 26 = .ok (.ifCond .ne 10, 3) := by decide +kernel
theorem dX6_floor_29 : decode cX6_floor 29 = .ok (.dload_n 0, 1) := by decide +kernel
theorem dX6_floor_30 : decode cX6_floor 30 = .ok (.invokestatic 80, 3) := by decide +kernel
theorem dX6_floor_33 : decode cX6_floor 33 = .ok (.goto 4, 3) := by decide +kernel
theorem dX6_floor_36 : decode cX6_floor 36 = .ok (.dload_n 2, 1) := by decide +kernel
theorem dX6_floor_37 : decode cX6_floor 37 = .ok (.dreturn, 1) := by decide +kernel
theorem dX6_nearest_0 : decode cX6_nearest 0 = .ok (.dload_n 0, 1) := by decide +kernel
theorem dX6_nearest_1 : decode cX6_nearest 1 = .ok (.invokestatic 77, 3) := by decide +kernel
theorem dX6_nearest_4 : decode cX6_nearest 4 = .ok (.ifCond .eq 5, 3) := by decide +kernel
theorem dX6_nearest_7 : decode cX6_nearest 7 = .ok (.dload_n 0, 1) := by decide +kernel
theorem dX6_nearest_8 : decode cX6_nearest 8 = .ok (.dreturn, 1) := by decide +kernel
theorem dX6_nearest_9 : decode cX6_nearest 9 = .ok (.dload_n 0, 1) := by decide +kernel
theorem dX6_nearest_10 : decode cX6_nearest 10 = .ok (.dconst 0, 1) := by decide +kernel
theorem dX6_nearest_11 : decode cX6_nearest 11 = .ok (.dcmp .g, 1) := by decide +kernel
theorem dX6_nearest_12 : decode cX6_nearest 12 = .ok (.ifCond .ge 8, 3) := by decide +kernel
theorem dX6_nearest_15 : decode cX6_nearest 15 = .ok (.dload_n 0, 1) := by decide +kernel
theorem dX6_nearest_16 : decode cX6_nearest 16 = .ok (.dneg, 1) := by decide +kernel
theorem dX6_nearest_17 : decode cX6_nearest 17 = .ok (.goto 4, 3) := by decide +kernel
theorem dX6_nearest_20 : decode cX6_nearest 20 = .ok (.dload_n 0, 1) := by decide +kernel
theorem dX6_nearest_21 : decode cX6_nearest 21 = .ok (.dstore_n 2, 1) := by decide +kernel
theorem dX6_nearest_22 : decode cX6_nearest 22 = .ok (.dload_n 2, 1) := by decide +kernel
theorem dX6_nearest_23 : decode cX6_nearest 23 = .ok (.d2l, 1) := by decide +kernel
theorem dX6_nearest_24 : decode cX6_nearest 24 = .ok (.lstore 4, 2) := by decide +kernel
theorem dX6_nearest_26 : decode cX6_nearest 26 = .ok (.dload_n 2, 1) := by decide +kernel
theorem dX6_nearest_27 : decode cX6_nearest 27 = .ok (.lload 4, 2) := by decide +kernel
theorem dX6_nearest_29 : decode cX6_nearest 29 = .ok (.l2d, 1) := by decide +kernel
theorem dX6_nearest_30 : decode cX6_nearest 30 = .ok (.dsub, 1) := by decide +kernel
theorem dX6_nearest_31 : decode cX6_nearest 31 = .ok (.dstore 6, 2) := by decide +kernel
theorem dX6_nearest_33 : decode cX6_nearest 33 = .ok (.dload 6, 2) := by decide +kernel
theorem dX6_nearest_35 : decode cX6_nearest 35 = .ok (.ldc2_w 7, 3) := by decide +kernel
theorem dX6_nearest_38 : decode cX6_nearest 38 = .ok (.dcmp .l, 1) := by decide +kernel
theorem dX6_nearest_39 : decode cX6_nearest 39 = .ok (.ifCond .gt 21, 3) := by decide +kernel
theorem dX6_nearest_42 : decode cX6_nearest 42 = .ok (.dload 6, 2) := by decide +kernel
theorem dX6_nearest_44 : decode cX6_nearest 44 = .ok (.ldc2_w 7, 3) := by decide +kernel
theorem dX6_nearest_47 : decode cX6_nearest 47 = .ok (.dcmp .l, 1) := by decide +kernel
theorem dX6_nearest_48 : decode cX6_nearest 48 = .ok (.ifCond .ne 18, 3) := by decide +kernel
theorem dX6_nearest_51 : decode cX6_nearest 51 = .ok (.lload 4, 2) := by decide +kernel
theorem dX6_nearest_53 : decode cX6_nearest 53 = .ok (.lconst 1, 1) := by decide +kernel
theorem dX6_nearest_54 : decode cX6_nearest 54 = .ok (.land, 1) := by decide +kernel
theorem dX6_nearest_55 : decode cX6_nearest 55 = .ok (.lconst 0, 1) := by decide +kernel
theorem dX6_nearest_56 : decode cX6_nearest 56 = .ok (.lcmp, 1) := by decide +kernel
theorem dX6_nearest_57 : decode cX6_nearest 57 = .ok (.ifCond .eq 9, 3) := by decide +kernel
theorem dX6_nearest_60 : decode cX6_nearest 60 = .ok (.lload 4, 2) := by decide +kernel
theorem dX6_nearest_62 : decode cX6_nearest 62 = .ok (.lconst 1, 1) := by decide +kernel
theorem dX6_nearest_63 : decode cX6_nearest 63 = .ok (.ladd, 1) := by decide +kernel
theorem dX6_nearest_64 : decode cX6_nearest 64 = .ok (.lstore 4, 2) := by decide +kernel
theorem dX6_nearest_66 : decode cX6_nearest 66 = .ok (.lload 4, 2) := by decide +kernel
theorem dX6_nearest_68 : decode cX6_nearest 68 = .ok (.lconst 0, 1) := by decide +kernel
theorem dX6_nearest_69 : decode cX6_nearest 69 = .ok (.lcmp, 1) := by decide +kernel
theorem dX6_nearest_70 : decode cX6_nearest 70 = .ok (.ifCond .ne 8, 3) := by decide +kernel
theorem dX6_nearest_73 : decode cX6_nearest 73 = .ok (.dload_n 0, 1) := by decide +kernel
theorem dX6_nearest_74 : decode cX6_nearest 74 = .ok (.invokestatic 80, 3) := by decide +kernel
theorem dX6_nearest_77 : decode cX6_nearest 77 = .ok (.dreturn, 1) := by decide +kernel
theorem dX6_nearest_78 : decode cX6_nearest 78 = .ok (.dload_n 0, 1) := by decide +kernel
theorem dX6_nearest_79 : decode cX6_nearest 79 = .ok (.dconst 0, 1) := by decide +kernel
theorem dX6_nearest_80 : decode cX6_nearest 80 = .ok (.dcmp .g, 1) := by decide +kernel
theorem dX6_nearest_81 : decode cX6_nearest 81 = .ok (.ifCond .ge 10, 3) := by decide +kernel
theorem dX6_nearest_84 : decode cX6_nearest 84 = .ok (.lload 4, 2) := by decide +kernel
theorem dX6_nearest_86 : decode cX6_nearest 86 = .ok (.lneg, 1) := by decide +kernel
theorem dX6_nearest_87 : decode cX6_nearest 87 = .ok (.l2d, 1) := by decide +kernel
theorem dX6_nearest_88 : decode cX6_nearest 88 = .ok (.goto 6, 3) := by decide +kernel
theorem dX6_nearest_91 : decode cX6_nearest 91 = .ok (.lload 4, 2) := by decide +kernel
theorem dX6_nearest_93 : decode cX6_nearest 93 = .ok (.l2d, 1) := by decide +kernel
theorem dX6_nearest_94 : decode cX6_nearest 94 = .ok (.dreturn, 1) := by decide +kernel
theorem dX6_zeroLike_0 : decode cX6_zeroLike 0 = .ok (.dload_n 0, 1) := by decide +kernel
theorem dX6_zeroLike_1 : decode cX6_zeroLike 1 = .ok (.dconst 0, 1) := by decide +kernel
theorem dX6_zeroLike_2 : decode cX6_zeroLike 2 = .ok (.dmul, 1) := by decide +kernel
theorem dX6_zeroLike_3 : decode cX6_zeroLike 3 = .ok (.dreturn, 1) := by decide +kernel
theorem dX6_remainder_0 : decode cX6_remainder 0 = .ok (.dload_n 0, 1) := by decide +kernel
theorem dX6_remainder_1 : decode cX6_remainder 1 = .ok (.dconst 0, 1) := by decide +kernel
theorem dX6_remainder_2 : decode cX6_remainder 2 = .ok (.dcmp .g, 1) := by decide +kernel
theorem dX6_remainder_3 : decode cX6_remainder 3 = .ok (.ifCond .ge 8, 3) := by decide +kernel
theorem dX6_remainder_6 : decode cX6_remainder 6 = .ok (.dload_n 0, 1) := by decide +kernel
theorem dX6_remainder_7 : decode cX6_remainder 7 = .ok (.dneg, 1) := by decide +kernel
theorem dX6_remainder_8 : decode cX6_remainder 8 = .ok (.goto 4, 3) := by decide +kernel
theorem dX6_remainder_11 : decode cX6_remainder 11 = .ok (.dload_n 0, 1) := by decide +kernel
theorem dX6_remainder_12 : decode cX6_remainder 12 = .ok (.dstore 4, 2) := by decide +kernel
theorem dX6_remainder_14 : decode cX6_remainder 14 = .ok (.dload_n 2, 1) := by decide +kernel
theorem dX6_remainder_15 : decode cX6_remainder 15 = .ok (.dconst 0, 1) := by decide +kernel
theorem dX6_remainder_16 : decode cX6_remainder 16 = .ok (.dcmp .g, 1) := by decide +kernel
theorem dX6_remainder_17 : decode cX6_remainder 17 = .ok (.ifCond .ge 8, 3) := by decide +kernel
theorem dX6_remainder_20 : decode cX6_remainder 20 = .ok (.dload_n 2, 1) := by decide +kernel
theorem dX6_remainder_21 : decode cX6_remainder 21 = .ok (.dneg, 1) := by decide +kernel
theorem dX6_remainder_22 : decode cX6_remainder 22 = .ok (.goto 4, 3) := by decide +kernel
theorem dX6_remainder_25 : decode cX6_remainder 25 = .ok (.dload_n 2, 1) := by decide +kernel
theorem dX6_remainder_26 : decode cX6_remainder 26 = .ok (.dstore 6, 2) := by decide +kernel
theorem dX6_remainder_28 : decode cX6_remainder 28 = .ok (.dload 4, 2) := by decide +kernel
theorem dX6_remainder_30 : decode cX6_remainder 30 = .ok (.dload 6, 2) := by decide +kernel
theorem dX6_remainder_32 : decode cX6_remainder 32 = .ok (.dcmp .g, 1) := by decide +kernel
theorem dX6_remainder_33 : decode cX6_remainder 33 = .ok (.ifCond .ge 5, 3) := by decide +kernel
theorem dX6_remainder_36 : decode cX6_remainder 36 = .ok (.dload_n 0, 1) := by decide +kernel
theorem dX6_remainder_37 : decode cX6_remainder 37 = .ok (.dreturn, 1) := by decide +kernel
theorem dX6_remainder_38 : decode cX6_remainder 38 = .ok (.dload 4, 2) := by decide +kernel
theorem dX6_remainder_40 : decode cX6_remainder 40 = .ok (.iconst 0, 1) := by decide +kernel
theorem dX6_remainder_41 : decode cX6_remainder 41 = .ok (.invokestatic 83, 3) := by decide +kernel
theorem dX6_remainder_44 : decode cX6_remainder 44 = .ok (.lstore 8, 2) := by decide +kernel
theorem dX6_remainder_46 : decode cX6_remainder 46 = .ok (.dload 6, 2) := by decide +kernel
theorem dX6_remainder_48 : decode cX6_remainder 48 = .ok (.iconst 0, 1) := by decide +kernel
theorem dX6_remainder_49 : decode cX6_remainder 49 = .ok (.invokestatic 83, 3) := by decide +kernel
theorem dX6_remainder_52 : decode cX6_remainder 52 = .ok (.lstore 10, 2) := by decide +kernel
theorem dX6_remainder_54 : decode cX6_remainder 54 = .ok (.lload 10, 2) := by decide +kernel
theorem dX6_remainder_56 : decode cX6_remainder 56 = .ok (.invokestatic 89, 3) := by decide +kernel
theorem dX6_remainder_59 : decode cX6_remainder 59 = .ok (.lstore 12, 2) := by decide +kernel
theorem dX6_remainder_61 : decode cX6_remainder 61 = .ok (.lload 12, 2) := by decide +kernel
theorem dX6_remainder_63 : decode cX6_remainder 63 = .ok (.lconst 0, 1) := by decide +kernel
theorem dX6_remainder_64 : decode cX6_remainder 64 = .ok (.lcmp, 1) := by decide +kernel
theorem dX6_remainder_65 : decode cX6_remainder 65 = .ok (.ifCond .gt 5, 3) := by decide +kernel
theorem dX6_remainder_68 : decode cX6_remainder 68 = .ok (.dload_n 0, 1) := by decide +kernel
theorem dX6_remainder_69 : decode cX6_remainder 69 = .ok (.dreturn, 1) := by decide +kernel
theorem dX6_remainder_70 : decode cX6_remainder 70 = .ok (.lload 10, 2) := by decide +kernel
theorem dX6_remainder_72 : decode cX6_remainder 72 = .ok (.invokestatic 93, 3) := by decide +kernel
theorem dX6_remainder_75 : decode cX6_remainder 75 = .ok (.istore 14, 2) := by decide +kernel
theorem dX6_remainder_77 : decode cX6_remainder 77 = .ok (.lload 8, 2) := by decide +kernel
theorem dX6_remainder_79 : decode cX6_remainder 79 = .ok (.invokestatic 89, 3) := by decide +kernel
theorem dX6_remainder_82 : decode cX6_remainder 82 = .ok (.lload 12, 2) := by decide +kernel
theorem dX6_remainder_84 : decode cX6_remainder 84 = .ok (.lrem, 1) := by decide +kernel
theorem dX6_remainder_85 : decode cX6_remainder 85 = .ok (.lstore 15, 2) := by decide +kernel
theorem dX6_remainder_87 : decode cX6_remainder 87 = .ok (.lload 8, 2) := by decide +kernel
theorem dX6_remainder_89 : decode cX6_remainder 89 = .ok (.invokestatic 93, 3) := by decide +kernel
theorem dX6_remainder_92 : decode cX6_remainder 92 = .ok (.iload 14, 2) := by decide +kernel
theorem dX6_remainder_94 : decode cX6_remainder 94 = .ok (.isub, 1) := by decide +kernel
theorem dX6_remainder_95 : decode cX6_remainder 95 = .ok (.istore 17, 2) := by decide +kernel
theorem dX6_remainder_97 : decode cX6_remainder 97 = .ok (.iload 17, 2) := by decide +kernel
theorem dX6_remainder_99 : decode cX6_remainder 99 = .ok (.ifCond .le 24, 3) := by decide +kernel
theorem dX6_remainder_102 : decode cX6_remainder 102 = .ok (.lload 15, 2) := by decide +kernel
theorem dX6_remainder_104 : decode cX6_remainder 104 = .ok (.iload 17, 2) := by decide +kernel
theorem dX6_remainder_106 : decode cX6_remainder 106 = .ok (.bipush 10, 2) := by decide +kernel
theorem dX6_remainder_108 : decode cX6_remainder 108 = .ok (.invokestatic 97, 3) := by decide +kernel
theorem dX6_remainder_111 : decode cX6_remainder 111 = .ok (.lshl, 1) := by decide +kernel
theorem dX6_remainder_112 : decode cX6_remainder 112 = .ok (.lload 12, 2) := by decide +kernel
theorem dX6_remainder_114 : decode cX6_remainder 114 = .ok (.lrem, 1) := by decide +kernel
theorem dX6_remainder_115 : decode cX6_remainder 115 = .ok (.lstore 15, 2) := by decide +kernel
theorem dX6_remainder_117 : decode cX6_remainder 117 = .ok (.iinc 17 (-10), 3) := by decide +kernel
theorem dX6_remainder_120 : decode cX6_remainder 120 = .ok (.goto (-23), 3) := by decide +kernel
theorem dX6_remainder_123 : decode cX6_remainder 123 = .ok (.lload 15, 2) := by decide +kernel
theorem dX6_remainder_125 : decode cX6_remainder 125 = .ok (.l2d, 1) := by decide +kernel
theorem dX6_remainder_126 : decode cX6_remainder 126 = .ok (.iload 14, 2) := by decide +kernel
theorem dX6_remainder_128 : decode cX6_remainder 128 = .ok (.invokestatic 103, 3) := by decide +kernel
theorem dX6_remainder_131 : decode cX6_remainder 131 = .ok (.dmul, 1) := by decide +kernel
theorem dX6_remainder_132 : decode cX6_remainder 132 = .ok (.dstore 17, 2) := by decide +kernel
theorem dX6_remainder_134 : decode cX6_remainder 134 = .ok (.dload_n 0, 1) := by decide +kernel
theorem dX6_remainder_135 : decode cX6_remainder 135 = .ok (.dconst 0, 1) := by decide +kernel
theorem dX6_remainder_136 : decode cX6_remainder 136 = .ok (.dcmp .g, 1) := by decide +kernel
theorem dX6_remainder_137 : decode cX6_remainder 137 = .ok (.ifCond .ge 9, 3) := by decide +kernel
theorem dX6_remainder_140 : decode cX6_remainder 140 = .ok (.dload 17, 2) := by decide +kernel
theorem dX6_remainder_142 : decode cX6_remainder 142 = .ok (.dneg, 1) := by decide +kernel
theorem dX6_remainder_143 : decode cX6_remainder 143 = .ok (.goto 5, 3) := by decide +kernel
theorem dX6_remainder_146 : decode cX6_remainder 146 = .ok (.dload 17, 2) := by decide +kernel
theorem dX6_remainder_148 : decode cX6_remainder 148 = .ok (.dreturn, 1) := by decide +kernel
theorem dX7_init_0 : decode cX7_init 0 = .ok (.aload_n 0, 1) := by decide +kernel
theorem dX7_init_1 : decode cX7_init 1 = .ok (.aload_n 1, 1) := by decide +kernel
theorem dX7_init_2 : decode cX7_init 2 = .ok (.iload_n 2, 1) := by decide +kernel
theorem dX7_init_3 : decode cX7_init 3 = .ok (.invokespecial 1, 3) := by decide +kernel
theorem dX7_init_6 : decode cX7_init 6 = .ok (.aload_n 0, 1) := by decide +kernel
theorem dX7_init_7 : decode cX7_init 7 = .ok (.aload_n 3, 1) := by decide +kernel
theorem dX7_init_8 : decode cX7_init 8 = .ok (.putfield 7, 3) := by decide +kernel
theorem dX7_init_11 : decode cX7_init 11 = .ok (.aload_n 0, 1) := by decide +kernel
theorem dX7_init_12 : decode cX7_init 12 = .ok (.iload 4, 2) := by decide +kernel
theorem dX7_init_14 : decode cX7_init 14 = .ok (.putfield 13, 3) := by decide +kernel
theorem dX7_init_17 : decode cX7_init 17 = .ok (.aload_n 0, 1) := by decide +kernel
theorem dX7_init_18 : decode cX7_init 18 = .ok (.aload_n 3, 1) := by decide +kernel
theorem dX7_init_19 : decode cX7_init 19 = .ok (.iload 4, 2) := by decide +kernel
theorem dX7_init_21 : decode cX7_init 21 = .ok (.invokevirtual 17, 3) := by decide +kernel
theorem dX7_init_24 : decode cX7_init 24 = .ok (.putfield 23, 3) := by decide +kernel
theorem dX7_init_27 : decode cX7_init 27 = .ok (.aload_n 0, 1) := by decide +kernel
theorem dX7_init_28 : decode cX7_init 28 = .ok (.aload_n 3, 1) := by decide +kernel
theorem dX7_init_29 : decode cX7_init 29 = .ok (.iload 4, 2) := by decide +kernel
theorem dX7_init_31 : decode cX7_init 31 = .ok (.invokevirtual 27, 3) := by decide +kernel
theorem dX7_init_34 : decode cX7_init 34 = .ok (.putfield 31, 3) := by decide +kernel
theorem dX7_init_37 : decode cX7_init 37 = .ok (.return_, 1) := by decide +kernel
theorem dX7_takeBack_0 : decode cX7_takeBack 0 = .ok (.aload_n 0, 1) := by decide +kernel
theorem dX7_takeBack_1 : decode cX7_takeBack 1 = .ok (.getfield 31, 3) := by decide +kernel
theorem dX7_takeBack_4 : decode cX7_takeBack 4 = .ok (.ifCond .eq 17, 3) := by decide +kernel
theorem dX7_takeBack_7 : decode cX7_takeBack 7 = .ok (.aload_n 0, 1) := by decide +kernel
theorem dX7_takeBack_8 : decode cX7_takeBack 8 = .ok (.getfield 7, 3) := by decide +kernel
theorem dX7_takeBack_11 : decode cX7_takeBack 11 = .ok (.aload_n 0, 1) := by decide +kernel
theorem dX7_takeBack_12 : decode cX7_takeBack 12 = .ok (.getfield 13, 3) := by decide +kernel
theorem dX7_takeBack_15 : decode cX7_takeBack 15 = .ok (.invokevirtual 35, 3) := by decide +kernel
theorem dX7_takeBack_18 : decode cX7_takeBack 18 = .ok (.goto 18, 3) := by decide +kernel
theorem dX7_takeBack_21 : decode cX7_takeBack 21 = .ok (.aload_n 0, 1) := by decide +kernel
theorem dX7_takeBack_22 : decode cX7_takeBack 22 = .ok (.getfield 7, 3) := by decide +kernel
theorem dX7_takeBack_25 : decode cX7_takeBack 25 = .ok (.aload_n 0, 1) := by decide +kernel
theorem dX7_takeBack_26 : decode cX7_takeBack 26 = .ok (.getfield 13, 3) := by decide +kernel
theorem dX7_takeBack_29 : decode cX7_takeBack 29 = .ok (.aload_n 0, 1) := by decide +kernel
theorem dX7_takeBack_30 : decode cX7_takeBack 30 = .ok (.getfield 23, 3) := by decide +kernel
theorem dX7_takeBack_33 : decode cX7_takeBack 33 = .ok (.invokevirtual 39, 3) := by decide +kernel
theorem dX7_takeBack_36 : decode cX7_takeBack 36 = .ok (.return_, 1) := by decide +kernel
theorem dX8_init_0 : decode cX8_init 0 = .ok (.aload_n 0, 1) := by decide +kernel
theorem dX8_init_1 : decode cX8_init 1 = .ok (.invokespecial 1, 3) := by decide +kernel
theorem dX8_init_4 : decode cX8_init 4 = .ok (.aload_n 0, 1) := by decide +kernel
theorem dX8_init_5 : decode cX8_init 5 = .ok (.iload_n 1, 1) := by decide +kernel
theorem dX8_init_6 : decode cX8_init 6 = .ok (.newarray .double, 2) := by decide +kernel
theorem dX8_init_8 : decode cX8_init 8 = .ok (.putfield 7, 3) := by decide +kernel
theorem dX8_init_11 : decode cX8_init 11 = .ok (.aload_n 0, 1) := by decide +kernel
theorem dX8_init_12 : decode cX8_init 12 = .ok (.iload_n 1, 1) := by decide +kernel
theorem dX8_init_13 : decode cX8_init 13 = .ok (.newarray .boolean, 2) := by decide +kernel
theorem dX8_init_15 : decode cX8_init 15 = .ok (.putfield 13, 3) := by decide +kernel
theorem dX8_init_18 : decode cX8_init 18 = .ok (.iconst 0, 1) := by decide +kernel
theorem dX8_init_19 : decode cX8_init 19 = .ok (.istore_n 2, 1) := by decide +kernel
theorem dX8_init_20 : decode cX8_init 20 = .ok (.iload_n 2, 1) := by decide +kernel
theorem dX8_init_21 : decode cX8_init 21 = .ok (.iload_n 1, 1) := by decide +kernel
theorem dX8_init_22 : decode cX8_init 22 = .ok (.if_icmp .ge 16, 3) := by decide +kernel
theorem dX8_init_25 : decode cX8_init 25 = .ok (.aload_n 0, 1) := by decide +kernel
theorem dX8_init_26 : decode cX8_init 26 = .ok (.getfield 13, 3) := by decide +kernel
theorem dX8_init_29 : decode cX8_init 29 = .ok (.iload_n 2, 1) := by decide +kernel
theorem dX8_init_30 : decode cX8_init 30 = .ok (.iconst 1, 1) := by decide +kernel
theorem dX8_init_31 : decode cX8_init 31 = .ok (.bastore, 1) := by decide +kernel
theorem dX8_init_32 : decode cX8_init 32 = .ok (.iinc 2 1, 3) := by decide +kernel
theorem dX8_init_35 : decode cX8_init 35 = .ok (.goto (-15), 3) := by decide +kernel
theorem dX8_init_38 : decode cX8_init 38 = .ok (.return_, 1) := by decide +kernel
theorem dX8_blankAt_0 : decode cX8_blankAt 0 = .ok (.aload_n 0, 1) := by decide +kernel
theorem dX8_blankAt_1 : decode cX8_blankAt 1 = .ok (.getfield 13, 3) := by decide +kernel
theorem dX8_blankAt_4 : decode cX8_blankAt 4 = .ok (.iload_n 1, 1) := by decide +kernel
theorem dX8_blankAt_5 : decode cX8_blankAt 5 = .ok (.baload, 1) := by decide +kernel
theorem dX8_blankAt_6 : decode cX8_blankAt 6 = .ok (.ireturn, 1) := by decide +kernel
theorem dX8_at_0 : decode cX8_at 0 = .ok (.aload_n 0, 1) := by decide +kernel
theorem dX8_at_1 : decode cX8_at 1 = .ok (.getfield 7, 3) := by decide +kernel
theorem dX8_at_4 : decode cX8_at 4 = .ok (.iload_n 1, 1) := by decide +kernel
theorem dX8_at_5 : decode cX8_at 5 = .ok (.daload, 1) := by decide +kernel
theorem dX8_at_6 : decode cX8_at 6 = .ok (.dreturn, 1) := by decide +kernel
theorem dX8_put_0 : decode cX8_put 0 = .ok (.aload_n 0, 1) := by decide +kernel
theorem dX8_put_1 : decode cX8_put 1 = .ok (.getfield 7, 3) := by decide +kernel
theorem dX8_put_4 : decode cX8_put 4 = .ok (.iload_n 1, 1) := by decide +kernel
theorem dX8_put_5 : decode cX8_put 5 = .ok (.dload_n 2, 1) := by decide +kernel
theorem dX8_put_6 : decode cX8_put 6 = .ok (.dastore, 1) := by decide +kernel
theorem dX8_put_7 : decode cX8_put 7 = .ok (.aload_n 0, 1) := by decide +kernel
theorem dX8_put_8 : decode cX8_put 8 = .ok (.getfield 13, 3) := by decide +kernel
theorem dX8_put_11 : decode cX8_put 11 = .ok (.iload_n 1, 1) := by decide +kernel
theorem dX8_put_12 : decode cX8_put 12 = .ok (.iconst 0, 1) := by decide +kernel
theorem dX8_put_13 : decode cX8_put 13 = .ok (.bastore, 1) := by decide +kernel
theorem dX8_put_14 : decode cX8_put 14 = .ok (.return_, 1) := by decide +kernel
theorem dX8_clear_0 : decode cX8_clear 0 = .ok (.aload_n 0, 1) := by decide +kernel
theorem dX8_clear_1 : decode cX8_clear 1 = .ok (.getfield 7, 3) := by decide +kernel
theorem dX8_clear_4 : decode cX8_clear 4 = .ok (.iload_n 1, 1) := by decide +kernel
theorem dX8_clear_5 : decode cX8_clear 5 = .ok (.dconst 0, 1) := by decide +kernel
theorem dX8_clear_6 : decode cX8_clear 6 = .ok (.dastore, 1) := by decide +kernel
theorem dX8_clear_7 : decode cX8_clear 7 = .ok (.aload_n 0, 1) := by decide +kernel
theorem dX8_clear_8 : decode cX8_clear 8 = .ok (.getfield 13, 3) := by decide +kernel
theorem dX8_clear_11 : decode cX8_clear 11 = .ok (.iload_n 1, 1) := by decide +kernel
theorem dX8_clear_12 : decode cX8_clear 12 = .ok (.iconst 1, 1) := by decide +kernel
theorem dX8_clear_13 : decode cX8_clear 13 = .ok (.bastore, 1) := by decide +kernel
theorem dX8_clear_14 : decode cX8_clear 14 = .ok (.return_, 1) := by decide +kernel
theorem dX8_putSpecial_0 : decode cX8_putSpecial 0 = .ok (.iload_n 2, 1) := by decide +kernel
theorem dX8_putSpecial_1 : decode cX8_putSpecial 1 = .ok (.ifCond .ne 11, 3) := by decide +kernel
theorem dX8_putSpecial_4 : decode cX8_putSpecial 4 = .ok (.aload_n 0, 1) := by decide +kernel
theorem dX8_putSpecial_5 : decode cX8_putSpecial 5 = .ok (.iload_n 1, 1) := by decide +kernel
theorem dX8_putSpecial_6 : decode cX8_putSpecial 6 = .ok (.invokevirtual 17, 3) := by decide +kernel
theorem dX8_putSpecial_9 : decode cX8_putSpecial 9 = .ok (.goto 13, 3) := by decide +kernel
theorem dX8_putSpecial_12 : decode cX8_putSpecial 12 = .ok (.aload_n 0, 1) := by decide +kernel
theorem dX8_putSpecial_13 : decode cX8_putSpecial 13 = .ok (.iload_n 1, 1) := by decide +kernel
theorem dX8_putSpecial_14 : decode cX8_putSpecial 14 = .ok (.iload_n 2, 1) := by decide +kernel
theorem dX8_putSpecial_15 : decode cX8_putSpecial 15 = .ok (.iload_n 3, 1) := by decide +kernel
theorem dX8_putSpecial_16 : decode cX8_putSpecial 16 = .ok (.invokestatic 21, 3) := by decide +kernel
theorem dX8_putSpecial_19 : decode cX8_putSpecial 19 = .ok (.invokevirtual 27, 3) := by decide +kernel
theorem dX8_putSpecial_22 : decode cX8_putSpecial 22 = .ok (.return_, 1) := by decide +kernel
theorem dX8_putBrought_0 : decode cX8_putBrought 0 = .ok (.aload_n 0, 1) := by decide +kernel
theorem dX8_putBrought_1 : decode cX8_putBrought 1 = .ok (.getfield 7, 3) := by decide +kernel
theorem dX8_putBrought_4 : decode cX8_putBrought 4 = .ok (.iload_n 1, 1) := by decide +kernel
theorem dX8_putBrought_5 : decode cX8_putBrought 5 = .ok (.aload_n 2, 1) := by decide +kernel
theorem dX8_putBrought_6 : decode cX8_putBrought 6 = .ok (.getfield 7, 3) := by decide +kernel
theorem dX8_putBrought_9 : decode cX8_putBrought 9 = .ok (.iload_n 3, 1) := by decide +kernel
theorem dX8_putBrought_10 : decode cX8_putBrought 10 = .ok (.daload, 1) := by decide +kernel
theorem dX8_putBrought_11 : decode cX8_putBrought 11 = .ok (.iload 4, 2) := by decide +kernel
theorem dX8_putBrought_13 : decode cX8_putBrought 13 = .ok (.invokestatic 31, 3) := by decide +kernel
theorem dX8_putBrought_16 : decode cX8_putBrought 16 = .ok (.dastore, 1) := by decide +kernel
theorem dX8_putBrought_17 : decode cX8_putBrought 17 = .ok (.aload_n 0, 1) := by decide +kernel
theorem dX8_putBrought_18 : decode cX8_putBrought 18 = .ok (.getfield 13, 3) := by decide +kernel
theorem dX8_putBrought_21 : decode cX8_putBrought 21 = .ok (.iload_n 1, 1) := by decide +kernel
theorem dX8_putBrought_22 : decode cX8_putBrought 22 = .ok (.aload_n 2, 1) := by decide +kernel
theorem dX8_putBrought_23 : decode cX8_putBrought 23 = .ok (.getfield 13, 3) := by decide +kernel
theorem dX8_putBrought_26 : decode cX8_putBrought 26 = .ok (.iload_n 3, 1) := by decide +kernel
theorem dX8_putBrought_27 : decode cX8_putBrought 27 = .ok (.baload, 1) := by decide +kernel
theorem dX8_putBrought_28 : decode cX8_putBrought 28 = .ok (.bastore, 1) := by decide +kernel
theorem dX8_putBrought_29 : decode cX8_putBrought 29 = .ok (.return_, 1) := by decide +kernel
theorem dX8_countBlanks_0 : decode cX8_countBlanks 0 = .ok (.iconst 0, 1) := by decide +kernel
theorem dX8_countBlanks_1 : decode cX8_countBlanks 1 = .ok (.istore_n 1, 1) := by decide +kernel
theorem dX8_countBlanks_2 : decode cX8_countBlanks 2 = .ok (.aload_n 0, 1) := by decide +kernel
theorem dX8_countBlanks_3 : decode cX8_countBlanks 3 = .ok (.getfield 13, 3) := by decide +kernel
theorem dX8_countBlanks_6 : decode cX8_countBlanks 6 = .ok (.astore_n 2, 1) := by decide +kernel
theorem dX8_countBlanks_7 : decode cX8_countBlanks 7 = .ok (.aload_n 2, 1) := by decide +kernel
theorem dX8_countBlanks_8 : decode cX8_countBlanks 8 = .ok (.arraylength, 1) := by decide +kernel
theorem dX8_countBlanks_9 : decode cX8_countBlanks 9 = .ok (.istore_n 3, 1) := by decide +kernel
theorem dX8_countBlanks_10 : decode cX8_countBlanks 10 = .ok (.iconst 0, 1) := by decide +kernel
theorem dX8_countBlanks_11 : decode cX8_countBlanks 11 = .ok (.istore 4, 2) := by decide +kernel
theorem dX8_countBlanks_13 : decode cX8_countBlanks 13 = .ok (.iload 4, 2) := by decide +kernel
theorem dX8_countBlanks_15 : decode cX8_countBlanks 15 = .ok (.iload_n 3, 1) := by decide +kernel
theorem dX8_countBlanks_16 : decode cX8_countBlanks 16 = .ok (.if_icmp .ge 28, 3) := by decide +kernel
theorem dX8_countBlanks_19 : decode cX8_countBlanks 19 = .ok (.aload_n 2, 1) := by decide +kernel
theorem dX8_countBlanks_20 : decode cX8_countBlanks 20 = .ok (.iload 4, 2) := by decide +kernel
theorem dX8_countBlanks_22 : decode cX8_countBlanks 22 = .ok (.baload, 1) := by decide +kernel
theorem dX8_countBlanks_23 : decode cX8_countBlanks 23 = .ok (.istore 5, 2) := by decide +kernel
theorem dX8_countBlanks_25 : decode cX8_countBlanks 25 = .ok (.iload_n 1, 1) := by decide +kernel
theorem dX8_countBlanks_26 : decode cX8_countBlanks 26 = .ok (.iload 5, 2) := by decide +kernel
theorem dX8_countBlanks_28 : decode cX8_countBlanks 28 = .ok (.ifCond .eq 7, 3) := by decide +kernel
theorem dX8_countBlanks_31 : decode cX8_countBlanks 31 = .ok (.iconst 1, 1) := by decide +kernel
theorem dX8_countBlanks_32 : decode cX8_countBlanks 32 = .ok (.goto 4, 3) := by decide +kernel
theorem dX8_countBlanks_35 : decode cX8_countBlanks 35 = .ok (.iconst 0, 1) := by decide +kernel
theorem dX8_countBlanks_36 : decode cX8_countBlanks 36 = .ok (.iadd, 1) := by decide +kernel
theorem dX8_countBlanks_37 : decode cX8_countBlanks 37 = .ok (.istore_n 1, 1) := by decide +kernel
theorem dX8_countBlanks_38 : decode cX8_countBlanks 38 = .ok (.iinc 4 1, 3) := by decide +kernel
theorem dX8_countBlanks_41 : decode cX8_countBlanks 41 = .ok (.goto (-28), 3) := by decide +kernel
theorem dX8_countBlanks_44 : decode cX8_countBlanks 44 = .ok (.iload_n 1, 1) := by decide +kernel
theorem dX8_countBlanks_45 : decode cX8_countBlanks 45 = .ok (.ireturn, 1) := by decide +kernel
theorem dX9_init_0 : decode cX9_init 0 = .ok (.aload_n 0, 1) := by decide +kernel
theorem dX9_init_1 : decode cX9_init 1 = .ok (.invokespecial 3, 3) := by decide +kernel
theorem dX9_init_4 : decode cX9_init 4 = .ok (.aload_n 0, 1) := by decide +kernel
theorem dX9_init_5 : decode cX9_init 5 = .ok (.new 9, 3) := by decide +kernel
theorem dX9_init_8 : decode cX9_init 8 = .ok (.dup, 1) := by decide +kernel
theorem dX9_init_9 : decode cX9_init 9 = .ok (.bipush 16, 2) := by decide +kernel
theorem dX9_init_11 : decode cX9_init 11 = .ok (.invokespecial 11, 3) := by decide +kernel
theorem dX9_init_14 : decode cX9_init 14 = .ok (.putfield 14, 3) := by decide +kernel
theorem dX9_init_17 : decode cX9_init 17 = .ok (.aload_n 0, 1) := by decide +kernel
theorem dX9_init_18 : decode cX9_init 18 = .ok (.new 9, 3) := by decide +kernel
theorem dX9_init_21 : decode cX9_init 21 = .ok (.dup, 1) := by decide +kernel
theorem dX9_init_22 : decode cX9_init 22 = .ok (.bipush 16, 2) := by decide +kernel
theorem dX9_init_24 : decode cX9_init 24 = .ok (.invokespecial 11, 3) := by decide +kernel
theorem dX9_init_27 : decode cX9_init 27 = .ok (.putfield 20, 3) := by decide +kernel
theorem dX9_init_30 : decode cX9_init 30 = .ok (.return_, 1) := by decide +kernel
theorem dX9_reckon_0 : decode cX9_reckon 0 = .ok (.iconst 0, 1) := by decide +kernel
theorem dX9_reckon_1 : decode cX9_reckon 1 = .ok (.istore_n 2, 1) := by decide +kernel
theorem dX9_reckon_2 : decode cX9_reckon 2 = .ok (.iload_n 2, 1) := by decide +kernel
theorem dX9_reckon_3 : decode cX9_reckon 3 = .ok (.bipush 16, 2) := by decide +kernel
theorem dX9_reckon_5 : decode cX9_reckon 5 = .ok (.if_icmp .ge 68, 3) := by decide +kernel
theorem dX9_reckon_8 : decode cX9_reckon 8 = .ok (.aload_n 1, 1) := by decide +kernel
theorem dX9_reckon_9 : decode cX9_reckon 9 = .ok (.getfield 23, 3) := by decide +kernel
theorem dX9_reckon_12 : decode cX9_reckon 12 = .ok (.iload_n 2, 1) := by decide +kernel
theorem dX9_reckon_13 : decode cX9_reckon 13 = .ok (.invokevirtual 28, 3) := by decide +kernel
theorem dX9_reckon_16 : decode cX9_reckon 16 = .ok (.aload_n 1, 1) := by decide +kernel
theorem dX9_reckon_17 : decode cX9_reckon 17 = .ok (.getfield 31, 3) := by decide +kernel
theorem dX9_reckon_20 : decode cX9_reckon 20 = .ok (.bipush 8, 2) := by decide +kernel
theorem dX9_reckon_22 : decode cX9_reckon 22 = .ok (.if_icmp .gt 12, 3) := by decide +kernel
theorem dX9_reckon_25 : decode cX9_reckon 25 = .ok (.aload_n 0, 1) := by decide +kernel
theorem dX9_reckon_26 : decode cX9_reckon 26 = .ok (.aload_n 1, 1) := by decide +kernel
theorem dX9_reckon_27 : decode cX9_reckon 27 = .ok (.iload_n 2, 1) := by decide +kernel
theorem dX9_reckon_28 : decode cX9_reckon 28 = .ok (.invokevirtual 35, 3) := by decide +kernel
theorem dX9_reckon_31 : decode cX9_reckon 31 = .ok (.goto 36, 3) := by decide +kernel
theorem dX9_reckon_34 : decode cX9_reckon 34 = .ok (.aload_n 1, 1) := by decide +kernel
theorem dX9_reckon_35 : decode cX9_reckon 35 = .ok (.getfield 31, 3) := by decide +kernel
theorem dX9_reckon_38 : decode cX9_reckon 38 = .ok (.bipush 16, 2) := by decide +kernel
theorem dX9_reckon_40 : decode cX9_reckon 40 = .ok (.if_icmp .le 12, 3) := by decide +kernel
theorem dX9_reckon_43 : decode cX9_reckon 43 = .ok (.aload_n 1, 1) := by decide +kernel
theorem dX9_reckon_44 : decode cX9_reckon 44 = .ok (.getfield 31, 3) := by decide +kernel
theorem dX9_reckon_47 : decode cX9_reckon 47 = .ok (.bipush 26, 2) := by decide +kernel
theorem dX9_reckon_49 : decode cX9_reckon 49 = .ok (.if_icmp .ne 12, 3) := by decide +kernel
theorem dX9_reckon_52 : decode cX9_reckon 52 = .ok (.aload_n 0, 1) := by decide +kernel
theorem dX9_reckon_53 : decode cX9_reckon 53 = .ok (.aload_n 1, 1) := by decide +kernel
theorem dX9_reckon_54 : decode cX9_reckon 54 = .ok (.iload_n 2, 1) := by decide +kernel
theorem dX9_reckon_55 : decode cX9_reckon 55 = .ok (.invokevirtual 39, 3) := by decide +kernel
theorem dX9_reckon_58 : decode cX9_reckon 58 = .ok (.goto 9, 3) := by decide +kernel
theorem dX9_reckon_61 : decode cX9_reckon 61 = .ok (.aload_n 0, 1) := by decide +kernel
theorem dX9_reckon_62 : decode cX9_reckon 62 = .ok (.aload_n 1, 1) := by decide +kernel
theorem dX9_reckon_63 : decode cX9_reckon 63 = .ok (.iload_n 2, 1) := by decide +kernel
theorem dX9_reckon_64 : decode cX9_reckon 64 = .ok (.invokevirtual 42, 3) := by decide +kernel
theorem dX9_reckon_67 : decode cX9_reckon 67 = .ok (.iinc 2 1, 3) := by decide +kernel
theorem dX9_reckon_70 : decode cX9_reckon 70 = .ok (.goto (-68), 3) := by decide +kernel
theorem dX9_reckon_73 : decode cX9_reckon 73 = .ok (.return_, 1) := by decide +kernel
theorem dX9_fromX_0 : decode cX9_fromX 0 = .ok (.aload_n 0, 1) := by decide +kernel
theorem dX9_fromX_1 : decode cX9_fromX 1 = .ok (.getfield 14, 3) := by decide +kernel
theorem dX9_fromX_4 : decode cX9_fromX 4 = .ok (.iload_n 2, 1) := by decide +kernel
theorem dX9_fromX_5 : decode cX9_fromX 5 = .ok (.invokevirtual 45, 3) := by decide +kernel
theorem dX9_fromX_8 : decode cX9_fromX 8 = .ok (.ifCond .ne 30, 3) := by decide +kernel
theorem dX9_fromX_11 : decode cX9_fromX 11 = .ok (.aload_n 1, 1) := by decide +kernel
theorem dX9_fromX_12 : decode cX9_fromX 12 = .ok (.getfield 23, 3) := by decide +kernel
theorem dX9_fromX_15 : decode cX9_fromX 15 = .ok (.iload_n 2, 1) := by decide +kernel
theorem dX9_fromX_16 : decode cX9_fromX 16 = .ok (.aload_n 1, 1) := by decide +kernel
theorem dX9_fromX_17 : decode cX9_fromX 17 = .ok (.getfield 31, 3) := by decide +kernel
theorem dX9_fromX_20 : decode cX9_fromX 20 = .ok (.aload_n 0, 1) := by decide +kernel
theorem dX9_fromX_21 : decode cX9_fromX 21 = .ok (.getfield 14, 3) := by decide +kernel
theorem dX9_fromX_24 : decode cX9_fromX 24 = .ok (.iload_n 2, 1) := by decide +kernel
theorem dX9_fromX_25 : decode cX9_fromX 25 = .ok (.invokevirtual 49, 3) := by decide +kernel
theorem dX9_fromX_28 : decode cX9_fromX 28 = .ok (.aload_n 1, 1) := by decide +kernel
theorem dX9_fromX_29 : decode cX9_fromX 29 = .ok (.getfield 53, 3) := by decide +kernel
theorem dX9_fromX_32 : decode cX9_fromX 32 = .ok (.invokestatic 57, 3) := by decide +kernel
theorem dX9_fromX_35 : decode cX9_fromX 35 = .ok (.invokevirtual 63, 3) := by decide +kernel
theorem dX9_fromX_38 : decode cX9_fromX 38 = .ok (.return_, 1) := by decide +kernel
theorem dX9_fromBoth_0 : decode cX9_fromBoth 0 = .ok (.aload_n 0, 1) := by decide +kernel
theorem dX9_fromBoth_1 : decode cX9_fromBoth 1 = .ok (.getfield 14, 3) := by decide +kernel
theorem dX9_fromBoth_4 : decode cX9_fromBoth 4 = .ok (.iload_n 2, 1) := by decide +kernel
theorem dX9_fromBoth_5 : decode cX9_fromBoth 5 = .ok (.invokevirtual 45, 3) := by decide +kernel
theorem dX9_fromBoth_8 : decode cX9_fromBoth 8 = .ok (.ifCond .ne 14, 3) := by decide +kernel
theorem dX9_fromBoth_11 : decode cX9_fromBoth 11 = .ok (.aload_n 0, 1) := by decide +kernel
theorem dX9_fromBoth_12 : decode cX9_fromBoth 12 = .ok (.getfield 20, 3) := by decide +kernel
theorem dX9_fromBoth_15 : decode cX9_fromBoth 15 = .ok (.iload_n 2, 1) := by decide +kernel
theorem dX9_fromBoth_16 : decode cX9_fromBoth 16 = .ok (.invokevirtual 45, 3) := by decide +kernel
theorem dX9_fromBoth_19 : decode cX9_fromBoth 19 = .ok (.ifCond .eq 4, 3) := by decide +kernel
theorem dX9_fromBoth_22 : decode cX9_fromBoth 22 = .ok (.return_, 1) := by decide +kernel
theorem dX9_fromBoth_23 : decode cX9_fromBoth 23 = .ok (.aload_n 0, 1) := by decide +kernel
theorem dX9_fromBoth_24 : decode cX9_fromBoth 24 = .ok (.getfield 14, 3) := by decide +kernel
theorem dX9_fromBoth_27 : decode cX9_fromBoth 27 = .ok (.iload_n 2, 1) := by decide +kernel
theorem dX9_fromBoth_28 : decode cX9_fromBoth 28 = .ok (.invokevirtual 49, 3) := by decide +kernel
theorem dX9_fromBoth_31 : decode cX9_fromBoth 31 = .ok (.dstore_n 3, 1) := by decide +kernel
theorem dX9_fromBoth_32 : decode cX9_fromBoth 32 = .ok (.aload_n 0, 1) := by decide +kernel
theorem dX9_fromBoth_33 : decode cX9_fromBoth 33 = .ok (.getfield 20, 3) := by decide +kernel
theorem dX9_fromBoth_36 : decode cX9_fromBoth 36 = .ok (.iload_n 2, 1) := by decide +kernel
theorem dX9_fromBoth_37 : decode cX9_fromBoth 37 = .ok (.invokevirtual 49, 3) := by decide +kernel
theorem dX9_fromBoth_40 : decode cX9_fromBoth 40 = .ok (.dstore 5, 2) := by decide +kernel
theorem dX9_fromBoth_42 : decode cX9_fromBoth 42 = .ok (.aload_n 1, 1) := by decide +kernel
theorem dX9_fromBoth_43 : decode cX9_fromBoth 43 = .ok (.getfield 31, 3) := by decide +kernel
theorem dX9_fromBoth_46 : decode cX9_fromBoth 46 = .ok (.dload_n 3, 1) := by decide +kernel
theorem dX9_fromBoth_47 : decode cX9_fromBoth 47 = .ok (.dload 5, 2) := by decide +kernel
theorem dX9_fromBoth_49 : decode cX9_fromBoth 49 = .ok (.invokestatic 67, 3) := by decide +kernel
theorem dX9_fromBoth_52 : decode cX9_fromBoth 52 = .ok (.ifCond .ne 25, 3) := by decide +kernel
theorem dX9_fromBoth_55 : decode cX9_fromBoth 55 = .ok (.aload_n 1, 1) := by decide +kernel
theorem dX9_fromBoth_56 : decode cX9_fromBoth 56 = .ok (.getfield 23, 3) := by decide +kernel
theorem dX9_fromBoth_59 : decode cX9_fromBoth 59 = .ok (.iload_n 2, 1) := by decide +kernel
theorem dX9_fromBoth_60 : decode cX9_fromBoth 60 = .ok (.aload_n 1, 1) := by decide +kernel
theorem dX9_fromBoth_61 : decode cX9_fromBoth 61 = .ok (.getfield 31, 3) := by decide +kernel
theorem dX9_fromBoth_64 : decode cX9_fromBoth 64 = .ok (.dload_n 3, 1) := by decide +kernel
theorem dX9_fromBoth_65 : decode cX9_fromBoth 65 = .ok (.dload 5, 2) := by decide +kernel
theorem dX9_fromBoth_67 : decode cX9_fromBoth 67 = .ok (.aload_n 1, 1) := by decide +kernel
theorem dX9_fromBoth_68 : decode cX9_fromBoth 68 = .ok (.getfield 53, 3) := by decide +kernel
theorem dX9_fromBoth_71 : decode cX9_fromBoth 71 = .ok (.invokestatic 71, 3) := by decide +kernel
theorem dX9_fromBoth_74 : decode cX9_fromBoth 74 = .ok (.invokevirtual 63, 3) := by decide +kernel
theorem dX9_fromBoth_77 : decode cX9_fromBoth 77 = .ok (.return_, 1) := by decide +kernel
theorem dX9_fromRow_0 : decode cX9_fromRow 0 = .ok (.aload_n 1, 1) := by decide +kernel
theorem dX9_fromRow_1 : decode cX9_fromRow 1 = .ok (.getfield 23, 3) := by decide +kernel
theorem dX9_fromRow_4 : decode cX9_fromRow 4 = .ok (.astore_n 3, 1) := by decide +kernel
theorem dX9_fromRow_5 : decode cX9_fromRow 5 = .ok (.aload_n 1, 1) := by decide +kernel
theorem dX9_fromRow_6 : decode cX9_fromRow 6 = .ok (.getfield 31, 3) := by decide +kernel
theorem dX9_fromRow_9 : decode cX9_fromRow 9 = .ok (.tableswitch 152 17 24 #[47, 60, 92, 101, 111, 121, 130, 139], 47) := by decide +kernel
theorem dX9_fromRow_56 : decode cX9_fromRow 56 = .ok (.aload_n 0, 1) := by decide +kernel
theorem dX9_fromRow_57 : decode cX9_fromRow 57 = .ok (.aload_n 3, 1) := by decide +kernel
theorem dX9_fromRow_58 : decode cX9_fromRow 58 = .ok (.iload_n 2, 1) := by decide +kernel
theorem dX9_fromRow_59 : decode cX9_fromRow 59 = .ok (.aload_n 1, 1) := by decide +kernel
theorem dX9_fromRow_60 : decode cX9_fromRow 60 = .ok (.getfield 75, 3) := by decide +kernel
theorem dX9_fromRow_63 : decode cX9_fromRow 63 = .ok (.invokevirtual 78, 3) := by decide +kernel
theorem dX9_fromRow_66 : decode cX9_fromRow 66 = .ok (.goto 105, 3) := by decide +kernel
theorem dX9_fromRow_69 : decode cX9_fromRow 69 = .ok (.aload_n 3, 1) := by decide +kernel
theorem dX9_fromRow_70 : decode cX9_fromRow 70 = .ok (.iload_n 2, 1) := by decide +kernel
theorem dX9_fromRow_71 : decode cX9_fromRow 71 = .ok (.aload_n 0, 1) := by decide +kernel
theorem dX9_fromRow_72 : decode cX9_fromRow 72 = .ok (.getfield 14, 3) := by decide +kernel
theorem dX9_fromRow_75 : decode cX9_fromRow 75 = .ok (.iload_n 2, 1) := by decide +kernel
theorem dX9_fromRow_76 : decode cX9_fromRow 76 = .ok (.invokevirtual 45, 3) := by decide +kernel
theorem dX9_fromRow_79 : decode cX9_fromRow 79 = .ok (.ifCond .eq 10, 3) := by decide +kernel
theorem dX9_fromRow_82 : decode cX9_fromRow 82 = .ok (.aload_n 0, 1) := by decide +kernel
theorem dX9_fromRow_83 : decode cX9_fromRow 83 = .ok (.getfield 20, 3) := by decide +kernel
theorem dX9_fromRow_86 : decode cX9_fromRow 86 = .ok (.goto 7, 3) := by decide +kernel
theorem dX9_fromRow_89 : decode cX9_fromRow 89 = .ok (.aload_n 0, 1) := by decide +kernel
theorem dX9_fromRow_90 : decode cX9_fromRow 90 = .ok (.getfield 14, 3) := by decide +kernel
theorem dX9_fromRow_93 : decode cX9_fromRow 93 = .ok (.iload_n 2, 1) := by decide +kernel
theorem dX9_fromRow_94 : decode cX9_fromRow 94 = .ok (.iconst 0, 1) := by decide +kernel
theorem dX9_fromRow_95 : decode cX9_fromRow 95 = .ok (.invokevirtual 82, 3) := by decide +kernel
theorem dX9_fromRow_98 : decode cX9_fromRow 98 = .ok (.goto 73, 3) := by decide +kernel
theorem dX9_fromRow_101 : decode cX9_fromRow 101 = .ok (.aload_n 0, 1) := by decide +kernel
theorem dX9_fromRow_102 : decode cX9_fromRow 102 = .ok (.aload_n 3, 1) := by decide +kernel
theorem dX9_fromRow_103 : decode cX9_fromRow 103 = .ok (.iload_n 2, 1) := by decide +kernel
theorem dX9_fromRow_104 : decode cX9_fromRow 104 = .ok (.invokevirtual 86, 3) := by decide +kernel
theorem dX9_fromRow_107 : decode cX9_fromRow 107 = .ok (.goto 64, 3) := by decide +kernel
theorem dX9_fromRow_110 : decode cX9_fromRow 110 = .ok (.aload_n 0, 1) := by decide +kernel
theorem dX9_fromRow_111 : decode cX9_fromRow 111 = .ok (.aload_n 3, 1) := by decide +kernel
theorem dX9_fromRow_112 : decode cX9_fromRow 112 = .ok (.iload_n 2, 1) := by decide +kernel
theorem dX9_fromRow_113 : decode cX9_fromRow 113 = .ok (.iconst 1, 1) := by decide +kernel
theorem dX9_fromRow_114 : decode cX9_fromRow 114 = .ok (.invokevirtual 90, 3) := by decide +kernel
theorem dX9_fromRow_117 : decode cX9_fromRow 117 = .ok (.goto 54, 3) := by decide +kernel
theorem dX9_fromRow_120 : decode cX9_fromRow 120 = .ok (.aload_n 0, 1) := by decide +kernel
theorem dX9_fromRow_121 : decode cX9_fromRow 121 = .ok (.aload_n 3, 1) := by decide +kernel
theorem dX9_fromRow_122 : decode cX9_fromRow 122 = .ok (.iload_n 2, 1) := by decide +kernel
theorem dX9_fromRow_123 : decode cX9_fromRow 123 = .ok (.iconst 0, 1) := by decide +kernel
theorem dX9_fromRow_124 : decode cX9_fromRow 124 = .ok (.invokevirtual 90, 3) := by decide +kernel
theorem dX9_fromRow_127 : decode cX9_fromRow 127 = .ok (.goto 44, 3) := by decide +kernel
theorem dX9_fromRow_130 : decode cX9_fromRow 130 = .ok (.aload_n 0, 1) := by decide +kernel
theorem dX9_fromRow_131 : decode cX9_fromRow 131 = .ok (.aload_n 3, 1) := by decide +kernel
theorem dX9_fromRow_132 : decode cX9_fromRow 132 = .ok (.iload_n 2, 1) := by decide +kernel
theorem dX9_fromRow_133 : decode cX9_fromRow 133 = .ok (.invokevirtual 94, 3) := by decide +kernel
theorem dX9_fromRow_136 : decode cX9_fromRow 136 = .ok (.goto 35, 3) := by decide +kernel
theorem dX9_fromRow_139 : decode cX9_fromRow 139 = .ok (.aload_n 0, 1) := by decide +kernel
theorem dX9_fromRow_140 : decode cX9_fromRow 140 = .ok (.aload_n 3, 1) := by decide +kernel
theorem dX9_fromRow_141 : decode cX9_fromRow 141 = .ok (.iload_n 2, 1) := by decide +kernel
theorem dX9_fromRow_142 : decode cX9_fromRow 142 = .ok (.invokevirtual 97, 3) := by decide +kernel
theorem dX9_fromRow_145 : decode cX9_fromRow 145 = .ok (.goto 26, 3) := by decide +kernel
theorem dX9_fromRow_148 : decode cX9_fromRow 148 = .ok (.aload_n 0, 1) := by decide +kernel
theorem dX9_fromRow_149 : decode cX9_fromRow 149 = .ok (.aload_n 3, 1) := by decide +kernel
theorem dX9_fromRow_150 : decode cX9_fromRow 150 = .ok (.iload_n 2, 1) := by decide +kernel
theorem dX9_fromRow_151 : decode cX9_fromRow 151 = .ok (.aload_n 1, 1) := by decide +kernel
theorem dX9_fromRow_152 : decode cX9_fromRow 152 = .ok (.getfield 53, 3) := by decide +kernel
theorem dX9_fromRow_155 : decode cX9_fromRow 155 = .ok (.invokevirtual 100, 3) := by decide +kernel
theorem dX9_fromRow_158 : decode cX9_fromRow 158 = .ok (.goto 13, 3) := by decide +kernel
theorem dX9_fromRow_161 : decode cX9_fromRow 161 = .ok (.aload_n 0, 1) := by decide +kernel
theorem dX9_fromRow_162 : decode cX9_fromRow 162 = .ok (.aload_n 3, 1) := by decide +kernel
theorem dX9_fromRow_163 : decode cX9_fromRow 163 = .ok (.iload_n 2, 1) := by decide +kernel
theorem dX9_fromRow_164 : decode cX9_fromRow 164 = .ok (.aload_n 1, 1) := by decide +kernel
theorem dX9_fromRow_165 : decode cX9_fromRow 165 = .ok (.getfield 75, 3) := by decide +kernel
theorem dX9_fromRow_168 : decode cX9_fromRow 168 = .ok (.invokevirtual 103, 3) := by decide +kernel
theorem dX9_fromRow_171 : decode cX9_fromRow 171 = .ok (.return_, 1) := by decide +kernel
theorem dX9_keep_0 : decode cX9_keep 0 = .ok (.aload_n 0, 1) := by decide +kernel
theorem dX9_keep_1 : decode cX9_keep 1 = .ok (.getfield 14, 3) := by decide +kernel
theorem dX9_keep_4 : decode cX9_keep 4 = .ok (.iload_n 2, 1) := by decide +kernel
theorem dX9_keep_5 : decode cX9_keep 5 = .ok (.invokevirtual 45, 3) := by decide +kernel
theorem dX9_keep_8 : decode cX9_keep 8 = .ok (.ifCond .ne 33, 3) := by decide +kernel
theorem dX9_keep_11 : decode cX9_keep 11 = .ok (.iload_n 3, 1) := by decide +kernel
theorem dX9_keep_12 : decode cX9_keep 12 = .ok (.aload_n 0, 1) := by decide +kernel
theorem dX9_keep_13 : decode cX9_keep 13 = .ok (.getfield 14, 3) := by decide +kernel
theorem dX9_keep_16 : decode cX9_keep 16 = .ok (.iload_n 2, 1) := by decide +kernel
theorem dX9_keep_17 : decode cX9_keep 17 = .ok (.aload_n 0, 1) := by decide +kernel
theorem dX9_keep_18 : decode cX9_keep 18 = .ok (.getfield 20, 3) := by decide +kernel
theorem dX9_keep_21 : decode cX9_keep 21 = .ok (.iload_n 2, 1) := by decide +kernel
theorem dX9_keep_22 : decode cX9_keep 22 = .ok (.invokestatic 106, 3) := by decide +kernel
theorem dX9_keep_25 : decode cX9_keep 25 = .ok (.ifCond .eq 16, 3) := by decide +kernel
theorem dX9_keep_28 : decode cX9_keep 28 = .ok (.aload_n 1, 1) := by decide +kernel
theorem dX9_keep_29 : decode cX9_keep 29 = .ok (.iload_n 2, 1) := by decide +kernel
theorem dX9_keep_30 : decode cX9_keep 30 = .ok (.aload_n 0, 1) := by decide +kernel
theorem dX9_keep_31 : decode cX9_keep 31 = .ok (.getfield 14, 3) := by decide +kernel
theorem dX9_keep_34 : decode cX9_keep 34 = .ok (.iload_n 2, 1) := by decide +kernel
theorem dX9_keep_35 : decode cX9_keep 35 = .ok (.invokevirtual 49, 3) := by decide +kernel
theorem dX9_keep_38 : decode cX9_keep 38 = .ok (.invokevirtual 63, 3) := by decide +kernel
theorem dX9_keep_41 : decode cX9_keep 41 = .ok (.return_, 1) := by decide +kernel
theorem dX9_middle_0 : decode cX9_middle 0 = .ok (.iload_n 2, 1) := by decide +kernel
theorem dX9_middle_1 : decode cX9_middle 1 = .ok (.iconst 1, 1) := by decide +kernel
theorem dX9_middle_2 : decode cX9_middle 2 = .ok (.if_icmp .lt 11, 3) := by decide +kernel
theorem dX9_middle_5 : decode cX9_middle 5 = .ok (.iload_n 2, 1) := by decide +kernel
theorem dX9_middle_6 : decode cX9_middle 6 = .ok (.iconst 1, 1) := by decide +kernel
theorem dX9_middle_7 : decode cX9_middle 7 = .ok (.iadd, 1) := by decide +kernel
theorem dX9_middle_8 : decode cX9_middle 8 = .ok (.bipush 16, 2) := by decide +kernel
theorem dX9_middle_10 : decode cX9_middle 10 = .ok (.if_icmp .lt 4, 3) := by decide +kernel
theorem dX9_middle_13 : decode cX9_middle 13 = .ok (.return_, 1) := by decide +kernel
theorem dX9_middle_14 : decode cX9_middle 14 = .ok (.aload_n 0, 1) := by decide +kernel
theorem dX9_middle_15 : decode cX9_middle 15 = .ok (.getfield 14, 3) := by decide +kernel
theorem dX9_middle_18 : decode cX9_middle 18 = .ok (.iload_n 2, 1) := by decide +kernel
theorem dX9_middle_19 : decode cX9_middle 19 = .ok (.iconst 1, 1) := by decide +kernel
theorem dX9_middle_20 : decode cX9_middle 20 = .ok (.isub, 1) := by decide +kernel
theorem dX9_middle_21 : decode cX9_middle 21 = .ok (.invokevirtual 45, 3) := by decide +kernel
theorem dX9_middle_24 : decode cX9_middle 24 = .ok (.ifCond .ne 27, 3) := by decide +kernel
theorem dX9_middle_27 : decode cX9_middle 27 = .ok (.aload_n 0, 1) := by decide +kernel
theorem dX9_middle_28 : decode cX9_middle 28 = .ok (.getfield 14, 3) := by decide +kernel
theorem dX9_middle_31 : decode cX9_middle 31 = .ok (.iload_n 2, 1) := by decide +kernel
theorem dX9_middle_32 : decode cX9_middle 32 = .ok (.invokevirtual 45, 3) := by decide +kernel
theorem dX9_middle_35 : decode cX9_middle 35 = .ok (.ifCond .ne 16, 3) := by decide +kernel
theorem dX9_middle_38 : decode cX9_middle 38 = .ok (.aload_n 0, 1) := by decide +kernel
theorem dX9_middle_39 : decode cX9_middle 39 = .ok (.getfield 14, 3) := by decide +kernel
theorem dX9_middle_42 : decode cX9_middle 42 = .ok (.iload_n 2, 1) := by decide +kernel
theorem dX9_middle_43 : decode cX9_middle 43 = .ok (.iconst 1, 1) := by decide +kernel
theorem dX9_middle_44 : decode cX9_middle 44 = .ok (.iadd, 1) := by decide +kernel
theorem dX9_middle_45 : decode cX9_middle 45 = .ok (.invokevirtual 45, 3) := by decide +kernel
theorem dX9_middle_48 : decode cX9_middle 48 = .ok (.ifCond .eq 4, 3) := by decide +kernel
theorem dX9_middle_51 : decode cX9_middle 51 = .ok (.return_, 1) := by decide +kernel
theorem dX9_middle_52 : decode cX9_middle 52 = .ok (.aload_n 0, 1) := by decide +kernel
theorem dX9_middle_53 : decode cX9_middle 53 = .ok (.getfield 14, 3) := by decide +kernel
theorem dX9_middle_56 : decode cX9_middle 56 = .ok (.iload_n 2, 1) := by decide +kernel
theorem dX9_middle_57 : decode cX9_middle 57 = .ok (.iconst 1, 1) := by decide +kernel
theorem dX9_middle_58 : decode cX9_middle 58 = .ok (.isub, 1) := by decide +kernel
theorem dX9_middle_59 : decode cX9_middle 59 = .ok (.invokevirtual 49, 3) := by decide +kernel
theorem dX9_middle_62 : decode cX9_middle 62 = .ok (.dstore_n 3, 1) := by decide +kernel
theorem dX9_middle_63 : decode cX9_middle 63 = .ok (.aload_n 0, 1) := by decide +kernel
theorem dX9_middle_64 : decode cX9_middle 64 = .ok (.getfield 14, 3) := by decide +kernel
theorem dX9_middle_67 : decode cX9_middle 67 = .ok (.iload_n 2, 1) := by decide +kernel
theorem dX9_middle_68 : decode cX9_middle 68 = .ok (.invokevirtual 49, 3) := by decide +kernel
theorem dX9_middle_71 : decode cX9_middle 71 = .ok (.dstore 5, 2) := by decide +kernel
theorem dX9_middle_73 : decode cX9_middle 73 = .ok (.dload_n 3, 1) := by decide +kernel
theorem dX9_middle_74 : decode cX9_middle 74 = .ok (.dload 5, 2) := by decide +kernel
theorem dX9_middle_76 : decode cX9_middle 76 = .ok (.invokestatic 112, 3) := by decide +kernel
theorem dX9_middle_79 : decode cX9_middle 79 = .ok (.dstore 7, 2) := by decide +kernel
theorem dX9_middle_81 : decode cX9_middle 81 = .ok (.dload_n 3, 1) := by decide +kernel
theorem dX9_middle_82 : decode cX9_middle 82 = .ok (.dload 5, 2) := by decide +kernel
theorem dX9_middle_84 : decode cX9_middle 84 = .ok (.invokestatic 116, 3) := by decide +kernel
theorem dX9_middle_87 : decode cX9_middle 87 = .ok (.dstore 9, 2) := by decide +kernel
theorem dX9_middle_89 : decode cX9_middle 89 = .ok (.aload_n 1, 1) := by decide +kernel
theorem dX9_middle_90 : decode cX9_middle 90 = .ok (.iload_n 2, 1) := by decide +kernel
theorem dX9_middle_91 : decode cX9_middle 91 = .ok (.dload 7, 2) := by decide +kernel
theorem dX9_middle_93 : decode cX9_middle 93 = .ok (.dload 9, 2) := by decide +kernel
theorem dX9_middle_95 : decode cX9_middle 95 = .ok (.aload_n 0, 1) := by decide +kernel
theorem dX9_middle_96 : decode cX9_middle 96 = .ok (.getfield 14, 3) := by decide +kernel
theorem dX9_middle_99 : decode cX9_middle 99 = .ok (.iload_n 2, 1) := by decide +kernel
theorem dX9_middle_100 : decode cX9_middle 100 = .ok (.iconst 1, 1) := by decide +kernel
theorem dX9_middle_101 : decode cX9_middle 101 = .ok (.iadd, 1) := by decide +kernel
theorem dX9_middle_102 : decode cX9_middle 102 = .ok (.invokevirtual 49, 3) := by decide +kernel
theorem dX9_middle_105 : decode cX9_middle 105 = .ok (.invokestatic 112, 3) := by decide +kernel
theorem dX9_middle_108 : decode cX9_middle 108 = .ok (.invokestatic 116, 3) := by decide +kernel
theorem dX9_middle_111 : decode cX9_middle 111 = .ok (.invokevirtual 63, 3) := by decide +kernel
theorem dX9_middle_114 : decode cX9_middle 114 = .ok (.return_, 1) := by decide +kernel
theorem dX9_extreme_0 : decode cX9_extreme 0 = .ok (.iload_n 2, 1) := by decide +kernel
theorem dX9_extreme_1 : decode cX9_extreme 1 = .ok (.ifCond .le 13, 3) := by decide +kernel
theorem dX9_extreme_4 : decode cX9_extreme 4 = .ok (.aload_n 1, 1) := by decide +kernel
theorem dX9_extreme_5 : decode cX9_extreme 5 = .ok (.iload_n 2, 1) := by decide +kernel
theorem dX9_extreme_6 : decode cX9_extreme 6 = .ok (.aload_n 1, 1) := by decide +kernel
theorem dX9_extreme_7 : decode cX9_extreme 7 = .ok (.iload_n 2, 1) := by decide +kernel
theorem dX9_extreme_8 : decode cX9_extreme 8 = .ok (.iconst 1, 1) := by decide +kernel
theorem dX9_extreme_9 : decode cX9_extreme 9 = .ok (.isub, 1) := by decide +kernel
theorem dX9_extreme_10 : decode cX9_extreme 10 = .ok (.iconst 0, 1) := by decide +kernel
theorem dX9_extreme_11 : decode cX9_extreme 11 = .ok (.invokevirtual 82, 3) := by decide +kernel
theorem dX9_extreme_14 : decode cX9_extreme 14 = .ok (.aload_n 0, 1) := by decide +kernel
theorem dX9_extreme_15 : decode cX9_extreme 15 = .ok (.getfield 14, 3) := by decide +kernel
theorem dX9_extreme_18 : decode cX9_extreme 18 = .ok (.iload_n 2, 1) := by decide +kernel
theorem dX9_extreme_19 : decode cX9_extreme 19 = .ok (.invokevirtual 45, 3) := by decide +kernel
theorem dX9_extreme_22 : decode cX9_extreme 22 = .ok (.ifCond .eq 4, 3) := by decide +kernel
theorem dX9_extreme_25 : decode cX9_extreme 25 = .ok (.return_, 1) := by decide +kernel
theorem dX9_extreme_26 : decode cX9_extreme 26 = .ok (.aload_n 0, 1) := by decide +kernel
theorem dX9_extreme_27 : decode cX9_extreme 27 = .ok (.getfield 14, 3) := by decide +kernel
theorem dX9_extreme_30 : decode cX9_extreme 30 = .ok (.iload_n 2, 1) := by decide +kernel
theorem dX9_extreme_31 : decode cX9_extreme 31 = .ok (.invokevirtual 49, 3) := by decide +kernel
theorem dX9_extreme_34 : decode cX9_extreme 34 = .ok (.dstore 4, 2) := by decide +kernel
theorem dX9_extreme_36 : decode cX9_extreme 36 = .ok (.aload_n 1, 1) := by decide +kernel
theorem dX9_extreme_37 : decode cX9_extreme 37 = .ok (.iload_n 2, 1) := by decide +kernel
theorem dX9_extreme_38 : decode cX9_extreme 38 = .ok (.invokevirtual 45, 3) := by decide +kernel
theorem dX9_extreme_41 : decode cX9_extreme 41 = .ok (.ifCond .eq 13, 3) := by decide +kernel
theorem dX9_extreme_44 : decode cX9_extreme 44 = .ok (.aload_n 1, 1) := by decide +kernel
theorem dX9_extreme_45 : decode cX9_extreme 45 = .ok (.iload_n 2, 1) := by decide +kernel
theorem dX9_extreme_46 : decode cX9_extreme 46 = .ok (.dload 4, 2) := by decide +kernel
theorem dX9_extreme_48 : decode cX9_extreme 48 = .ok (.invokevirtual 63, 3) := by decide +kernel
theorem dX9_extreme_51 : decode cX9_extreme 51 = .ok (.goto 40, 3) := by decide +kernel
theorem dX9_extreme_54 : decode cX9_extreme 54 = .ok (.iload_n 3, 1) := by decide +kernel
theorem dX9_extreme_55 : decode cX9_extreme 55 = .ok (.ifCond .eq 21, 3) := by decide +kernel
theorem dX9_extreme_58 : decode cX9_extreme 58 = .ok (.aload_n 1, 1) := by decide +kernel
theorem dX9_extreme_59 : decode cX9_extreme 59 = .ok (.iload_n 2, 1) := by decide +kernel
theorem dX9_extreme_60 : decode cX9_extreme 60 = .ok (.aload_n 1, 1) := by decide +kernel
theorem dX9_extreme_61 : decode cX9_extreme 61 = .ok (.iload_n 2, 1) := by decide +kernel
theorem dX9_extreme_62 : decode cX9_extreme 62 = .ok (.invokevirtual 49, 3) := by decide +kernel
theorem dX9_extreme_65 : decode cX9_extreme 65 = .ok (.dload 4, 2) := by decide +kernel
theorem dX9_extreme_67 : decode cX9_extreme 67 = .ok (.invokestatic 116, 3) := by decide +kernel
theorem dX9_extreme_70 : decode cX9_extreme 70 = .ok (.invokevirtual 63, 3) := by decide +kernel
theorem dX9_extreme_73 : decode cX9_extreme 73 = .ok (.goto 18, 3) := by decide +kernel
theorem dX9_extreme_76 : decode cX9_extreme 76 = .ok (.aload_n 1, 1) := by decide +kernel
theorem dX9_extreme_77 : decode cX9_extreme 77 = .ok (.iload_n 2, 1) := by decide +kernel
theorem dX9_extreme_78 : decode cX9_extreme 78 = .ok (.aload_n 1, 1) := by decide +kernel
theorem dX9_extreme_79 : decode cX9_extreme 79 = .ok (.iload_n 2, 1) := by decide +kernel
theorem dX9_extreme_80 : decode cX9_extreme 80 = .ok (.invokevirtual 49, 3) := by decide +kernel
theorem dX9_extreme_83 : decode cX9_extreme 83 = .ok (.dload 4, 2) := by decide +kernel
theorem dX9_extreme_85 : decode cX9_extreme 85 = .ok (.invokestatic 112, 3) := by decide +kernel
theorem dX9_extreme_88 : decode cX9_extreme 88 = .ok (.invokevirtual 63, 3) := by decide +kernel
theorem dX9_extreme_91 : decode cX9_extreme 91 = .ok (.return_, 1) := by decide +kernel
theorem dX9_insert_0 : decode cX9_insert 0 = .ok (.aload_n 0, 1) := by decide +kernel
theorem dX9_insert_1 : decode cX9_insert 1 = .ok (.getfield 14, 3) := by decide +kernel
theorem dX9_insert_4 : decode cX9_insert 4 = .ok (.iload_n 2, 1) := by decide +kernel
theorem dX9_insert_5 : decode cX9_insert 5 = .ok (.invokevirtual 45, 3) := by decide +kernel
theorem dX9_insert_8 : decode cX9_insert 8 = .ok (.ifCond .eq 4, 3) := by decide +kernel
theorem dX9_insert_11 : decode cX9_insert 11 = .ok (.return_, 1) := by decide +kernel
theorem dX9_insert_12 : decode cX9_insert 12 = .ok (.aload_n 0, 1) := by decide +kernel
theorem dX9_insert_13 : decode cX9_insert 13 = .ok (.getfield 14, 3) := by decide +kernel
theorem dX9_insert_16 : decode cX9_insert 16 = .ok (.iload_n 2, 1) := by decide +kernel
theorem dX9_insert_17 : decode cX9_insert 17 = .ok (.invokevirtual 49, 3) := by decide +kernel
theorem dX9_insert_20 : decode cX9_insert 20 = .ok (.dstore_n 3, 1) := by decide +kernel
theorem dX9_insert_21 : decode cX9_insert 21 = .ok (.iload_n 2, 1) := by decide +kernel
theorem dX9_insert_22 : decode cX9_insert 22 = .ok (.istore 5, 2) := by decide +kernel
theorem dX9_insert_24 : decode cX9_insert 24 = .ok (.iload 5, 2) := by decide +kernel
theorem dX9_insert_26 : decode cX9_insert 26 = .ok (.ifCond .le 47, 3) := by decide +kernel
theorem dX9_insert_29 : decode cX9_insert 29 = .ok (.aload_n 1, 1) := by decide +kernel
theorem dX9_insert_30 : decode cX9_insert 30 = .ok (.iload 5, 2) := by decide +kernel
theorem dX9_insert_32 : decode cX9_insert 32 = .ok (.iconst 1, 1) := by decide +kernel
theorem dX9_insert_33 : decode cX9_insert 33 = .ok (.isub, 1) := by decide +kernel
theorem dX9_insert_34 : decode cX9_insert 34 = .ok (.invokevirtual 45, 3) := by decide +kernel
theorem dX9_insert_37 : decode cX9_insert 37 = .ok (.ifCond .ne 18, 3) := by decide +kernel
end
section
theorem dX9_insert_40 : decode cX9_insert 40 = .ok (.dload_n 3, 1) := by decide +kernel
theorem dX9_insert_41 : decode cX9_insert 41 = .ok (.aload_n 1, 1) := by decide +kernel
theorem dX9_insert_42 : decode cX9_insert 42 = .ok (.iload 5, 2) := by decide +kernel
theorem dX9_insert_44 : decode cX9_insert 44 = .ok (.iconst 1, 1) := by decide +kernel
theorem dX9_insert_45 : decode cX9_insert 45 = .ok (.isub, 1) := by decide +kernel
theorem dX9_insert_46 : decode cX9_insert 46 = .ok (.invokevirtual 49, 3) := by decide +kernel
theorem dX9_insert_49 : decode cX9_insert 49 = .ok (.invokestatic 119, 3) := by decide +kernel
theorem dX9_insert_52 : decode cX9_insert 52 = .ok (.ifCond .eq 21, 3) := by decide +kernel
theorem dX9_insert_55 : decode cX9_insert 55 = .ok (.aload_n 1, 1) := by decide +kernel
theorem dX9_insert_56 : decode cX9_insert 56 = .ok (.iload 5, 2) := by decide +kernel
theorem dX9_insert_58 : decode cX9_insert 58 = .ok (.aload_n 1, 1) := by decide +kernel
theorem dX9_insert_59 : decode cX9_insert 59 = .ok (.iload 5, 2) := by decide +kernel
theorem dX9_insert_61 : decode cX9_insert 61 = .ok (.iconst 1, 1) := by decide +kernel
theorem dX9_insert_62 : decode cX9_insert 62 = .ok (.isub, 1) := by decide +kernel
theorem dX9_insert_63 : decode cX9_insert 63 = .ok (.iconst 0, 1) := by decide +kernel
theorem dX9_insert_64 : decode cX9_insert 64 = .ok (.invokevirtual 82, 3) := by decide +kernel
theorem dX9_insert_67 : decode cX9_insert 67 = .ok (.iinc 5 (-1), 3) := by decide +kernel
theorem dX9_insert_70 : decode cX9_insert 70 = .ok (.goto (-46), 3) := by decide +kernel
theorem dX9_insert_73 : decode cX9_insert 73 = .ok (.aload_n 1, 1) := by decide +kernel
theorem dX9_insert_74 : decode cX9_insert 74 = .ok (.iload 5, 2) := by decide +kernel
theorem dX9_insert_76 : decode cX9_insert 76 = .ok (.dload_n 3, 1) := by decide +kernel
theorem dX9_insert_77 : decode cX9_insert 77 = .ok (.invokevirtual 63, 3) := by decide +kernel
theorem dX9_insert_80 : decode cX9_insert 80 = .ok (.return_, 1) := by decide +kernel
theorem dX9_countLess_0 : decode cX9_countLess 0 = .ok (.aload_n 0, 1) := by decide +kernel
theorem dX9_countLess_1 : decode cX9_countLess 1 = .ok (.getfield 14, 3) := by decide +kernel
theorem dX9_countLess_4 : decode cX9_countLess 4 = .ok (.iload_n 2, 1) := by decide +kernel
theorem dX9_countLess_5 : decode cX9_countLess 5 = .ok (.invokevirtual 45, 3) := by decide +kernel
theorem dX9_countLess_8 : decode cX9_countLess 8 = .ok (.ifCond .eq 4, 3) := by decide +kernel
theorem dX9_countLess_11 : decode cX9_countLess 11 = .ok (.return_, 1) := by decide +kernel
theorem dX9_countLess_12 : decode cX9_countLess 12 = .ok (.iconst 0, 1) := by decide +kernel
theorem dX9_countLess_13 : decode cX9_countLess 13 = .ok (.istore_n 3, 1) := by decide +kernel
theorem dX9_countLess_14 : decode cX9_countLess 14 = .ok (.iconst 0, 1) := by decide +kernel
theorem dX9_countLess_15 : decode cX9_countLess 15 = .ok (.istore 4, 2) := by decide +kernel
theorem dX9_countLess_17 : decode cX9_countLess 17 = .ok (.iload 4, 2) := by decide +kernel
theorem dX9_countLess_19 : decode cX9_countLess 19 = .ok (.bipush 16, 2) := by decide +kernel
theorem dX9_countLess_21 : decode cX9_countLess 21 = .ok (.if_icmp .ge 45, 3) := by decide +kernel
theorem dX9_countLess_24 : decode cX9_countLess 24 = .ok (.aload_n 0, 1) := by decide +kernel
theorem dX9_countLess_25 : decode cX9_countLess 25 = .ok (.getfield 14, 3) := by decide +kernel
theorem dX9_countLess_28 : decode cX9_countLess 28 = .ok (.iload 4, 2) := by decide +kernel
theorem dX9_countLess_30 : decode cX9_countLess 30 = .ok (.invokevirtual 45, 3) := by decide +kernel
theorem dX9_countLess_33 : decode cX9_countLess 33 = .ok (.ifCond .ne 27, 3) := by decide +kernel
theorem dX9_countLess_36 : decode cX9_countLess 36 = .ok (.aload_n 0, 1) := by decide +kernel
theorem dX9_countLess_37 : decode cX9_countLess 37 = .ok (.getfield 14, 3) := by decide +kernel
theorem dX9_countLess_40 : decode cX9_countLess 40 = .ok (.iload 4, 2) := by decide +kernel
theorem dX9_countLess_42 : decode cX9_countLess 42 = .ok (.invokevirtual 49, 3) := by decide +kernel
theorem dX9_countLess_45 : decode cX9_countLess 45 = .ok (.aload_n 0, 1) := by decide +kernel
theorem dX9_countLess_46 : decode cX9_countLess 46 = .ok (.getfield 14, 3) := by decide +kernel
theorem dX9_countLess_49 : decode cX9_countLess 49 = .ok (.iload_n 2, 1) := by decide +kernel
theorem dX9_countLess_50 : decode cX9_countLess 50 = .ok (.invokevirtual 49, 3) := by decide +kernel
theorem dX9_countLess_53 : decode cX9_countLess 53 = .ok (.dcmp .g, 1) := by decide +kernel
theorem dX9_countLess_54 : decode cX9_countLess 54 = .ok (.ifCond .ge 6, 3) := by decide +kernel
theorem dX9_countLess_57 : decode cX9_countLess 57 = .ok (.iinc 3 1, 3) := by decide +kernel
theorem dX9_countLess_60 : decode cX9_countLess 60 = .ok (.iinc 4 1, 3) := by decide +kernel
theorem dX9_countLess_63 : decode cX9_countLess 63 = .ok (.goto (-46), 3) := by decide +kernel
theorem dX9_countLess_66 : decode cX9_countLess 66 = .ok (.aload_n 1, 1) := by decide +kernel
theorem dX9_countLess_67 : decode cX9_countLess 67 = .ok (.iload_n 2, 1) := by decide +kernel
theorem dX9_countLess_68 : decode cX9_countLess 68 = .ok (.iload_n 3, 1) := by decide +kernel
theorem dX9_countLess_69 : decode cX9_countLess 69 = .ok (.i2d, 1) := by decide +kernel
theorem dX9_countLess_70 : decode cX9_countLess 70 = .ok (.invokevirtual 63, 3) := by decide +kernel
theorem dX9_countLess_73 : decode cX9_countLess 73 = .ok (.return_, 1) := by decide +kernel
theorem dX9_step_0 : decode cX9_step 0 = .ok (.iload_n 2, 1) := by decide +kernel
theorem dX9_step_1 : decode cX9_step 1 = .ok (.iconst 1, 1) := by decide +kernel
theorem dX9_step_2 : decode cX9_step 2 = .ok (.if_icmp .lt 27, 3) := by decide +kernel
theorem dX9_step_5 : decode cX9_step 5 = .ok (.aload_n 0, 1) := by decide +kernel
theorem dX9_step_6 : decode cX9_step 6 = .ok (.getfield 14, 3) := by decide +kernel
theorem dX9_step_9 : decode cX9_step 9 = .ok (.iload_n 2, 1) := by decide +kernel
theorem dX9_step_10 : decode cX9_step 10 = .ok (.invokevirtual 45, 3) := by decide +kernel
theorem dX9_step_13 : decode cX9_step 13 = .ok (.ifCond .ne 16, 3) := by decide +kernel
theorem dX9_step_16 : decode cX9_step 16 = .ok (.aload_n 0, 1) := by decide +kernel
theorem dX9_step_17 : decode cX9_step 17 = .ok (.getfield 14, 3) := by decide +kernel
theorem dX9_step_20 : decode cX9_step 20 = .ok (.iload_n 2, 1) := by decide +kernel
theorem dX9_step_21 : decode cX9_step 21 = .ok (.iconst 1, 1) := by decide +kernel
theorem dX9_step_22 : decode cX9_step 22 = .ok (.isub, 1) := by decide +kernel
theorem dX9_step_23 : decode cX9_step 23 = .ok (.invokevirtual 45, 3) := by decide +kernel
theorem dX9_step_26 : decode cX9_step 26 = .ok (.ifCond .eq 4, 3) := by decide +kernel
theorem dX9_step_29 : decode cX9_step 29 = .ok (.return_, 1) := by decide +kernel
theorem dX9_step_30 : decode cX9_step 30 = .ok (.aload_n 0, 1) := by decide +kernel
theorem dX9_step_31 : decode cX9_step 31 = .ok (.getfield 14, 3) := by decide +kernel
theorem dX9_step_34 : decode cX9_step 34 = .ok (.iload_n 2, 1) := by decide +kernel
theorem dX9_step_35 : decode cX9_step 35 = .ok (.invokevirtual 49, 3) := by decide +kernel
theorem dX9_step_38 : decode cX9_step 38 = .ok (.dstore 4, 2) := by decide +kernel
theorem dX9_step_40 : decode cX9_step 40 = .ok (.aload_n 0, 1) := by decide +kernel
theorem dX9_step_41 : decode cX9_step 41 = .ok (.getfield 14, 3) := by decide +kernel
theorem dX9_step_44 : decode cX9_step 44 = .ok (.iload_n 2, 1) := by decide +kernel
theorem dX9_step_45 : decode cX9_step 45 = .ok (.iconst 1, 1) := by decide +kernel
theorem dX9_step_46 : decode cX9_step 46 = .ok (.isub, 1) := by decide +kernel
theorem dX9_step_47 : decode cX9_step 47 = .ok (.invokevirtual 49, 3) := by decide +kernel
theorem dX9_step_50 : decode cX9_step 50 = .ok (.dstore 6, 2) := by decide +kernel
theorem dX9_step_52 : decode cX9_step 52 = .ok (.bipush 10, 2) := by decide +kernel
theorem dX9_step_54 : decode cX9_step 54 = .ok (.dload 4, 2) := by decide +kernel
theorem dX9_step_56 : decode cX9_step 56 = .ok (.dload 6, 2) := by decide +kernel
theorem dX9_step_58 : decode cX9_step 58 = .ok (.invokestatic 67, 3) := by decide +kernel
theorem dX9_step_61 : decode cX9_step 61 = .ok (.ifCond .ne 17, 3) := by decide +kernel
theorem dX9_step_64 : decode cX9_step 64 = .ok (.aload_n 1, 1) := by decide +kernel
theorem dX9_step_65 : decode cX9_step 65 = .ok (.iload_n 2, 1) := by decide +kernel
theorem dX9_step_66 : decode cX9_step 66 = .ok (.dload 4, 2) := by decide +kernel
theorem dX9_step_68 : decode cX9_step 68 = .ok (.dload 6, 2) := by decide +kernel
theorem dX9_step_70 : decode cX9_step 70 = .ok (.dneg, 1) := by decide +kernel
theorem dX9_step_71 : decode cX9_step 71 = .ok (.iload_n 3, 1) := by decide +kernel
theorem dX9_step_72 : decode cX9_step 72 = .ok (.invokestatic 123, 3) := by decide +kernel
theorem dX9_step_75 : decode cX9_step 75 = .ok (.invokevirtual 63, 3) := by decide +kernel
theorem dX9_step_78 : decode cX9_step 78 = .ok (.return_, 1) := by decide +kernel
theorem dX9_countSo_0 : decode cX9_countSo 0 = .ok (.iload_n 2, 1) := by decide +kernel
theorem dX9_countSo_1 : decode cX9_countSo 1 = .ok (.ifCond .le 13, 3) := by decide +kernel
theorem dX9_countSo_4 : decode cX9_countSo 4 = .ok (.aload_n 1, 1) := by decide +kernel
theorem dX9_countSo_5 : decode cX9_countSo 5 = .ok (.iload_n 2, 1) := by decide +kernel
theorem dX9_countSo_6 : decode cX9_countSo 6 = .ok (.iconst 1, 1) := by decide +kernel
theorem dX9_countSo_7 : decode cX9_countSo 7 = .ok (.isub, 1) := by decide +kernel
theorem dX9_countSo_8 : decode cX9_countSo 8 = .ok (.invokevirtual 49, 3) := by decide +kernel
theorem dX9_countSo_11 : decode cX9_countSo 11 = .ok (.goto 4, 3) := by decide +kernel
theorem dX9_countSo_14 : decode cX9_countSo 14 = .ok (.dconst 0, 1) := by decide +kernel
theorem dX9_countSo_15 : decode cX9_countSo 15 = .ok (.dstore 4, 2) := by decide +kernel
theorem dX9_countSo_17 : decode cX9_countSo 17 = .ok (.aload_n 1, 1) := by decide +kernel
theorem dX9_countSo_18 : decode cX9_countSo 18 = .ok (.iload_n 2, 1) := by decide +kernel
theorem dX9_countSo_19 : decode cX9_countSo 19 = .ok (.iload_n 3, 1) := by decide +kernel
theorem dX9_countSo_20 : decode cX9_countSo 20 = .ok (.aload_n 0, 1) := by decide +kernel
theorem dX9_countSo_21 : decode cX9_countSo 21 = .ok (.getfield 14, 3) := by decide +kernel
theorem dX9_countSo_24 : decode cX9_countSo 24 = .ok (.iload_n 2, 1) := by decide +kernel
theorem dX9_countSo_25 : decode cX9_countSo 25 = .ok (.aload_n 0, 1) := by decide +kernel
theorem dX9_countSo_26 : decode cX9_countSo 26 = .ok (.getfield 20, 3) := by decide +kernel
theorem dX9_countSo_29 : decode cX9_countSo 29 = .ok (.iload_n 2, 1) := by decide +kernel
theorem dX9_countSo_30 : decode cX9_countSo 30 = .ok (.invokestatic 106, 3) := by decide +kernel
theorem dX9_countSo_33 : decode cX9_countSo 33 = .ok (.ifCond .eq 10, 3) := by decide +kernel
theorem dX9_countSo_36 : decode cX9_countSo 36 = .ok (.dload 4, 2) := by decide +kernel
theorem dX9_countSo_38 : decode cX9_countSo 38 = .ok (.dconst 1, 1) := by decide +kernel
theorem dX9_countSo_39 : decode cX9_countSo 39 = .ok (.dadd, 1) := by decide +kernel
theorem dX9_countSo_40 : decode cX9_countSo 40 = .ok (.goto 5, 3) := by decide +kernel
theorem dX9_countSo_43 : decode cX9_countSo 43 = .ok (.dload 4, 2) := by decide +kernel
theorem dX9_countSo_45 : decode cX9_countSo 45 = .ok (.invokevirtual 63, 3) := by decide +kernel
theorem dX9_countSo_48 : decode cX9_countSo 48 = .ok (.return_, 1) := by decide +kernel
theorem dX10_init_0 : decode cX10_init 0 = .ok (.aload_n 0, 1) := by decide +kernel
theorem dX10_init_1 : decode cX10_init 1 = .ok (.invokespecial 1, 3) := by decide +kernel
theorem dX10_init_4 : decode cX10_init 4 = .ok (.aload_n 0, 1) := by decide +kernel
theorem dX10_init_5 : decode cX10_init 5 = .ok (.bipush 12, 2) := by decide +kernel
theorem dX10_init_7 : decode cX10_init 7 = .ok (.anewarray 9, 3) := by decide +kernel
theorem dX10_init_10 : decode cX10_init 10 = .ok (.putfield 11, 3) := by decide +kernel
theorem dX10_init_13 : decode cX10_init 13 = .ok (.aload_n 0, 1) := by decide +kernel
theorem dX10_init_14 : decode cX10_init 14 = .ok (.new 15, 3) := by decide +kernel
theorem dX10_init_17 : decode cX10_init 17 = .ok (.dup, 1) := by decide +kernel
theorem dX10_init_18 : decode cX10_init 18 = .ok (.bipush 8, 2) := by decide +kernel
theorem dX10_init_20 : decode cX10_init 20 = .ok (.invokespecial 17, 3) := by decide +kernel
theorem dX10_init_23 : decode cX10_init 23 = .ok (.putfield 20, 3) := by decide +kernel
theorem dX10_init_26 : decode cX10_init 26 = .ok (.aload_n 0, 1) := by decide +kernel
theorem dX10_init_27 : decode cX10_init 27 = .ok (.new 24, 3) := by decide +kernel
theorem dX10_init_30 : decode cX10_init 30 = .ok (.dup, 1) := by decide +kernel
theorem dX10_init_31 : decode cX10_init 31 = .ok (.invokespecial 26, 3) := by decide +kernel
theorem dX10_init_34 : decode cX10_init 34 = .ok (.putfield 27, 3) := by decide +kernel
theorem dX10_init_37 : decode cX10_init 37 = .ok (.aload_n 0, 1) := by decide +kernel
theorem dX10_init_38 : decode cX10_init 38 = .ok (.bipush 10, 2) := by decide +kernel
theorem dX10_init_40 : decode cX10_init 40 = .ok (.anewarray 31, 3) := by decide +kernel
theorem dX10_init_43 : decode cX10_init 43 = .ok (.putfield 33, 3) := by decide +kernel
theorem dX10_init_46 : decode cX10_init 46 = .ok (.aload_n 0, 1) := by decide +kernel
theorem dX10_init_47 : decode cX10_init 47 = .ok (.iconst 0, 1) := by decide +kernel
theorem dX10_init_48 : decode cX10_init 48 = .ok (.putfield 37, 3) := by decide +kernel
theorem dX10_init_51 : decode cX10_init 51 = .ok (.aload_n 0, 1) := by decide +kernel
theorem dX10_init_52 : decode cX10_init 52 = .ok (.iconst 0, 1) := by decide +kernel
theorem dX10_init_53 : decode cX10_init 53 = .ok (.putfield 41, 3) := by decide +kernel
theorem dX10_init_56 : decode cX10_init 56 = .ok (.aload_n 0, 1) := by decide +kernel
theorem dX10_init_57 : decode cX10_init 57 = .ok (.aconst_null, 1) := by decide +kernel
theorem dX10_init_58 : decode cX10_init 58 = .ok (.putfield 44, 3) := by decide +kernel
theorem dX10_init_61 : decode cX10_init 61 = .ok (.aload_n 0, 1) := by decide +kernel
theorem dX10_init_62 : decode cX10_init 62 = .ok (.iconst 0, 1) := by decide +kernel
theorem dX10_init_63 : decode cX10_init 63 = .ok (.putfield 48, 3) := by decide +kernel
theorem dX10_init_66 : decode cX10_init 66 = .ok (.aload_n 0, 1) := by decide +kernel
theorem dX10_init_67 : decode cX10_init 67 = .ok (.bipush 12, 2) := by decide +kernel
theorem dX10_init_69 : decode cX10_init 69 = .ok (.putfield 51, 3) := by decide +kernel
theorem dX10_init_72 : decode cX10_init 72 = .ok (.iconst 0, 1) := by decide +kernel
theorem dX10_init_73 : decode cX10_init 73 = .ok (.istore_n 1, 1) := by decide +kernel
theorem dX10_init_74 : decode cX10_init 74 = .ok (.iload_n 1, 1) := by decide +kernel
theorem dX10_init_75 : decode cX10_init 75 = .ok (.bipush 12, 2) := by decide +kernel
theorem dX10_init_77 : decode cX10_init 77 = .ok (.if_icmp .ge 22, 3) := by decide +kernel
theorem dX10_init_80 : decode cX10_init 80 = .ok (.aload_n 0, 1) := by decide +kernel
theorem dX10_init_81 : decode cX10_init 81 = .ok (.getfield 11, 3) := by decide +kernel
theorem dX10_init_84 : decode cX10_init 84 = .ok (.iload_n 1, 1) := by decide +kernel
theorem dX10_init_85 : decode cX10_init 85 = .ok (.new 9, 3) := by decide +kernel
theorem dX10_init_88 : decode cX10_init 88 = .ok (.dup, 1) := by decide +kernel
theorem dX10_init_89 : decode cX10_init 89 = .ok (.invokespecial 54, 3) := by decide +kernel
theorem dX10_init_92 : decode cX10_init 92 = .ok (.aastore, 1) := by decide +kernel
theorem dX10_init_93 : decode cX10_init 93 = .ok (.iinc 1 1, 3) := by decide +kernel
theorem dX10_init_96 : decode cX10_init 96 = .ok (.goto (-22), 3) := by decide +kernel
theorem dX10_init_99 : decode cX10_init 99 = .ok (.iconst 0, 1) := by decide +kernel
theorem dX10_init_100 : decode cX10_init 100 = .ok (.istore_n 1, 1) := by decide +kernel
theorem dX10_init_101 : decode cX10_init 101 = .ok (.iload_n 1, 1) := by decide +kernel
theorem dX10_init_102 : decode cX10_init 102 = .ok (.bipush 10, 2) := by decide +kernel
theorem dX10_init_104 : decode cX10_init 104 = .ok (.if_icmp .ge 22, 3) := by decide +kernel
theorem dX10_init_107 : decode cX10_init 107 = .ok (.aload_n 0, 1) := by decide +kernel
theorem dX10_init_108 : decode cX10_init 108 = .ok (.getfield 33, 3) := by decide +kernel
theorem dX10_init_111 : decode cX10_init 111 = .ok (.iload_n 1, 1) := by decide +kernel
theorem dX10_init_112 : decode cX10_init 112 = .ok (.new 31, 3) := by decide +kernel
theorem dX10_init_115 : decode cX10_init 115 = .ok (.dup, 1) := by decide +kernel
theorem dX10_init_116 : decode cX10_init 116 = .ok (.invokespecial 55, 3) := by decide +kernel
theorem dX10_init_119 : decode cX10_init 119 = .ok (.aastore, 1) := by decide +kernel
theorem dX10_init_120 : decode cX10_init 120 = .ok (.iinc 1 1, 3) := by decide +kernel
theorem dX10_init_123 : decode cX10_init 123 = .ok (.goto (-22), 3) := by decide +kernel
theorem dX10_init_126 : decode cX10_init 126 = .ok (.return_, 1) := by decide +kernel
theorem dX10_set_0 : decode cX10_set 0 = .ok (.aload_n 0, 1) := by decide +kernel
theorem dX10_set_1 : decode cX10_set 1 = .ok (.iload_n 1, 1) := by decide +kernel
theorem dX10_set_2 : decode cX10_set 2 = .ok (.invokevirtual 56, 3) := by decide +kernel
theorem dX10_set_5 : decode cX10_set 5 = .ok (.ifCond .eq 18, 3) := by decide +kernel
theorem dX10_set_8 : decode cX10_set 8 = .ok (.iload_n 2, 1) := by decide +kernel
theorem dX10_set_9 : decode cX10_set 9 = .ok (.invokestatic 60, 3) := by decide +kernel
theorem dX10_set_12 : decode cX10_set 12 = .ok (.ifCond .eq 11, 3) := by decide +kernel
theorem dX10_set_15 : decode cX10_set 15 = .ok (.iload 4, 2) := by decide +kernel
theorem dX10_set_17 : decode cX10_set 17 = .ok (.invokestatic 63, 3) := by decide +kernel
theorem dX10_set_20 : decode cX10_set 20 = .ok (.ifCond .ne 5, 3) := by decide +kernel
theorem dX10_set_23 : decode cX10_set 23 = .ok (.iconst 0, 1) := by decide +kernel
theorem dX10_set_24 : decode cX10_set 24 = .ok (.ireturn, 1) := by decide +kernel
theorem dX10_set_25 : decode cX10_set 25 = .ok (.aload_n 0, 1) := by decide +kernel
theorem dX10_set_26 : decode cX10_set 26 = .ok (.getfield 11, 3) := by decide +kernel
theorem dX10_set_29 : decode cX10_set 29 = .ok (.iload_n 1, 1) := by decide +kernel
theorem dX10_set_30 : decode cX10_set 30 = .ok (.aaload, 1) := by decide +kernel
theorem dX10_set_31 : decode cX10_set 31 = .ok (.astore 5, 2) := by decide +kernel
theorem dX10_set_33 : decode cX10_set 33 = .ok (.aload_n 0, 1) := by decide +kernel
theorem dX10_set_34 : decode cX10_set 34 = .ok (.new 66, 3) := by decide +kernel
theorem dX10_set_37 : decode cX10_set 37 = .ok (.dup, 1) := by decide +kernel
theorem dX10_set_38 : decode cX10_set 38 = .ok (.aload_n 0, 1) := by decide +kernel
theorem dX10_set_39 : decode cX10_set 39 = .ok (.getfield 44, 3) := by decide +kernel
theorem dX10_set_42 : decode cX10_set 42 = .ok (.iload_n 1, 1) := by decide +kernel
theorem dX10_set_43 : decode cX10_set 43 = .ok (.aload 5, 2) := by decide +kernel
theorem dX10_set_45 : decode cX10_set 45 = .ok (.getfield 68, 3) := by decide +kernel
theorem dX10_set_48 : decode cX10_set 48 = .ok (.iload_n 2, 1) := by decide +kernel
theorem dX10_set_49 : decode cX10_set 49 = .ok (.invokespecial 71, 3) := by decide +kernel
theorem dX10_set_52 : decode cX10_set 52 = .ok (.invokevirtual 74, 3) := by decide +kernel
theorem dX10_set_55 : decode cX10_set 55 = .ok (.aload 5, 2) := by decide +kernel
theorem dX10_set_57 : decode cX10_set 57 = .ok (.getfield 68, 3) := by decide +kernel
theorem dX10_set_60 : decode cX10_set 60 = .ok (.iload_n 2, 1) := by decide +kernel
theorem dX10_set_61 : decode cX10_set 61 = .ok (.iload_n 3, 1) := by decide +kernel
theorem dX10_set_62 : decode cX10_set 62 = .ok (.i2d, 1) := by decide +kernel
theorem dX10_set_63 : decode cX10_set 63 = .ok (.iload 4, 2) := by decide +kernel
theorem dX10_set_65 : decode cX10_set 65 = .ok (.invokestatic 78, 3) := by decide +kernel
theorem dX10_set_68 : decode cX10_set 68 = .ok (.dmul, 1) := by decide +kernel
theorem dX10_set_69 : decode cX10_set 69 = .ok (.aload 5, 2) := by decide +kernel
theorem dX10_set_71 : decode cX10_set 71 = .ok (.getfield 84, 3) := by decide +kernel
theorem dX10_set_74 : decode cX10_set 74 = .ok (.invokestatic 88, 3) := by decide +kernel
theorem dX10_set_77 : decode cX10_set 77 = .ok (.invokevirtual 92, 3) := by decide +kernel
theorem dX10_set_80 : decode cX10_set 80 = .ok (.iconst 1, 1) := by decide +kernel
theorem dX10_set_81 : decode cX10_set 81 = .ok (.ireturn, 1) := by decide +kernel
theorem dX10_special_0 : decode cX10_special 0 = .ok (.aload_n 0, 1) := by decide +kernel
theorem dX10_special_1 : decode cX10_special 1 = .ok (.iload_n 1, 1) := by decide +kernel
theorem dX10_special_2 : decode cX10_special 2 = .ok (.invokevirtual 56, 3) := by decide +kernel
theorem dX10_special_5 : decode cX10_special 5 = .ok (.ifCond .eq 17, 3) := by decide +kernel
theorem dX10_special_8 : decode cX10_special 8 = .ok (.iload_n 2, 1) := by decide +kernel
theorem dX10_special_9 : decode cX10_special 9 = .ok (.invokestatic 60, 3) := by decide +kernel
theorem dX10_special_12 : decode cX10_special 12 = .ok (.ifCond .eq 10, 3) := by decide +kernel
theorem dX10_special_15 : decode cX10_special 15 = .ok (.iload_n 3, 1) := by decide +kernel
theorem dX10_special_16 : decode cX10_special 16 = .ok (.invokestatic 96, 3) := by decide +kernel
theorem dX10_special_19 : decode cX10_special 19 = .ok (.ifCond .ne 5, 3) := by decide +kernel
theorem dX10_special_22 : decode cX10_special 22 = .ok (.iconst 0, 1) := by decide +kernel
theorem dX10_special_23 : decode cX10_special 23 = .ok (.ireturn, 1) := by decide +kernel
theorem dX10_special_24 : decode cX10_special 24 = .ok (.aload_n 0, 1) := by decide +kernel
theorem dX10_special_25 : decode cX10_special 25 = .ok (.getfield 11, 3) := by decide +kernel
theorem dX10_special_28 : decode cX10_special 28 = .ok (.iload_n 1, 1) := by decide +kernel
theorem dX10_special_29 : decode cX10_special 29 = .ok (.aaload, 1) := by decide +kernel
theorem dX10_special_30 : decode cX10_special 30 = .ok (.astore 4, 2) := by decide +kernel
theorem dX10_special_32 : decode cX10_special 32 = .ok (.aload_n 0, 1) := by decide +kernel
theorem dX10_special_33 : decode cX10_special 33 = .ok (.new 66, 3) := by decide +kernel
theorem dX10_special_36 : decode cX10_special 36 = .ok (.dup, 1) := by decide +kernel
theorem dX10_special_37 : decode cX10_special 37 = .ok (.aload_n 0, 1) := by decide +kernel
theorem dX10_special_38 : decode cX10_special 38 = .ok (.getfield 44, 3) := by decide +kernel
theorem dX10_special_41 : decode cX10_special 41 = .ok (.iload_n 1, 1) := by decide +kernel
theorem dX10_special_42 : decode cX10_special 42 = .ok (.aload 4, 2) := by decide +kernel
theorem dX10_special_44 : decode cX10_special 44 = .ok (.getfield 68, 3) := by decide +kernel
theorem dX10_special_47 : decode cX10_special 47 = .ok (.iload_n 2, 1) := by decide +kernel
theorem dX10_special_48 : decode cX10_special 48 = .ok (.invokespecial 71, 3) := by decide +kernel
theorem dX10_special_51 : decode cX10_special 51 = .ok (.invokevirtual 74, 3) := by decide +kernel
theorem dX10_special_54 : decode cX10_special 54 = .ok (.aload 4, 2) := by decide +kernel
theorem dX10_special_56 : decode cX10_special 56 = .ok (.getfield 68, 3) := by decide +kernel
theorem dX10_special_59 : decode cX10_special 59 = .ok (.iload_n 2, 1) := by decide +kernel
theorem dX10_special_60 : decode cX10_special 60 = .ok (.iload_n 3, 1) := by decide +kernel
theorem dX10_special_61 : decode cX10_special 61 = .ok (.aload 4, 2) := by decide +kernel
theorem dX10_special_63 : decode cX10_special 63 = .ok (.getfield 84, 3) := by decide +kernel
theorem dX10_special_66 : decode cX10_special 66 = .ok (.invokevirtual 99, 3) := by decide +kernel
theorem dX10_special_69 : decode cX10_special 69 = .ok (.iconst 1, 1) := by decide +kernel
theorem dX10_special_70 : decode cX10_special 70 = .ok (.ireturn, 1) := by decide +kernel
theorem dX10_constant_0 : decode cX10_constant 0 = .ok (.iload_n 1, 1) := by decide +kernel
theorem dX10_constant_1 : decode cX10_constant 1 = .ok (.invokestatic 103, 3) := by decide +kernel
theorem dX10_constant_4 : decode cX10_constant 4 = .ok (.ifCond .eq 17, 3) := by decide +kernel
theorem dX10_constant_7 : decode cX10_constant 7 = .ok (.iload_n 3, 1) := by decide +kernel
theorem dX10_constant_8 : decode cX10_constant 8 = .ok (.invokestatic 63, 3) := by decide +kernel
theorem dX10_constant_11 : decode cX10_constant 11 = .ok (.ifCond .eq 10, 3) := by decide +kernel
theorem dX10_constant_14 : decode cX10_constant 14 = .ok (.aload_n 0, 1) := by decide +kernel
theorem dX10_constant_15 : decode cX10_constant 15 = .ok (.invokevirtual 106, 3) := by decide +kernel
theorem dX10_constant_18 : decode cX10_constant 18 = .ok (.ifCond .ne 5, 3) := by decide +kernel
theorem dX10_constant_21 : decode cX10_constant 21 = .ok (.iconst 0, 1) := by decide +kernel
theorem dX10_constant_22 : decode cX10_constant 22 = .ok (.ireturn, 1) := by decide +kernel
theorem dX10_constant_23 : decode cX10_constant 23 = .ok (.aload_n 0, 1) := by decide +kernel
theorem dX10_constant_24 : decode cX10_constant 24 = .ok (.new 66, 3) := by decide +kernel
theorem dX10_constant_27 : decode cX10_constant 27 = .ok (.dup, 1) := by decide +kernel
theorem dX10_constant_28 : decode cX10_constant 28 = .ok (.aload_n 0, 1) := by decide +kernel
theorem dX10_constant_29 : decode cX10_constant 29 = .ok (.getfield 44, 3) := by decide +kernel
theorem dX10_constant_32 : decode cX10_constant 32 = .ok (.iconst 0, 1) := by decide +kernel
theorem dX10_constant_33 : decode cX10_constant 33 = .ok (.aload_n 0, 1) := by decide +kernel
theorem dX10_constant_34 : decode cX10_constant 34 = .ok (.getfield 20, 3) := by decide +kernel
theorem dX10_constant_37 : decode cX10_constant 37 = .ok (.iload_n 1, 1) := by decide +kernel
theorem dX10_constant_38 : decode cX10_constant 38 = .ok (.invokespecial 71, 3) := by decide +kernel
theorem dX10_constant_41 : decode cX10_constant 41 = .ok (.invokevirtual 74, 3) := by decide +kernel
theorem dX10_constant_44 : decode cX10_constant 44 = .ok (.aload_n 0, 1) := by decide +kernel
theorem dX10_constant_45 : decode cX10_constant 45 = .ok (.getfield 20, 3) := by decide +kernel
theorem dX10_constant_48 : decode cX10_constant 48 = .ok (.iload_n 1, 1) := by decide +kernel
theorem dX10_constant_49 : decode cX10_constant 49 = .ok (.iload_n 2, 1) := by decide +kernel
theorem dX10_constant_50 : decode cX10_constant 50 = .ok (.i2d, 1) := by decide +kernel
theorem dX10_constant_51 : decode cX10_constant 51 = .ok (.iload_n 3, 1) := by decide +kernel
theorem dX10_constant_52 : decode cX10_constant 52 = .ok (.invokestatic 78, 3) := by decide +kernel
theorem dX10_constant_55 : decode cX10_constant 55 = .ok (.dmul, 1) := by decide +kernel
theorem dX10_constant_56 : decode cX10_constant 56 = .ok (.invokevirtual 92, 3) := by decide +kernel
theorem dX10_constant_59 : decode cX10_constant 59 = .ok (.iconst 1, 1) := by decide +kernel
theorem dX10_constant_60 : decode cX10_constant 60 = .ok (.ireturn, 1) := by decide +kernel
theorem dX10_constantSpecial_0 : decode cX10_constantSpecial 0 = .ok (.iload_n 1, 1) := by decide +kernel
theorem dX10_constantSpecial_1 : decode cX10_constantSpecial 1 = .ok (.invokestatic 103, 3) := by decide +kernel
theorem dX10_constantSpecial_4 : decode cX10_constantSpecial 4 = .ok (.ifCond .eq 17, 3) := by decide +kernel
theorem dX10_constantSpecial_7 : decode cX10_constantSpecial 7 = .ok (.iload_n 2, 1) := by decide +kernel
theorem dX10_constantSpecial_8 : decode cX10_constantSpecial 8 = .ok (.invokestatic 96, 3) := by decide +kernel
theorem dX10_constantSpecial_11 : decode cX10_constantSpecial 11 = .ok (.ifCond .eq 10, 3) := by decide +kernel
theorem dX10_constantSpecial_14 : decode cX10_constantSpecial 14 = .ok (.aload_n 0, 1) := by decide +kernel
theorem dX10_constantSpecial_15 : decode cX10_constantSpecial 15 = .ok (.invokevirtual 106, 3) := by decide +kernel
theorem dX10_constantSpecial_18 : decode cX10_constantSpecial 18 = .ok (.ifCond .ne 5, 3) := by decide +kernel
theorem dX10_constantSpecial_21 : decode cX10_constantSpecial 21 = .ok (.iconst 0, 1) := by decide +kernel
theorem dX10_constantSpecial_22 : decode cX10_constantSpecial 22 = .ok (.ireturn, 1) := by decide +kernel
theorem dX10_constantSpecial_23 : decode cX10_constantSpecial 23 = .ok (.aload_n 0, 1) := by decide +kernel
theorem dX10_constantSpecial_24 : decode cX10_constantSpecial 24 = .ok (.new 66, 3) := by decide +kernel
theorem dX10_constantSpecial_27 : decode cX10_constantSpecial 27 = .ok (.dup, 1) := by decide +kernel
theorem dX10_constantSpecial_28 : decode cX10_constantSpecial 28 = .ok (.aload_n 0, 1) := by decide +kernel
theorem dX10_constantSpecial_29 : decode cX10_constantSpecial 29 = .ok (.getfield 44, 3) := by decide +kernel
theorem dX10_constantSpecial_32 : decode cX10_constantSpecial 32 = .ok (.iconst 0, 1) := by decide +kernel
theorem dX10_constantSpecial_33 : decode cX10_constantSpecial 33 = .ok (.aload_n 0, 1) := by decide +kernel
theorem dX10_constantSpecial_34 : decode cX10_constantSpecial 34 = .ok (.getfield 20, 3) := by decide +kernel
theorem dX10_constantSpecial_37 : decode cX10_constantSpecial 37 = .ok (.iload_n 1, 1) := by decide +kernel
theorem dX10_constantSpecial_38 : decode cX10_constantSpecial 38 = .ok (.invokespecial 71, 3) := by decide +kernel
theorem dX10_constantSpecial_41 : decode cX10_constantSpecial 41 = .ok (.invokevirtual 74, 3) := by decide +kernel
theorem dX10_constantSpecial_44 : decode cX10_constantSpecial 44 = .ok (.aload_n 0, 1) := by decide +kernel
theorem dX10_constantSpecial_45 : decode cX10_constantSpecial 45 = .ok (.getfield 20, 3) := by decide +kernel
theorem dX10_constantSpecial_48 : decode cX10_constantSpecial 48 = .ok (.iload_n 1, 1) := by decide +kernel
theorem dX10_constantSpecial_49 : decode cX10_constantSpecial 49 = .ok (.iload_n 2, 1) := by decide +kernel
theorem dX10_constantSpecial_50 : decode cX10_constantSpecial 50 = .ok (.iconst 0, 1) := by decide +kernel
theorem dX10_constantSpecial_51 : decode cX10_constantSpecial 51 = .ok (.invokevirtual 99, 3) := by decide +kernel
theorem dX10_constantSpecial_54 : decode cX10_constantSpecial 54 = .ok (.iconst 1, 1) := by decide +kernel
theorem dX10_constantSpecial_55 : decode cX10_constantSpecial 55 = .ok (.ireturn, 1) := by decide +kernel
theorem dX10_formula_0 : decode cX10_formula 0 = .ok (.iload_n 1, 1) := by decide +kernel
theorem dX10_formula_1 : decode cX10_formula 1 = .ok (.invokestatic 110, 3) := by decide +kernel
theorem dX10_formula_4 : decode cX10_formula 4 = .ok (.ifCond .eq 21, 3) := by decide +kernel
theorem dX10_formula_7 : decode cX10_formula 7 = .ok (.iload 5, 2) := by decide +kernel
theorem dX10_formula_9 : decode cX10_formula 9 = .ok (.invokestatic 113, 3) := by decide +kernel
theorem dX10_formula_12 : decode cX10_formula 12 = .ok (.ifCond .eq 13, 3) := by decide +kernel
theorem dX10_formula_15 : decode cX10_formula 15 = .ok (.iload_n 2, 1) := by decide +kernel
theorem dX10_formula_16 : decode cX10_formula 16 = .ok (.ifCond .lt 9, 3) := by decide +kernel
theorem dX10_formula_19 : decode cX10_formula 19 = .ok (.iload_n 2, 1) := by decide +kernel
theorem dX10_formula_20 : decode cX10_formula 20 = .ok (.bipush 27, 2) := by decide +kernel
theorem dX10_formula_22 : decode cX10_formula 22 = .ok (.if_icmp .lt 5, 3) := by decide +kernel
theorem dX10_formula_25 : decode cX10_formula 25 = .ok (.iconst 0, 1) := by decide +kernel
theorem dX10_formula_26 : decode cX10_formula 26 = .ok (.ireturn, 1) := by decide +kernel
theorem dX10_formula_27 : decode cX10_formula 27 = .ok (.iload_n 3, 1) := by decide +kernel
theorem dX10_formula_28 : decode cX10_formula 28 = .ok (.ifCond .lt 34, 3) := by decide +kernel
theorem dX10_formula_31 : decode cX10_formula 31 = .ok (.iload_n 3, 1) := by decide +kernel
theorem dX10_formula_32 : decode cX10_formula 32 = .ok (.iload_n 1, 1) := by decide +kernel
theorem dX10_formula_33 : decode cX10_formula 33 = .ok (.if_icmp .ge 29, 3) := by decide +kernel
theorem dX10_formula_36 : decode cX10_formula 36 = .ok (.iload 4, 2) := by decide +kernel
theorem dX10_formula_38 : decode cX10_formula 38 = .ok (.ifCond .lt 24, 3) := by decide +kernel
theorem dX10_formula_41 : decode cX10_formula 41 = .ok (.iload 4, 2) := by decide +kernel
theorem dX10_formula_43 : decode cX10_formula 43 = .ok (.iload_n 1, 1) := by decide +kernel
theorem dX10_formula_44 : decode cX10_formula 44 = .ok (.if_icmp .lt 11, 3) := by decide +kernel
theorem dX10_formula_47 : decode cX10_formula 47 = .ok (.iload 4, 2) := by decide +kernel
theorem dX10_formula_49 : decode cX10_formula 49 = .ok (.invokestatic 116, 3) := by decide +kernel
theorem dX10_formula_52 : decode cX10_formula 52 = .ok (.ifCond .eq 10, 3) := by decide +kernel
theorem dX10_formula_55 : decode cX10_formula 55 = .ok (.aload_n 0, 1) := by decide +kernel
theorem dX10_formula_56 : decode cX10_formula 56 = .ok (.invokevirtual 106, 3) := by decide +kernel
theorem dX10_formula_59 : decode cX10_formula 59 = .ok (.ifCond .ne 5, 3) := by decide +kernel
theorem dX10_formula_62 : decode cX10_formula 62 = .ok (.iconst 0, 1) := by decide +kernel
theorem dX10_formula_63 : decode cX10_formula 63 = .ok (.ireturn, 1) := by decide +kernel
theorem dX10_formula_64 : decode cX10_formula 64 = .ok (.aload_n 0, 1) := by decide +kernel
theorem dX10_formula_65 : decode cX10_formula 65 = .ok (.getfield 11, 3) := by decide +kernel
theorem dX10_formula_68 : decode cX10_formula 68 = .ok (.iload_n 1, 1) := by decide +kernel
theorem dX10_formula_69 : decode cX10_formula 69 = .ok (.aaload, 1) := by decide +kernel
theorem dX10_formula_70 : decode cX10_formula 70 = .ok (.astore 6, 2) := by decide +kernel
theorem dX10_formula_72 : decode cX10_formula 72 = .ok (.aload_n 0, 1) := by decide +kernel
theorem dX10_formula_73 : decode cX10_formula 73 = .ok (.new 119, 3) := by decide +kernel
theorem dX10_formula_76 : decode cX10_formula 76 = .ok (.dup, 1) := by decide +kernel
theorem dX10_formula_77 : decode cX10_formula 77 = .ok (.aload_n 0, 1) := by decide +kernel
theorem dX10_formula_78 : decode cX10_formula 78 = .ok (.getfield 44, 3) := by decide +kernel
theorem dX10_formula_81 : decode cX10_formula 81 = .ok (.iload_n 1, 1) := by decide +kernel
theorem dX10_formula_82 : decode cX10_formula 82 = .ok (.aload 6, 2) := by decide +kernel
theorem dX10_formula_84 : decode cX10_formula 84 = .ok (.invokespecial 121, 3) := by decide +kernel
theorem dX10_formula_87 : decode cX10_formula 87 = .ok (.invokevirtual 74, 3) := by decide +kernel
theorem dX10_formula_90 : decode cX10_formula 90 = .ok (.aload 6, 2) := by decide +kernel
theorem dX10_formula_92 : decode cX10_formula 92 = .ok (.iload_n 2, 1) := by decide +kernel
theorem dX10_formula_93 : decode cX10_formula 93 = .ok (.putfield 124, 3) := by decide +kernel
theorem dX10_formula_96 : decode cX10_formula 96 = .ok (.aload 6, 2) := by decide +kernel
theorem dX10_formula_98 : decode cX10_formula 98 = .ok (.iload_n 3, 1) := by decide +kernel
theorem dX10_formula_99 : decode cX10_formula 99 = .ok (.putfield 127, 3) := by decide +kernel
theorem dX10_formula_102 : decode cX10_formula 102 = .ok (.aload 6, 2) := by decide +kernel
theorem dX10_formula_104 : decode cX10_formula 104 = .ok (.iload 4, 2) := by decide +kernel
theorem dX10_formula_106 : decode cX10_formula 106 = .ok (.putfield 130, 3) := by decide +kernel
theorem dX10_formula_109 : decode cX10_formula 109 = .ok (.aload 6, 2) := by decide +kernel
theorem dX10_formula_111 : decode cX10_formula 111 = .ok (.iload 5, 2) := by decide +kernel
theorem dX10_formula_113 : decode cX10_formula 113 = .ok (.putfield 133, 3) := by decide +kernel
theorem dX10_formula_116 : decode cX10_formula 116 = .ok (.iconst 1, 1) := by decide +kernel
theorem dX10_formula_117 : decode cX10_formula 117 = .ok (.ireturn, 1) := by decide +kernel
theorem dX10_input_0 : decode cX10_input 0 = .ok (.iload_n 1, 1) := by decide +kernel
theorem dX10_input_1 : decode cX10_input 1 = .ok (.invokestatic 110, 3) := by decide +kernel
theorem dX10_input_4 : decode cX10_input 4 = .ok (.ifCond .eq 22, 3) := by decide +kernel
theorem dX10_input_7 : decode cX10_input 7 = .ok (.aload_n 0, 1) := by decide +kernel
theorem dX10_input_8 : decode cX10_input 8 = .ok (.getfield 11, 3) := by decide +kernel
theorem dX10_input_11 : decode cX10_input 11 = .ok (.iload_n 1, 1) := by decide +kernel
theorem dX10_input_12 : decode cX10_input 12 = .ok (.aaload, 1) := by decide +kernel
theorem dX10_input_13 : decode cX10_input 13 = .ok (.invokevirtual 136, 3) := by decide +kernel
theorem dX10_input_16 : decode cX10_input 16 = .ok (.ifCond .eq 10, 3) := by decide +kernel
theorem dX10_input_19 : decode cX10_input 19 = .ok (.aload_n 0, 1) := by decide +kernel
theorem dX10_input_20 : decode cX10_input 20 = .ok (.invokevirtual 106, 3) := by decide +kernel
theorem dX10_input_23 : decode cX10_input 23 = .ok (.ifCond .ne 5, 3) := by decide +kernel
theorem dX10_input_26 : decode cX10_input 26 = .ok (.iconst 0, 1) := by decide +kernel
theorem dX10_input_27 : decode cX10_input 27 = .ok (.ireturn, 1) := by decide +kernel
theorem dX10_input_28 : decode cX10_input 28 = .ok (.aload_n 0, 1) := by decide +kernel
theorem dX10_input_29 : decode cX10_input 29 = .ok (.iload_n 1, 1) := by decide +kernel
theorem dX10_input_30 : decode cX10_input 30 = .ok (.invokevirtual 139, 3) := by decide +kernel
theorem dX10_input_33 : decode cX10_input 33 = .ok (.aload_n 0, 1) := by decide +kernel
theorem dX10_input_34 : decode cX10_input 34 = .ok (.getfield 11, 3) := by decide +kernel
theorem dX10_input_37 : decode cX10_input 37 = .ok (.iload_n 1, 1) := by decide +kernel
theorem dX10_input_38 : decode cX10_input 38 = .ok (.aaload, 1) := by decide +kernel
theorem dX10_input_39 : decode cX10_input 39 = .ok (.astore_n 2, 1) := by decide +kernel
theorem dX10_input_40 : decode cX10_input 40 = .ok (.aload_n 0, 1) := by decide +kernel
theorem dX10_input_41 : decode cX10_input 41 = .ok (.new 119, 3) := by decide +kernel
theorem dX10_input_44 : decode cX10_input 44 = .ok (.dup, 1) := by decide +kernel
theorem dX10_input_45 : decode cX10_input 45 = .ok (.aload_n 0, 1) := by decide +kernel
theorem dX10_input_46 : decode cX10_input 46 = .ok (.getfield 44, 3) := by decide +kernel
theorem dX10_input_49 : decode cX10_input 49 = .ok (.iload_n 1, 1) := by decide +kernel
theorem dX10_input_50 : decode cX10_input 50 = .ok (.aload_n 2, 1) := by decide +kernel
theorem dX10_input_51 : decode cX10_input 51 = .ok (.invokespecial 121, 3) := by decide +kernel
theorem dX10_input_54 : decode cX10_input 54 = .ok (.invokevirtual 74, 3) := by decide +kernel
theorem dX10_input_57 : decode cX10_input 57 = .ok (.aload_n 2, 1) := by decide +kernel
theorem dX10_input_58 : decode cX10_input 58 = .ok (.iconst (-1), 1) := by decide +kernel
theorem dX10_input_59 : decode cX10_input 59 = .ok (.putfield 124, 3) := by decide +kernel
theorem dX10_input_62 : decode cX10_input 62 = .ok (.iconst 1, 1) := by decide +kernel
theorem dX10_input_63 : decode cX10_input 63 = .ok (.ireturn, 1) := by decide +kernel
theorem dX10_width_0 : decode cX10_width 0 = .ok (.iload_n 1, 1) := by decide +kernel
theorem dX10_width_1 : decode cX10_width 1 = .ok (.invokestatic 110, 3) := by decide +kernel
theorem dX10_width_4 : decode cX10_width 4 = .ok (.ifCond .eq 23, 3) := by decide +kernel
theorem dX10_width_7 : decode cX10_width 7 = .ok (.aload_n 0, 1) := by decide +kernel
theorem dX10_width_8 : decode cX10_width 8 = .ok (.getfield 11, 3) := by decide +kernel
theorem dX10_width_11 : decode cX10_width 11 = .ok (.iload_n 1, 1) := by decide +kernel
theorem dX10_width_12 : decode cX10_width 12 = .ok (.aaload, 1) := by decide +kernel
theorem dX10_width_13 : decode cX10_width 13 = .ok (.getfield 84, 3) := by decide +kernel
theorem dX10_width_16 : decode cX10_width 16 = .ok (.iload_n 2, 1) := by decide +kernel
theorem dX10_width_17 : decode cX10_width 17 = .ok (.if_icmp .eq 10, 3) := by decide +kernel
theorem dX10_width_20 : decode cX10_width 20 = .ok (.aload_n 0, 1) := by decide +kernel
theorem dX10_width_21 : decode cX10_width 21 = .ok (.invokevirtual 106, 3) := by decide +kernel
theorem dX10_width_24 : decode cX10_width 24 = .ok (.ifCond .ne 5, 3) := by decide +kernel
theorem dX10_width_27 : decode cX10_width 27 = .ok (.iconst 0, 1) := by decide +kernel
theorem dX10_width_28 : decode cX10_width 28 = .ok (.ireturn, 1) := by decide +kernel
theorem dX10_width_29 : decode cX10_width 29 = .ok (.aload_n 0, 1) := by decide +kernel
theorem dX10_width_30 : decode cX10_width 30 = .ok (.getfield 11, 3) := by decide +kernel
theorem dX10_width_33 : decode cX10_width 33 = .ok (.iload_n 1, 1) := by decide +kernel
theorem dX10_width_34 : decode cX10_width 34 = .ok (.aaload, 1) := by decide +kernel
theorem dX10_width_35 : decode cX10_width 35 = .ok (.astore_n 3, 1) := by decide +kernel
theorem dX10_width_36 : decode cX10_width 36 = .ok (.aload_n 0, 1) := by decide +kernel
theorem dX10_width_37 : decode cX10_width 37 = .ok (.new 119, 3) := by decide +kernel
theorem dX10_width_40 : decode cX10_width 40 = .ok (.dup, 1) := by decide +kernel
theorem dX10_width_41 : decode cX10_width 41 = .ok (.aload_n 0, 1) := by decide +kernel
theorem dX10_width_42 : decode cX10_width 42 = .ok (.getfield 44, 3) := by decide +kernel
theorem dX10_width_45 : decode cX10_width 45 = .ok (.iload_n 1, 1) := by decide +kernel
theorem dX10_width_46 : decode cX10_width 46 = .ok (.aload_n 3, 1) := by decide +kernel
theorem dX10_width_47 : decode cX10_width 47 = .ok (.invokespecial 121, 3) := by decide +kernel
theorem dX10_width_50 : decode cX10_width 50 = .ok (.invokevirtual 74, 3) := by decide +kernel
theorem dX10_width_53 : decode cX10_width 53 = .ok (.aload_n 3, 1) := by decide +kernel
theorem dX10_width_54 : decode cX10_width 54 = .ok (.iload_n 2, 1) := by decide +kernel
theorem dX10_width_55 : decode cX10_width 55 = .ok (.putfield 84, 3) := by decide +kernel
theorem dX10_width_58 : decode cX10_width 58 = .ok (.aload_n 3, 1) := by decide +kernel
theorem dX10_width_59 : decode cX10_width 59 = .ok (.invokevirtual 136, 3) := by decide +kernel
theorem dX10_width_62 : decode cX10_width 62 = .ok (.ifCond .ne 35, 3) := by decide +kernel
theorem dX10_width_65 : decode cX10_width 65 = .ok (.iconst 0, 1) := by decide +kernel
theorem dX10_width_66 : decode cX10_width 66 = .ok (.istore 4, 2) := by decide +kernel
theorem dX10_width_68 : decode cX10_width 68 = .ok (.iload 4, 2) := by decide +kernel
theorem dX10_width_70 : decode cX10_width 70 = .ok (.bipush 16, 2) := by decide +kernel
theorem dX10_width_72 : decode cX10_width 72 = .ok (.if_icmp .ge 25, 3) := by decide +kernel
theorem dX10_width_75 : decode cX10_width 75 = .ok (.aload_n 3, 1) := by decide +kernel
theorem dX10_width_76 : decode cX10_width 76 = .ok (.getfield 68, 3) := by decide +kernel
theorem dX10_width_79 : decode cX10_width 79 = .ok (.iload 4, 2) := by decide +kernel
theorem dX10_width_81 : decode cX10_width 81 = .ok (.aload_n 3, 1) := by decide +kernel
theorem dX10_width_82 : decode cX10_width 82 = .ok (.getfield 68, 3) := by decide +kernel
theorem dX10_width_85 : decode cX10_width 85 = .ok (.iload 4, 2) := by decide +kernel
theorem dX10_width_87 : decode cX10_width 87 = .ok (.iload_n 2, 1) := by decide +kernel
theorem dX10_width_88 : decode cX10_width 88 = .ok (.invokevirtual 142, 3) := by decide +kernel
theorem dX10_width_91 : decode cX10_width 91 = .ok (.iinc 4 1, 3) := by decide +kernel
theorem dX10_width_94 : decode cX10_width 94 = .ok (.goto (-26), 3) := by decide +kernel
theorem dX10_width_97 : decode cX10_width 97 = .ok (.iconst 1, 1) := by decide +kernel
theorem dX10_width_98 : decode cX10_width 98 = .ok (.ireturn, 1) := by decide +kernel
theorem dX10_back_0 : decode cX10_back 0 = .ok (.aload_n 0, 1) := by decide +kernel
theorem dX10_back_1 : decode cX10_back 1 = .ok (.getfield 44, 3) := by decide +kernel
theorem dX10_back_4 : decode cX10_back 4 = .ok (.astore_n 1, 1) := by decide +kernel
theorem dX10_back_5 : decode cX10_back 5 = .ok (.aload_n 1, 1) := by decide +kernel
theorem dX10_back_6 : decode cX10_back 6 = .ok (.ifnonnull 5, 3) := by decide +kernel
theorem dX10_back_9 : decode cX10_back 9 = .ok (.iconst (-1), 1) := by decide +kernel
theorem dX10_back_10 : decode cX10_back 10 = .ok (.ireturn, 1) := by decide +kernel
theorem dX10_back_11 : decode cX10_back 11 = .ok (.aload_n 1, 1) := by decide +kernel
theorem dX10_back_12 : decode cX10_back 12 = .ok (.invokevirtual 146, 3) := by decide +kernel
theorem dX10_back_15 : decode cX10_back 15 = .ok (.aload_n 0, 1) := by decide +kernel
theorem dX10_back_16 : decode cX10_back 16 = .ok (.aload_n 0, 1) := by decide +kernel
theorem dX10_back_17 : decode cX10_back 17 = .ok (.getfield 51, 3) := by decide +kernel
theorem dX10_back_20 : decode cX10_back 20 = .ok (.aload_n 1, 1) := by decide +kernel
theorem dX10_back_21 : decode cX10_back 21 = .ok (.getfield 151, 3) := by decide +kernel
theorem dX10_back_24 : decode cX10_back 24 = .ok (.invokestatic 154, 3) := by decide +kernel
theorem dX10_back_27 : decode cX10_back 27 = .ok (.putfield 51, 3) := by decide +kernel
theorem dX10_back_30 : decode cX10_back 30 = .ok (.aload_n 0, 1) := by decide +kernel
theorem dX10_back_31 : decode cX10_back 31 = .ok (.aload_n 1, 1) := by decide +kernel
theorem dX10_back_32 : decode cX10_back 32 = .ok (.getfield 160, 3) := by decide +kernel
theorem dX10_back_35 : decode cX10_back 35 = .ok (.putfield 44, 3) := by decide +kernel
theorem dX10_back_38 : decode cX10_back 38 = .ok (.aload_n 0, 1) := by decide +kernel
theorem dX10_back_39 : decode cX10_back 39 = .ok (.dup, 1) := by decide +kernel
theorem dX10_back_40 : decode cX10_back 40 = .ok (.getfield 48, 3) := by decide +kernel
theorem dX10_back_43 : decode cX10_back 43 = .ok (.iconst 1, 1) := by decide +kernel
theorem dX10_back_44 : decode cX10_back 44 = .ok (.isub, 1) := by decide +kernel
theorem dX10_back_45 : decode cX10_back 45 = .ok (.putfield 48, 3) := by decide +kernel
theorem dX10_back_48 : decode cX10_back 48 = .ok (.aload_n 0, 1) := by decide +kernel
theorem dX10_back_49 : decode cX10_back 49 = .ok (.getfield 48, 3) := by decide +kernel
theorem dX10_back_52 : decode cX10_back 52 = .ok (.ireturn, 1) := by decide +kernel
theorem dX10_alarm_0 : decode cX10_alarm 0 = .ok (.iload_n 1, 1) := by decide +kernel
theorem dX10_alarm_1 : decode cX10_alarm 1 = .ok (.invokestatic 110, 3) := by decide +kernel
theorem dX10_alarm_4 : decode cX10_alarm 4 = .ok (.ifCond .eq 24, 3) := by decide +kernel
theorem dX10_alarm_7 : decode cX10_alarm 7 = .ok (.iload_n 2, 1) := by decide +kernel
theorem dX10_alarm_8 : decode cX10_alarm 8 = .ok (.invokestatic 113, 3) := by decide +kernel
theorem dX10_alarm_11 : decode cX10_alarm 11 = .ok (.ifCond .eq 17, 3) := by decide +kernel
theorem dX10_alarm_14 : decode cX10_alarm 14 = .ok (.iload_n 3, 1) := by decide +kernel
theorem dX10_alarm_15 : decode cX10_alarm 15 = .ok (.invokestatic 110, 3) := by decide +kernel
theorem dX10_alarm_18 : decode cX10_alarm 18 = .ok (.ifCond .ne 12, 3) := by decide +kernel
theorem dX10_alarm_21 : decode cX10_alarm 21 = .ok (.iload_n 3, 1) := by decide +kernel
theorem dX10_alarm_22 : decode cX10_alarm 22 = .ok (.invokestatic 116, 3) := by decide +kernel
theorem dX10_alarm_25 : decode cX10_alarm 25 = .ok (.ifCond .ne 5, 3) := by decide +kernel
theorem dX10_alarm_28 : decode cX10_alarm 28 = .ok (.iconst (-1), 1) := by decide +kernel
theorem dX10_alarm_29 : decode cX10_alarm 29 = .ok (.ireturn, 1) := by decide +kernel
theorem dX10_alarm_30 : decode cX10_alarm 30 = .ok (.aload_n 0, 1) := by decide +kernel
theorem dX10_alarm_31 : decode cX10_alarm 31 = .ok (.getfield 37, 3) := by decide +kernel
theorem dX10_alarm_34 : decode cX10_alarm 34 = .ok (.bipush 10, 2) := by decide +kernel
theorem dX10_alarm_36 : decode cX10_alarm 36 = .ok (.if_icmp .lt 5, 3) := by decide +kernel
theorem dX10_alarm_39 : decode cX10_alarm 39 = .ok (.iconst (-1), 1) := by decide +kernel
theorem dX10_alarm_40 : decode cX10_alarm 40 = .ok (.ireturn, 1) := by decide +kernel
theorem dX10_alarm_41 : decode cX10_alarm 41 = .ok (.aload_n 0, 1) := by decide +kernel
theorem dX10_alarm_42 : decode cX10_alarm 42 = .ok (.getfield 33, 3) := by decide +kernel
theorem dX10_alarm_45 : decode cX10_alarm 45 = .ok (.aload_n 0, 1) := by decide +kernel
theorem dX10_alarm_46 : decode cX10_alarm 46 = .ok (.getfield 37, 3) := by decide +kernel
theorem dX10_alarm_49 : decode cX10_alarm 49 = .ok (.aaload, 1) := by decide +kernel
theorem dX10_alarm_50 : decode cX10_alarm 50 = .ok (.astore 4, 2) := by decide +kernel
theorem dX10_alarm_52 : decode cX10_alarm 52 = .ok (.aload 4, 2) := by decide +kernel
theorem dX10_alarm_54 : decode cX10_alarm 54 = .ok (.iload_n 1, 1) := by decide +kernel
theorem dX10_alarm_55 : decode cX10_alarm 55 = .ok (.putfield 163, 3) := by decide +kernel
theorem dX10_alarm_58 : decode cX10_alarm 58 = .ok (.aload 4, 2) := by decide +kernel
theorem dX10_alarm_60 : decode cX10_alarm 60 = .ok (.iload_n 2, 1) := by decide +kernel
theorem dX10_alarm_61 : decode cX10_alarm 61 = .ok (.putfield 164, 3) := by decide +kernel
theorem dX10_alarm_64 : decode cX10_alarm 64 = .ok (.aload 4, 2) := by decide +kernel
theorem dX10_alarm_66 : decode cX10_alarm 66 = .ok (.iload_n 3, 1) := by decide +kernel
theorem dX10_alarm_67 : decode cX10_alarm 67 = .ok (.putfield 165, 3) := by decide +kernel
theorem dX10_alarm_70 : decode cX10_alarm 70 = .ok (.aload_n 0, 1) := by decide +kernel
theorem dX10_alarm_71 : decode cX10_alarm 71 = .ok (.dup, 1) := by decide +kernel
theorem dX10_alarm_72 : decode cX10_alarm 72 = .ok (.getfield 37, 3) := by decide +kernel
theorem dX10_alarm_75 : decode cX10_alarm 75 = .ok (.iconst 1, 1) := by decide +kernel
theorem dX10_alarm_76 : decode cX10_alarm 76 = .ok (.iadd, 1) := by decide +kernel
theorem dX10_alarm_77 : decode cX10_alarm 77 = .ok (.putfield 37, 3) := by decide +kernel
theorem dX10_alarm_80 : decode cX10_alarm 80 = .ok (.aload_n 0, 1) := by decide +kernel
theorem dX10_alarm_81 : decode cX10_alarm 81 = .ok (.getfield 37, 3) := by decide +kernel
theorem dX10_alarm_84 : decode cX10_alarm 84 = .ok (.iconst 1, 1) := by decide +kernel
theorem dX10_alarm_85 : decode cX10_alarm 85 = .ok (.isub, 1) := by decide +kernel
theorem dX10_alarm_86 : decode cX10_alarm 86 = .ok (.ireturn, 1) := by decide +kernel
theorem dX10_ring_0 : decode cX10_ring 0 = .ok (.aload_n 0, 1) := by decide +kernel
theorem dX10_ring_1 : decode cX10_ring 1 = .ok (.bipush 11, 2) := by decide +kernel
theorem dX10_ring_3 : decode cX10_ring 3 = .ok (.invokevirtual 139, 3) := by decide +kernel
theorem dX10_ring_6 : decode cX10_ring 6 = .ok (.aload_n 0, 1) := by decide +kernel
theorem dX10_ring_7 : decode cX10_ring 7 = .ok (.dup, 1) := by decide +kernel
theorem dX10_ring_8 : decode cX10_ring 8 = .ok (.getfield 41, 3) := by decide +kernel
theorem dX10_ring_11 : decode cX10_ring 11 = .ok (.iconst 1, 1) := by decide +kernel
theorem dX10_ring_12 : decode cX10_ring 12 = .ok (.iadd, 1) := by decide +kernel
theorem dX10_ring_13 : decode cX10_ring 13 = .ok (.putfield 41, 3) := by decide +kernel
theorem dX10_ring_16 : decode cX10_ring 16 = .ok (.iconst 0, 1) := by decide +kernel
theorem dX10_ring_17 : decode cX10_ring 17 = .ok (.istore_n 1, 1) := by decide +kernel
theorem dX10_ring_18 : decode cX10_ring 18 = .ok (.iconst 0, 1) := by decide +kernel
theorem dX10_ring_19 : decode cX10_ring 19 = .ok (.istore_n 2, 1) := by decide +kernel
theorem dX10_ring_20 : decode cX10_ring 20 = .ok (.iload_n 2, 1) := by decide +kernel
theorem dX10_ring_21 : decode cX10_ring 21 = .ok (.aload_n 0, 1) := by decide +kernel
theorem dX10_ring_22 : decode cX10_ring 22 = .ok (.getfield 37, 3) := by decide +kernel
theorem dX10_ring_25 : decode cX10_ring 25 = .ok (.if_icmp .ge 49, 3) := by decide +kernel
theorem dX10_ring_28 : decode cX10_ring 28 = .ok (.iload_n 2, 1) := by decide +kernel
theorem dX10_ring_29 : decode cX10_ring 29 = .ok (.bipush 10, 2) := by decide +kernel
theorem dX10_ring_31 : decode cX10_ring 31 = .ok (.if_icmp .ge 43, 3) := by decide +kernel
theorem dX10_ring_34 : decode cX10_ring 34 = .ok (.aload_n 0, 1) := by decide +kernel
theorem dX10_ring_35 : decode cX10_ring 35 = .ok (.getfield 33, 3) := by decide +kernel
theorem dX10_ring_38 : decode cX10_ring 38 = .ok (.iload_n 2, 1) := by decide +kernel
theorem dX10_ring_39 : decode cX10_ring 39 = .ok (.aaload, 1) := by decide +kernel
theorem dX10_ring_40 : decode cX10_ring 40 = .ok (.aload_n 0, 1) := by decide +kernel
theorem dX10_ring_41 : decode cX10_ring 41 = .ok (.aload_n 0, 1) := by decide +kernel
theorem dX10_ring_42 : decode cX10_ring 42 = .ok (.getfield 33, 3) := by decide +kernel
theorem dX10_ring_45 : decode cX10_ring 45 = .ok (.iload_n 2, 1) := by decide +kernel
theorem dX10_ring_46 : decode cX10_ring 46 = .ok (.aaload, 1) := by decide +kernel
theorem dX10_ring_47 : decode cX10_ring 47 = .ok (.invokevirtual 166, 3) := by decide +kernel
theorem dX10_ring_50 : decode cX10_ring 50 = .ok (.invokevirtual 170, 3) := by decide +kernel
theorem dX10_ring_53 : decode cX10_ring 53 = .ok (.iload_n 1, 1) := by decide +kernel
theorem dX10_ring_54 : decode cX10_ring 54 = .ok (.aload_n 0, 1) := by decide +kernel
theorem dX10_ring_55 : decode cX10_ring 55 = .ok (.getfield 33, 3) := by decide +kernel
theorem dX10_ring_58 : decode cX10_ring 58 = .ok (.iload_n 2, 1) := by decide +kernel
theorem dX10_ring_59 : decode cX10_ring 59 = .ok (.aaload, 1) := by decide +kernel
theorem dX10_ring_60 : decode cX10_ring 60 = .ok (.getfield 173, 3) := by decide +kernel
theorem dX10_ring_63 : decode cX10_ring 63 = .ok (.invokestatic 176, 3) := by decide +kernel
theorem dX10_ring_66 : decode cX10_ring 66 = .ok (.iadd, 1) := by decide +kernel
theorem dX10_ring_67 : decode cX10_ring 67 = .ok (.istore_n 1, 1) := by decide +kernel
theorem dX10_ring_68 : decode cX10_ring 68 = .ok (.iinc 2 1, 3) := by decide +kernel
theorem dX10_ring_71 : decode cX10_ring 71 = .ok (.goto (-51), 3) := by decide +kernel
theorem dX10_ring_74 : decode cX10_ring 74 = .ok (.iload_n 1, 1) := by decide +kernel
theorem dX10_ring_75 : decode cX10_ring 75 = .ok (.ireturn, 1) := by decide +kernel
theorem dX10_reading_0 : decode cX10_reading 0 = .ok (.iload_n 1, 1) := by decide +kernel
theorem dX10_reading_1 : decode cX10_reading 1 = .ok (.invokestatic 110, 3) := by decide +kernel
theorem dX10_reading_4 : decode cX10_reading 4 = .ok (.ifCond .eq 10, 3) := by decide +kernel
theorem dX10_reading_7 : decode cX10_reading 7 = .ok (.iload_n 2, 1) := by decide +kernel
theorem dX10_reading_8 : decode cX10_reading 8 = .ok (.invokestatic 60, 3) := by decide +kernel
theorem dX10_reading_11 : decode cX10_reading 11 = .ok (.ifCond .ne 5, 3) := by decide +kernel
theorem dX10_reading_14 : decode cX10_reading 14 = .ok (.dconst 0, 1) := by decide +kernel
theorem dX10_reading_15 : decode cX10_reading 15 = .ok (.dreturn, 1) := by decide +kernel
theorem dX10_reading_16 : decode cX10_reading 16 = .ok (.aload_n 0, 1) := by decide +kernel
theorem dX10_reading_17 : decode cX10_reading 17 = .ok (.iload_n 1, 1) := by decide +kernel
theorem dX10_reading_18 : decode cX10_reading 18 = .ok (.invokevirtual 139, 3) := by decide +kernel
theorem dX10_reading_21 : decode cX10_reading 21 = .ok (.aload_n 0, 1) := by decide +kernel
theorem dX10_reading_22 : decode cX10_reading 22 = .ok (.getfield 11, 3) := by decide +kernel
theorem dX10_reading_25 : decode cX10_reading 25 = .ok (.iload_n 1, 1) := by decide +kernel
theorem dX10_reading_26 : decode cX10_reading 26 = .ok (.aaload, 1) := by decide +kernel
theorem dX10_reading_27 : decode cX10_reading 27 = .ok (.getfield 68, 3) := by decide +kernel
theorem dX10_reading_30 : decode cX10_reading 30 = .ok (.iload_n 2, 1) := by decide +kernel
theorem dX10_reading_31 : decode cX10_reading 31 = .ok (.invokevirtual 182, 3) := by decide +kernel
theorem dX10_reading_34 : decode cX10_reading 34 = .ok (.dreturn, 1) := by decide +kernel
theorem dX10_isBlank_0 : decode cX10_isBlank 0 = .ok (.iload_n 1, 1) := by decide +kernel
theorem dX10_isBlank_1 : decode cX10_isBlank 1 = .ok (.invokestatic 110, 3) := by decide +kernel
theorem dX10_isBlank_4 : decode cX10_isBlank 4 = .ok (.ifCond .eq 10, 3) := by decide +kernel
theorem dX10_isBlank_7 : decode cX10_isBlank 7 = .ok (.iload_n 2, 1) := by decide +kernel
theorem dX10_isBlank_8 : decode cX10_isBlank 8 = .ok (.invokestatic 60, 3) := by decide +kernel
theorem dX10_isBlank_11 : decode cX10_isBlank 11 = .ok (.ifCond .ne 5, 3) := by decide +kernel
theorem dX10_isBlank_14 : decode cX10_isBlank 14 = .ok (.iconst 0, 1) := by decide +kernel
theorem dX10_isBlank_15 : decode cX10_isBlank 15 = .ok (.ireturn, 1) := by decide +kernel
theorem dX10_isBlank_16 : decode cX10_isBlank 16 = .ok (.aload_n 0, 1) := by decide +kernel
theorem dX10_isBlank_17 : decode cX10_isBlank 17 = .ok (.iload_n 1, 1) := by decide +kernel
theorem dX10_isBlank_18 : decode cX10_isBlank 18 = .ok (.invokevirtual 139, 3) := by decide +kernel
theorem dX10_isBlank_21 : decode cX10_isBlank 21 = .ok (.aload_n 0, 1) := by decide +kernel
theorem dX10_isBlank_22 : decode cX10_isBlank 22 = .ok (.getfield 11, 3) := by decide +kernel
theorem dX10_isBlank_25 : decode cX10_isBlank 25 = .ok (.iload_n 1, 1) := by decide +kernel
theorem dX10_isBlank_26 : decode cX10_isBlank 26 = .ok (.aaload, 1) := by decide +kernel
theorem dX10_isBlank_27 : decode cX10_isBlank 27 = .ok (.getfield 68, 3) := by decide +kernel
theorem dX10_isBlank_30 : decode cX10_isBlank 30 = .ok (.iload_n 2, 1) := by decide +kernel
theorem dX10_isBlank_31 : decode cX10_isBlank 31 = .ok (.invokevirtual 185, 3) := by decide +kernel
theorem dX10_isBlank_34 : decode cX10_isBlank 34 = .ok (.ireturn, 1) := by decide +kernel
theorem dX10_isMinus_0 : decode cX10_isMinus 0 = .ok (.iload_n 1, 1) := by decide +kernel
theorem dX10_isMinus_1 : decode cX10_isMinus 1 = .ok (.invokestatic 110, 3) := by decide +kernel
theorem dX10_isMinus_4 : decode cX10_isMinus 4 = .ok (.ifCond .eq 10, 3) := by decide +kernel
theorem dX10_isMinus_7 : decode cX10_isMinus 7 = .ok (.iload_n 2, 1) := by decide +kernel
theorem dX10_isMinus_8 : decode cX10_isMinus 8 = .ok (.invokestatic 60, 3) := by decide +kernel
theorem dX10_isMinus_11 : decode cX10_isMinus 11 = .ok (.ifCond .ne 5, 3) := by decide +kernel
theorem dX10_isMinus_14 : decode cX10_isMinus 14 = .ok (.iconst 0, 1) := by decide +kernel
theorem dX10_isMinus_15 : decode cX10_isMinus 15 = .ok (.ireturn, 1) := by decide +kernel
theorem dX10_isMinus_16 : decode cX10_isMinus 16 = .ok (.aload_n 0, 1) := by decide +kernel
theorem dX10_isMinus_17 : decode cX10_isMinus 17 = .ok (.iload_n 1, 1) := by decide +kernel
theorem dX10_isMinus_18 : decode cX10_isMinus 18 = .ok (.invokevirtual 139, 3) := by decide +kernel
theorem dX10_isMinus_21 : decode cX10_isMinus 21 = .ok (.aload_n 0, 1) := by decide +kernel
theorem dX10_isMinus_22 : decode cX10_isMinus 22 = .ok (.getfield 11, 3) := by decide +kernel
theorem dX10_isMinus_25 : decode cX10_isMinus 25 = .ok (.iload_n 1, 1) := by decide +kernel
theorem dX10_isMinus_26 : decode cX10_isMinus 26 = .ok (.aaload, 1) := by decide +kernel
theorem dX10_isMinus_27 : decode cX10_isMinus 27 = .ok (.getfield 68, 3) := by decide +kernel
theorem dX10_isMinus_30 : decode cX10_isMinus 30 = .ok (.iload_n 2, 1) := by decide +kernel
theorem dX10_isMinus_31 : decode cX10_isMinus 31 = .ok (.invokevirtual 182, 3) := by decide +kernel
theorem dX10_isMinus_34 : decode cX10_isMinus 34 = .ok (.invokestatic 188, 3) := by decide +kernel
theorem dX10_isMinus_37 : decode cX10_isMinus 37 = .ok (.ireturn, 1) := by decide +kernel
theorem dX10_bits_0 : decode cX10_bits 0 = .ok (.iload_n 1, 1) := by decide +kernel
theorem dX10_bits_1 : decode cX10_bits 1 = .ok (.invokestatic 110, 3) := by decide +kernel
theorem dX10_bits_4 : decode cX10_bits 4 = .ok (.ifCond .eq 10, 3) := by decide +kernel
theorem dX10_bits_7 : decode cX10_bits 7 = .ok (.iload_n 2, 1) := by decide +kernel
theorem dX10_bits_8 : decode cX10_bits 8 = .ok (.invokestatic 60, 3) := by decide +kernel
theorem dX10_bits_11 : decode cX10_bits 11 = .ok (.ifCond .ne 5, 3) := by decide +kernel
theorem dX10_bits_14 : decode cX10_bits 14 = .ok (.lconst 0, 1) := by decide +kernel
theorem dX10_bits_15 : decode cX10_bits 15 = .ok (.lreturn, 1) := by decide +kernel
theorem dX10_bits_16 : decode cX10_bits 16 = .ok (.aload_n 0, 1) := by decide +kernel
theorem dX10_bits_17 : decode cX10_bits 17 = .ok (.iload_n 1, 1) := by decide +kernel
theorem dX10_bits_18 : decode cX10_bits 18 = .ok (.invokevirtual 139, 3) := by decide +kernel
theorem dX10_bits_21 : decode cX10_bits 21 = .ok (.aload_n 0, 1) := by decide +kernel
theorem dX10_bits_22 : decode cX10_bits 22 = .ok (.getfield 11, 3) := by decide +kernel
theorem dX10_bits_25 : decode cX10_bits 25 = .ok (.iload_n 1, 1) := by decide +kernel
theorem dX10_bits_26 : decode cX10_bits 26 = .ok (.aaload, 1) := by decide +kernel
theorem dX10_bits_27 : decode cX10_bits 27 = .ok (.getfield 68, 3) := by decide +kernel
theorem dX10_bits_30 : decode cX10_bits 30 = .ok (.iload_n 2, 1) := by decide +kernel
theorem dX10_bits_31 : decode cX10_bits 31 = .ok (.invokevirtual 182, 3) := by decide +kernel
theorem dX10_bits_34 : decode cX10_bits 34 = .ok (.aload_n 0, 1) := by decide +kernel
theorem dX10_bits_35 : decode cX10_bits 35 = .ok (.getfield 11, 3) := by decide +kernel
theorem dX10_bits_38 : decode cX10_bits 38 = .ok (.iload_n 1, 1) := by decide +kernel
theorem dX10_bits_39 : decode cX10_bits 39 = .ok (.aaload, 1) := by decide +kernel
theorem dX10_bits_40 : decode cX10_bits 40 = .ok (.getfield 84, 3) := by decide +kernel
theorem dX10_bits_43 : decode cX10_bits 43 = .ok (.invokestatic 192, 3) := by decide +kernel
theorem dX10_bits_46 : decode cX10_bits 46 = .ok (.lreturn, 1) := by decide +kernel
theorem dX10_compared_0 : decode cX10_compared 0 = .ok (.iload_n 1, 1) := by decide +kernel
theorem dX10_compared_1 : decode cX10_compared 1 = .ok (.invokestatic 110, 3) := by decide +kernel
theorem dX10_compared_4 : decode cX10_compared 4 = .ok (.ifCond .eq 17, 3) := by decide +kernel
theorem dX10_compared_7 : decode cX10_compared 7 = .ok (.iload_n 3, 1) := by decide +kernel
theorem dX10_compared_8 : decode cX10_compared 8 = .ok (.invokestatic 110, 3) := by decide +kernel
theorem dX10_compared_11 : decode cX10_compared 11 = .ok (.ifCond .eq 10, 3) := by decide +kernel
theorem dX10_compared_14 : decode cX10_compared 14 = .ok (.iload_n 2, 1) := by decide +kernel
theorem dX10_compared_15 : decode cX10_compared 15 = .ok (.invokestatic 113, 3) := by decide +kernel
theorem dX10_compared_18 : decode cX10_compared 18 = .ok (.ifCond .ne 5, 3) := by decide +kernel
theorem dX10_compared_21 : decode cX10_compared 21 = .ok (.iconst (-1), 1) := by decide +kernel
theorem dX10_compared_22 : decode cX10_compared 22 = .ok (.ireturn, 1) := by decide +kernel
theorem dX10_compared_23 : decode cX10_compared 23 = .ok (.aload_n 0, 1) := by decide +kernel
theorem dX10_compared_24 : decode cX10_compared 24 = .ok (.iload_n 1, 1) := by decide +kernel
theorem dX10_compared_25 : decode cX10_compared 25 = .ok (.iload_n 3, 1) := by decide +kernel
theorem dX10_compared_26 : decode cX10_compared 26 = .ok (.invokestatic 198, 3) := by decide +kernel
theorem dX10_compared_29 : decode cX10_compared 29 = .ok (.invokevirtual 139, 3) := by decide +kernel
theorem dX10_compared_32 : decode cX10_compared 32 = .ok (.aload_n 0, 1) := by decide +kernel
theorem dX10_compared_33 : decode cX10_compared 33 = .ok (.getfield 11, 3) := by decide +kernel
theorem dX10_compared_36 : decode cX10_compared 36 = .ok (.iload_n 1, 1) := by decide +kernel
theorem dX10_compared_37 : decode cX10_compared 37 = .ok (.aaload, 1) := by decide +kernel
theorem dX10_compared_38 : decode cX10_compared 38 = .ok (.getfield 68, 3) := by decide +kernel
theorem dX10_compared_41 : decode cX10_compared 41 = .ok (.astore 4, 2) := by decide +kernel
theorem dX10_compared_43 : decode cX10_compared 43 = .ok (.aload_n 0, 1) := by decide +kernel
theorem dX10_compared_44 : decode cX10_compared 44 = .ok (.getfield 11, 3) := by decide +kernel
theorem dX10_compared_47 : decode cX10_compared 47 = .ok (.iload_n 3, 1) := by decide +kernel
theorem dX10_compared_48 : decode cX10_compared 48 = .ok (.aaload, 1) := by decide +kernel
theorem dX10_compared_49 : decode cX10_compared 49 = .ok (.getfield 68, 3) := by decide +kernel
theorem dX10_compared_52 : decode cX10_compared 52 = .ok (.astore 5, 2) := by decide +kernel
theorem dX10_compared_54 : decode cX10_compared 54 = .ok (.iconst 0, 1) := by decide +kernel
theorem dX10_compared_55 : decode cX10_compared 55 = .ok (.istore 6, 2) := by decide +kernel
theorem dX10_compared_57 : decode cX10_compared 57 = .ok (.iconst 0, 1) := by decide +kernel
theorem dX10_compared_58 : decode cX10_compared 58 = .ok (.istore 7, 2) := by decide +kernel
theorem dX10_compared_60 : decode cX10_compared 60 = .ok (.iload 7, 2) := by decide +kernel
theorem dX10_compared_62 : decode cX10_compared 62 = .ok (.bipush 16, 2) := by decide +kernel
theorem dX10_compared_64 : decode cX10_compared 64 = .ok (.if_icmp .ge 27, 3) := by decide +kernel
theorem dX10_compared_67 : decode cX10_compared 67 = .ok (.iload_n 2, 1) := by decide +kernel
theorem dX10_compared_68 : decode cX10_compared 68 = .ok (.aload 4, 2) := by decide +kernel
theorem dX10_compared_70 : decode cX10_compared 70 = .ok (.iload 7, 2) := by decide +kernel
theorem dX10_compared_72 : decode cX10_compared 72 = .ok (.aload 5, 2) := by decide +kernel
theorem dX10_compared_74 : decode cX10_compared 74 = .ok (.iload 7, 2) := by decide +kernel
theorem dX10_compared_76 : decode cX10_compared 76 = .ok (.invokestatic 201, 3) := by decide +kernel
theorem dX10_compared_79 : decode cX10_compared 79 = .ok (.ifCond .eq 6, 3) := by decide +kernel
theorem dX10_compared_82 : decode cX10_compared 82 = .ok (.iinc 6 1, 3) := by decide +kernel
theorem dX10_compared_85 : decode cX10_compared 85 = .ok (.iinc 7 1, 3) := by decide +kernel
theorem dX10_compared_88 : decode cX10_compared 88 = .ok (.goto (-28), 3) := by decide +kernel
theorem dX10_compared_91 : decode cX10_compared 91 = .ok (.iload 6, 2) := by decide +kernel
theorem dX10_compared_93 : decode cX10_compared 93 = .ok (.ireturn, 1) := by decide +kernel
theorem dX10_alarmed_0 : decode cX10_alarmed 0 = .ok (.iload_n 1, 1) := by decide +kernel
theorem dX10_alarmed_1 : decode cX10_alarmed 1 = .ok (.ifCond .lt 29, 3) := by decide +kernel
theorem dX10_alarmed_4 : decode cX10_alarmed 4 = .ok (.iload_n 1, 1) := by decide +kernel
theorem dX10_alarmed_5 : decode cX10_alarmed 5 = .ok (.aload_n 0, 1) := by decide +kernel
theorem dX10_alarmed_6 : decode cX10_alarmed 6 = .ok (.getfield 37, 3) := by decide +kernel
theorem dX10_alarmed_9 : decode cX10_alarmed 9 = .ok (.if_icmp .ge 21, 3) := by decide +kernel
theorem dX10_alarmed_12 : decode cX10_alarmed 12 = .ok (.iload_n 1, 1) := by decide +kernel
theorem dX10_alarmed_13 : decode cX10_alarmed 13 = .ok (.bipush 10, 2) := by decide +kernel
theorem dX10_alarmed_15 : decode cX10_alarmed 15 = .ok (.if_icmp .ge 15, 3) := by decide +kernel
theorem dX10_alarmed_18 : decode cX10_alarmed 18 = .ok (.aload_n 0, 1) := by decide +kernel
theorem dX10_alarmed_19 : decode cX10_alarmed 19 = .ok (.getfield 33, 3) := by decide +kernel
theorem dX10_alarmed_22 : decode cX10_alarmed 22 = .ok (.iload_n 1, 1) := by decide +kernel
theorem dX10_alarmed_23 : decode cX10_alarmed 23 = .ok (.aaload, 1) := by decide +kernel
theorem dX10_alarmed_24 : decode cX10_alarmed 24 = .ok (.getfield 207, 3) := by decide +kernel
theorem dX10_alarmed_27 : decode cX10_alarmed 27 = .ok (.ifCond .ne 5, 3) := by decide +kernel
theorem dX10_alarmed_30 : decode cX10_alarmed 30 = .ok (.iconst (-1), 1) := by decide +kernel
theorem dX10_alarmed_31 : decode cX10_alarmed 31 = .ok (.ireturn, 1) := by decide +kernel
theorem dX10_alarmed_32 : decode cX10_alarmed 32 = .ok (.aload_n 0, 1) := by decide +kernel
theorem dX10_alarmed_33 : decode cX10_alarmed 33 = .ok (.getfield 33, 3) := by decide +kernel
theorem dX10_alarmed_36 : decode cX10_alarmed 36 = .ok (.iload_n 1, 1) := by decide +kernel
theorem dX10_alarmed_37 : decode cX10_alarmed 37 = .ok (.aaload, 1) := by decide +kernel
theorem dX10_alarmed_38 : decode cX10_alarmed 38 = .ok (.iload_n 2, 1) := by decide +kernel
theorem dX10_alarmed_39 : decode cX10_alarmed 39 = .ok (.invokevirtual 210, 3) := by decide +kernel
theorem dX10_alarmed_42 : decode cX10_alarmed 42 = .ok (.ireturn, 1) := by decide +kernel
theorem dX10_told_0 : decode cX10_told 0 = .ok (.iload_n 1, 1) := by decide +kernel
theorem dX10_told_1 : decode cX10_told 1 = .ok (.bipush 12, 2) := by decide +kernel
theorem dX10_told_3 : decode cX10_told 3 = .ok (.if_icmp .ne 9, 3) := by decide +kernel
theorem dX10_told_6 : decode cX10_told 6 = .ok (.aload_n 0, 1) := by decide +kernel
theorem dX10_told_7 : decode cX10_told 7 = .ok (.iload_n 2, 1) := by decide +kernel
theorem dX10_told_8 : decode cX10_told 8 = .ok (.invokevirtual 213, 3) := by decide +kernel
theorem dX10_told_11 : decode cX10_told 11 = .ok (.ireturn, 1) := by decide +kernel
theorem dX10_told_12 : decode cX10_told 12 = .ok (.iload_n 1, 1) := by decide +kernel
theorem dX10_told_13 : decode cX10_told 13 = .ok (.invokestatic 110, 3) := by decide +kernel
theorem dX10_told_16 : decode cX10_told 16 = .ok (.ifCond .ne 5, 3) := by decide +kernel
theorem dX10_told_19 : decode cX10_told 19 = .ok (.iconst (-1), 1) := by decide +kernel
theorem dX10_told_20 : decode cX10_told 20 = .ok (.ireturn, 1) := by decide +kernel
theorem dX10_told_21 : decode cX10_told 21 = .ok (.aload_n 0, 1) := by decide +kernel
theorem dX10_told_22 : decode cX10_told 22 = .ok (.iload_n 1, 1) := by decide +kernel
theorem dX10_told_23 : decode cX10_told 23 = .ok (.invokevirtual 139, 3) := by decide +kernel
theorem dX10_told_26 : decode cX10_told 26 = .ok (.aload_n 0, 1) := by decide +kernel
theorem dX10_told_27 : decode cX10_told 27 = .ok (.getfield 11, 3) := by decide +kernel
theorem dX10_told_30 : decode cX10_told 30 = .ok (.iload_n 1, 1) := by decide +kernel
theorem dX10_told_31 : decode cX10_told 31 = .ok (.aaload, 1) := by decide +kernel
theorem dX10_told_32 : decode cX10_told 32 = .ok (.iload_n 2, 1) := by decide +kernel
theorem dX10_told_33 : decode cX10_told 33 = .ok (.invokevirtual 216, 3) := by decide +kernel
theorem dX10_told_36 : decode cX10_told 36 = .ok (.ireturn, 1) := by decide +kernel
theorem dX10_toldOfBook_0 : decode cX10_toldOfBook 0 = .ok (.iload_n 1, 1) := by decide +kernel
theorem dX10_toldOfBook_1 : decode cX10_toldOfBook 1 = .ok (.tableswitch 42 0 2 #[27, 32, 37], 27) := by decide +kernel
theorem dX10_toldOfBook_28 : decode cX10_toldOfBook 28 = .ok (.aload_n 0, 1) := by decide +kernel
theorem dX10_toldOfBook_29 : decode cX10_toldOfBook 29 = .ok (.getfield 48, 3) := by decide +kernel
theorem dX10_toldOfBook_32 : decode cX10_toldOfBook 32 = .ok (.ireturn, 1) := by decide +kernel
theorem dX10_toldOfBook_33 : decode cX10_toldOfBook 33 = .ok (.aload_n 0, 1) := by decide +kernel
theorem dX10_toldOfBook_34 : decode cX10_toldOfBook 34 = .ok (.getfield 37, 3) := by decide +kernel
theorem dX10_toldOfBook_37 : decode cX10_toldOfBook 37 = .ok (.ireturn, 1) := by decide +kernel
theorem dX10_toldOfBook_38 : decode cX10_toldOfBook 38 = .ok (.aload_n 0, 1) := by decide +kernel
theorem dX10_toldOfBook_39 : decode cX10_toldOfBook 39 = .ok (.getfield 41, 3) := by decide +kernel
theorem dX10_toldOfBook_42 : decode cX10_toldOfBook 42 = .ok (.ireturn, 1) := by decide +kernel
theorem dX10_toldOfBook_43 : decode cX10_toldOfBook 43 = .ok (.iconst (-1), 1) := by decide +kernel
theorem dX10_toldOfBook_44 : decode cX10_toldOfBook 44 = .ok (.ireturn, 1) := by decide +kernel
theorem dX10_isColumn_0 : decode cX10_isColumn 0 = .ok (.iload_n 0, 1) := by decide +kernel
theorem dX10_isColumn_1 : decode cX10_isColumn 1 = .ok (.ifCond .lt 13, 3) := by decide +kernel
theorem dX10_isColumn_4 : decode cX10_isColumn 4 = .ok (.iload_n 0, 1) := by decide +kernel
theorem dX10_isColumn_5 : decode cX10_isColumn 5 = .ok (.bipush 12, 2) := by decide +kernel
theorem dX10_isColumn_7 : decode cX10_isColumn 7 = .ok (.if_icmp .ge 7, 3) := by decide +kernel
theorem dX10_isColumn_10 : decode cX10_isColumn 10 = .ok (.iconst 1, 1) := by decide +kernel
theorem dX10_isColumn_11 : decode cX10_isColumn 11 = .ok (.goto 4, 3) := by decide +kernel
theorem dX10_isColumn_14 : decode cX10_isColumn 14 = .ok (.iconst 0, 1) := by decide +kernel
theorem dX10_isColumn_15 : decode cX10_isColumn 15 = .ok (.ireturn, 1) := by decide +kernel
theorem dX10_isPlace_0 : decode cX10_isPlace 0 = .ok (.iload_n 0, 1) := by decide +kernel
theorem dX10_isPlace_1 : decode cX10_isPlace 1 = .ok (.ifCond .lt 13, 3) := by decide +kernel
theorem dX10_isPlace_4 : decode cX10_isPlace 4 = .ok (.iload_n 0, 1) := by decide +kernel
theorem dX10_isPlace_5 : decode cX10_isPlace 5 = .ok (.bipush 16, 2) := by decide +kernel
theorem dX10_isPlace_7 : decode cX10_isPlace 7 = .ok (.if_icmp .ge 7, 3) := by decide +kernel
theorem dX10_isPlace_10 : decode cX10_isPlace 10 = .ok (.iconst 1, 1) := by decide +kernel
theorem dX10_isPlace_11 : decode cX10_isPlace 11 = .ok (.goto 4, 3) := by decide +kernel
theorem dX10_isPlace_14 : decode cX10_isPlace 14 = .ok (.iconst 0, 1) := by decide +kernel
theorem dX10_isPlace_15 : decode cX10_isPlace 15 = .ok (.ireturn, 1) := by decide +kernel
theorem dX10_isConstant_0 : decode cX10_isConstant 0 = .ok (.iload_n 0, 1) := by decide +kernel
theorem dX10_isConstant_1 : decode cX10_isConstant 1 = .ok (.ifCond .lt 13, 3) := by decide +kernel
theorem dX10_isConstant_4 : decode cX10_isConstant 4 = .ok (.iload_n 0, 1) := by decide +kernel
theorem dX10_isConstant_5 : decode cX10_isConstant 5 = .ok (.bipush 8, 2) := by decide +kernel
theorem dX10_isConstant_7 : decode cX10_isConstant 7 = .ok (.if_icmp .ge 7, 3) := by decide +kernel
theorem dX10_isConstant_10 : decode cX10_isConstant 10 = .ok (.iconst 1, 1) := by decide +kernel
theorem dX10_isConstant_11 : decode cX10_isConstant 11 = .ok (.goto 4, 3) := by decide +kernel
theorem dX10_isConstant_14 : decode cX10_isConstant 14 = .ok (.iconst 0, 1) := by decide +kernel
theorem dX10_isConstant_15 : decode cX10_isConstant 15 = .ok (.ireturn, 1) := by decide +kernel
theorem dX10_isConstantSource_0 : decode cX10_isConstantSource 0 = .ok (.iload_n 0, 1) := by decide +kernel
theorem dX10_isConstantSource_1 : decode cX10_isConstantSource 1 = .ok (.bipush 16, 2) := by decide +kernel
theorem dX10_isConstantSource_3 : decode cX10_isConstantSource 3 = .ok (.if_icmp .lt 13, 3) := by decide +kernel
theorem dX10_isConstantSource_6 : decode cX10_isConstantSource 6 = .ok (.iload_n 0, 1) := by decide +kernel
theorem dX10_isConstantSource_7 : decode cX10_isConstantSource 7 = .ok (.bipush 24, 2) := by decide +kernel
theorem dX10_isConstantSource_9 : decode cX10_isConstantSource 9 = .ok (.if_icmp .ge 7, 3) := by decide +kernel
theorem dX10_isConstantSource_12 : decode cX10_isConstantSource 12 = .ok (.iconst 1, 1) := by decide +kernel
theorem dX10_isConstantSource_13 : decode cX10_isConstantSource 13 = .ok (.goto 4, 3) := by decide +kernel
theorem dX10_isConstantSource_16 : decode cX10_isConstantSource 16 = .ok (.iconst 0, 1) := by decide +kernel
theorem dX10_isConstantSource_17 : decode cX10_isConstantSource 17 = .ok (.ireturn, 1) := by decide +kernel
theorem dX10_isComparison_0 : decode cX10_isComparison 0 = .ok (.iload_n 0, 1) := by decide +kernel
theorem dX10_isComparison_1 : decode cX10_isComparison 1 = .ok (.ifCond .lt 13, 3) := by decide +kernel
theorem dX10_isComparison_4 : decode cX10_isComparison 4 = .ok (.iload_n 0, 1) := by decide +kernel
theorem dX10_isComparison_5 : decode cX10_isComparison 5 = .ok (.bipush 12, 2) := by decide +kernel
theorem dX10_isComparison_7 : decode cX10_isComparison 7 = .ok (.if_icmp .ge 7, 3) := by decide +kernel
theorem dX10_isComparison_10 : decode cX10_isComparison 10 = .ok (.iconst 1, 1) := by decide +kernel
theorem dX10_isComparison_11 : decode cX10_isComparison 11 = .ok (.goto 4, 3) := by decide +kernel
theorem dX10_isComparison_14 : decode cX10_isComparison 14 = .ok (.iconst 0, 1) := by decide +kernel
theorem dX10_isComparison_15 : decode cX10_isComparison 15 = .ok (.ireturn, 1) := by decide +kernel
theorem dX10_isSpecial_0 : decode cX10_isSpecial 0 = .ok (.iload_n 0, 1) := by decide +kernel
theorem dX10_isSpecial_1 : decode cX10_isSpecial 1 = .ok (.ifCond .lt 13, 3) := by decide +kernel
theorem dX10_isSpecial_4 : decode cX10_isSpecial 4 = .ok (.iload_n 0, 1) := by decide +kernel
theorem dX10_isSpecial_5 : decode cX10_isSpecial 5 = .ok (.bipush 6, 2) := by decide +kernel
theorem dX10_isSpecial_7 : decode cX10_isSpecial 7 = .ok (.if_icmp .ge 7, 3) := by decide +kernel
theorem dX10_isSpecial_10 : decode cX10_isSpecial 10 = .ok (.iconst 1, 1) := by decide +kernel
theorem dX10_isSpecial_11 : decode cX10_isSpecial 11 = .ok (.goto 4, 3) := by decide +kernel
theorem dX10_isSpecial_14 : decode cX10_isSpecial 14 = .ok (.iconst 0, 1) := by decide +kernel
theorem dX10_isSpecial_15 : decode cX10_isSpecial 15 = .ok (.ireturn, 1) := by decide +kernel
theorem dX10_isPower_0 : decode cX10_isPower 0 = .ok (.iload_n 0, 1) := by decide +kernel
theorem dX10_isPower_1 : decode cX10_isPower 1 = .ok (.sipush (-1000), 3) := by decide +kernel
theorem dX10_isPower_4 : decode cX10_isPower 4 = .ok (.if_icmp .lt 14, 3) := by decide +kernel
theorem dX10_isPower_7 : decode cX10_isPower 7 = .ok (.iload_n 0, 1) := by decide +kernel
theorem dX10_isPower_8 : decode cX10_isPower 8 = .ok (.sipush 900, 3) := by decide +kernel
theorem dX10_isPower_11 : decode cX10_isPower 11 = .ok (.if_icmp .gt 7, 3) := by decide +kernel
theorem dX10_isPower_14 : decode cX10_isPower 14 = .ok (.iconst 1, 1) := by decide +kernel
theorem dX10_isPower_15 : decode cX10_isPower 15 = .ok (.goto 4, 3) := by decide +kernel
theorem dX10_isPower_18 : decode cX10_isPower 18 = .ok (.iconst 0, 1) := by decide +kernel
theorem dX10_isPower_19 : decode cX10_isPower 19 = .ok (.ireturn, 1) := by decide +kernel
theorem dX10_hasRoom_0 : decode cX10_hasRoom 0 = .ok (.aload_n 0, 1) := by decide +kernel
theorem dX10_hasRoom_1 : decode cX10_hasRoom 1 = .ok (.getfield 48, 3) := by decide +kernel
theorem dX10_hasRoom_4 : decode cX10_hasRoom 4 = .ok (.sipush 512, 3) := by decide +kernel
theorem dX10_hasRoom_7 : decode cX10_hasRoom 7 = .ok (.if_icmp .ge 7, 3) := by decide +kernel
theorem dX10_hasRoom_10 : decode cX10_hasRoom 10 = .ok (.iconst 1, 1) := by decide +kernel
theorem dX10_hasRoom_11 : decode cX10_hasRoom 11 = .ok (.goto 4, 3) := by decide +kernel
theorem dX10_hasRoom_14 : decode cX10_hasRoom 14 = .ok (.iconst 0, 1) := by decide +kernel
theorem dX10_hasRoom_15 : decode cX10_hasRoom 15 = .ok (.ireturn, 1) := by decide +kernel
theorem dX10_takesReadings_0 : decode cX10_takesReadings 0 = .ok (.iload_n 1, 1) := by decide +kernel
theorem dX10_takesReadings_1 : decode cX10_takesReadings 1 = .ok (.invokestatic 110, 3) := by decide +kernel
theorem dX10_takesReadings_4 : decode cX10_takesReadings 4 = .ok (.ifCond .eq 26, 3) := by decide +kernel
theorem dX10_takesReadings_7 : decode cX10_takesReadings 7 = .ok (.aload_n 0, 1) := by decide +kernel
theorem dX10_takesReadings_8 : decode cX10_takesReadings 8 = .ok (.getfield 11, 3) := by decide +kernel
theorem dX10_takesReadings_11 : decode cX10_takesReadings 11 = .ok (.iload_n 1, 1) := by decide +kernel
theorem dX10_takesReadings_12 : decode cX10_takesReadings 12 = .ok (.aaload, 1) := by decide +kernel
theorem dX10_takesReadings_13 : decode cX10_takesReadings 13 = .ok (.invokevirtual 136, 3) := by decide +kernel
theorem dX10_takesReadings_16 : decode cX10_takesReadings 16 = .ok (.ifCond .ne 14, 3) := by decide +kernel
theorem dX10_takesReadings_19 : decode cX10_takesReadings 19 = .ok (.aload_n 0, 1) := by decide +kernel
theorem dX10_takesReadings_20 : decode cX10_takesReadings 20 = .ok (.invokevirtual 106, 3) := by decide +kernel
theorem dX10_takesReadings_23 : decode cX10_takesReadings 23 = .ok (.ifCond .eq 7, 3) := by decide +kernel
theorem dX10_takesReadings_26 : decode cX10_takesReadings 26 = .ok (.iconst 1, 1) := by decide +kernel
theorem dX10_takesReadings_27 : decode cX10_takesReadings 27 = .ok (.goto 4, 3) := by decide +kernel
theorem dX10_takesReadings_30 : decode cX10_takesReadings 30 = .ok (.iconst 0, 1) := by decide +kernel
theorem dX10_takesReadings_31 : decode cX10_takesReadings 31 = .ok (.ireturn, 1) := by decide +kernel
theorem dX10_remember_0 : decode cX10_remember 0 = .ok (.aload_n 0, 1) := by decide +kernel
theorem dX10_remember_1 : decode cX10_remember 1 = .ok (.aload_n 1, 1) := by decide +kernel
theorem dX10_remember_2 : decode cX10_remember 2 = .ok (.putfield 44, 3) := by decide +kernel
theorem dX10_remember_5 : decode cX10_remember 5 = .ok (.aload_n 0, 1) := by decide +kernel
theorem dX10_remember_6 : decode cX10_remember 6 = .ok (.dup, 1) := by decide +kernel
theorem dX10_remember_7 : decode cX10_remember 7 = .ok (.getfield 48, 3) := by decide +kernel
theorem dX10_remember_10 : decode cX10_remember 10 = .ok (.iconst 1, 1) := by decide +kernel
theorem dX10_remember_11 : decode cX10_remember 11 = .ok (.iadd, 1) := by decide +kernel
theorem dX10_remember_12 : decode cX10_remember 12 = .ok (.putfield 48, 3) := by decide +kernel
theorem dX10_remember_15 : decode cX10_remember 15 = .ok (.aload_n 0, 1) := by decide +kernel
theorem dX10_remember_16 : decode cX10_remember 16 = .ok (.aload_n 0, 1) := by decide +kernel
theorem dX10_remember_17 : decode cX10_remember 17 = .ok (.getfield 51, 3) := by decide +kernel
theorem dX10_remember_20 : decode cX10_remember 20 = .ok (.aload_n 1, 1) := by decide +kernel
theorem dX10_remember_21 : decode cX10_remember 21 = .ok (.getfield 151, 3) := by decide +kernel
theorem dX10_remember_24 : decode cX10_remember 24 = .ok (.invokestatic 154, 3) := by decide +kernel
theorem dX10_remember_27 : decode cX10_remember 27 = .ok (.putfield 51, 3) := by decide +kernel
theorem dX10_remember_30 : decode cX10_remember 30 = .ok (.return_, 1) := by decide +kernel
theorem dX10_refresh_0 : decode cX10_refresh 0 = .ok (.aload_n 0, 1) := by decide +kernel
theorem dX10_refresh_1 : decode cX10_refresh 1 = .ok (.getfield 51, 3) := by decide +kernel
theorem dX10_refresh_4 : decode cX10_refresh 4 = .ok (.iconst 0, 1) := by decide +kernel
theorem dX10_refresh_5 : decode cX10_refresh 5 = .ok (.invokestatic 198, 3) := by decide +kernel
theorem dX10_refresh_8 : decode cX10_refresh 8 = .ok (.istore_n 2, 1) := by decide +kernel
theorem dX10_refresh_9 : decode cX10_refresh 9 = .ok (.iload_n 2, 1) := by decide +kernel
theorem dX10_refresh_10 : decode cX10_refresh 10 = .ok (.iload_n 1, 1) := by decide +kernel
theorem dX10_refresh_11 : decode cX10_refresh 11 = .ok (.if_icmp .gt 57, 3) := by decide +kernel
theorem dX10_refresh_14 : decode cX10_refresh 14 = .ok (.iload_n 2, 1) := by decide +kernel
theorem dX10_refresh_15 : decode cX10_refresh 15 = .ok (.bipush 12, 2) := by decide +kernel
theorem dX10_refresh_17 : decode cX10_refresh 17 = .ok (.if_icmp .ge 51, 3) := by decide +kernel
theorem dX10_refresh_20 : decode cX10_refresh 20 = .ok (.aload_n 0, 1) := by decide +kernel
theorem dX10_refresh_21 : decode cX10_refresh 21 = .ok (.getfield 11, 3) := by decide +kernel
theorem dX10_refresh_24 : decode cX10_refresh 24 = .ok (.iload_n 2, 1) := by decide +kernel
theorem dX10_refresh_25 : decode cX10_refresh 25 = .ok (.aaload, 1) := by decide +kernel
theorem dX10_refresh_26 : decode cX10_refresh 26 = .ok (.invokevirtual 136, 3) := by decide +kernel
theorem dX10_refresh_29 : decode cX10_refresh 29 = .ok (.ifCond .eq 26, 3) := by decide +kernel
theorem dX10_refresh_32 : decode cX10_refresh 32 = .ok (.aload_n 0, 1) := by decide +kernel
theorem dX10_refresh_33 : decode cX10_refresh 33 = .ok (.aload_n 0, 1) := by decide +kernel
theorem dX10_refresh_34 : decode cX10_refresh 34 = .ok (.getfield 11, 3) := by decide +kernel
theorem dX10_refresh_37 : decode cX10_refresh 37 = .ok (.iload_n 2, 1) := by decide +kernel
theorem dX10_refresh_38 : decode cX10_refresh 38 = .ok (.aaload, 1) := by decide +kernel
theorem dX10_refresh_39 : decode cX10_refresh 39 = .ok (.invokevirtual 217, 3) := by decide +kernel
theorem dX10_refresh_42 : decode cX10_refresh 42 = .ok (.aload_n 0, 1) := by decide +kernel
theorem dX10_refresh_43 : decode cX10_refresh 43 = .ok (.getfield 27, 3) := by decide +kernel
theorem dX10_refresh_46 : decode cX10_refresh 46 = .ok (.aload_n 0, 1) := by decide +kernel
theorem dX10_refresh_47 : decode cX10_refresh 47 = .ok (.getfield 11, 3) := by decide +kernel
theorem dX10_refresh_50 : decode cX10_refresh 50 = .ok (.iload_n 2, 1) := by decide +kernel
theorem dX10_refresh_51 : decode cX10_refresh 51 = .ok (.aaload, 1) := by decide +kernel
theorem dX10_refresh_52 : decode cX10_refresh 52 = .ok (.invokevirtual 221, 3) := by decide +kernel
theorem dX10_refresh_55 : decode cX10_refresh 55 = .ok (.aload_n 0, 1) := by decide +kernel
theorem dX10_refresh_56 : decode cX10_refresh 56 = .ok (.iload_n 2, 1) := by decide +kernel
theorem dX10_refresh_57 : decode cX10_refresh 57 = .ok (.iconst 1, 1) := by decide +kernel
theorem dX10_refresh_58 : decode cX10_refresh 58 = .ok (.iadd, 1) := by decide +kernel
theorem dX10_refresh_59 : decode cX10_refresh 59 = .ok (.putfield 51, 3) := by decide +kernel
theorem dX10_refresh_62 : decode cX10_refresh 62 = .ok (.iinc 2 1, 3) := by decide +kernel
theorem dX10_refresh_65 : decode cX10_refresh 65 = .ok (.goto (-56), 3) := by decide +kernel
theorem dX10_refresh_68 : decode cX10_refresh 68 = .ok (.return_, 1) := by decide +kernel
theorem dX10_load_0 : decode cX10_load 0 = .ok (.aload_n 0, 1) := by decide +kernel
theorem dX10_load_1 : decode cX10_load 1 = .ok (.getfield 11, 3) := by decide +kernel
theorem dX10_load_4 : decode cX10_load 4 = .ok (.aload_n 1, 1) := by decide +kernel
theorem dX10_load_5 : decode cX10_load 5 = .ok (.getfield 127, 3) := by decide +kernel
theorem dX10_load_8 : decode cX10_load 8 = .ok (.aaload, 1) := by decide +kernel
theorem dX10_load_9 : decode cX10_load 9 = .ok (.getfield 68, 3) := by decide +kernel
theorem dX10_load_12 : decode cX10_load 12 = .ok (.astore_n 2, 1) := by decide +kernel
theorem dX10_load_13 : decode cX10_load 13 = .ok (.aload_n 0, 1) := by decide +kernel
theorem dX10_load_14 : decode cX10_load 14 = .ok (.aload_n 1, 1) := by decide +kernel
theorem dX10_load_15 : decode cX10_load 15 = .ok (.getfield 130, 3) := by decide +kernel
theorem dX10_load_18 : decode cX10_load 18 = .ok (.invokevirtual 224, 3) := by decide +kernel
theorem dX10_load_21 : decode cX10_load 21 = .ok (.astore_n 3, 1) := by decide +kernel
theorem dX10_load_22 : decode cX10_load 22 = .ok (.iconst 0, 1) := by decide +kernel
theorem dX10_load_23 : decode cX10_load 23 = .ok (.istore 4, 2) := by decide +kernel
theorem dX10_load_25 : decode cX10_load 25 = .ok (.iload 4, 2) := by decide +kernel
theorem dX10_load_27 : decode cX10_load 27 = .ok (.bipush 16, 2) := by decide +kernel
theorem dX10_load_29 : decode cX10_load 29 = .ok (.if_icmp .ge 54, 3) := by decide +kernel
theorem dX10_load_32 : decode cX10_load 32 = .ok (.aload_n 0, 1) := by decide +kernel
theorem dX10_load_33 : decode cX10_load 33 = .ok (.getfield 27, 3) := by decide +kernel
theorem dX10_load_36 : decode cX10_load 36 = .ok (.getfield 228, 3) := by decide +kernel
theorem dX10_load_39 : decode cX10_load 39 = .ok (.iload 4, 2) := by decide +kernel
theorem dX10_load_41 : decode cX10_load 41 = .ok (.aload_n 2, 1) := by decide +kernel
theorem dX10_load_42 : decode cX10_load 42 = .ok (.iload 4, 2) := by decide +kernel
theorem dX10_load_44 : decode cX10_load 44 = .ok (.aload_n 1, 1) := by decide +kernel
theorem dX10_load_45 : decode cX10_load 45 = .ok (.getfield 84, 3) := by decide +kernel
theorem dX10_load_48 : decode cX10_load 48 = .ok (.invokevirtual 142, 3) := by decide +kernel
theorem dX10_load_51 : decode cX10_load 51 = .ok (.aload_n 0, 1) := by decide +kernel
theorem dX10_load_52 : decode cX10_load 52 = .ok (.getfield 27, 3) := by decide +kernel
theorem dX10_load_55 : decode cX10_load 55 = .ok (.getfield 231, 3) := by decide +kernel
theorem dX10_load_58 : decode cX10_load 58 = .ok (.iload 4, 2) := by decide +kernel
theorem dX10_load_60 : decode cX10_load 60 = .ok (.aload_n 3, 1) := by decide +kernel
theorem dX10_load_61 : decode cX10_load 61 = .ok (.aload_n 1, 1) := by decide +kernel
theorem dX10_load_62 : decode cX10_load 62 = .ok (.getfield 130, 3) := by decide +kernel
theorem dX10_load_65 : decode cX10_load 65 = .ok (.iload 4, 2) := by decide +kernel
theorem dX10_load_67 : decode cX10_load 67 = .ok (.invokestatic 234, 3) := by decide +kernel
theorem dX10_load_70 : decode cX10_load 70 = .ok (.aload_n 1, 1) := by decide +kernel
theorem dX10_load_71 : decode cX10_load 71 = .ok (.getfield 84, 3) := by decide +kernel
theorem dX10_load_74 : decode cX10_load 74 = .ok (.invokevirtual 142, 3) := by decide +kernel
theorem dX10_load_77 : decode cX10_load 77 = .ok (.iinc 4 1, 3) := by decide +kernel
theorem dX10_load_80 : decode cX10_load 80 = .ok (.goto (-55), 3) := by decide +kernel
theorem dX10_load_83 : decode cX10_load 83 = .ok (.return_, 1) := by decide +kernel
theorem dX10_sourceOf_0 : decode cX10_sourceOf 0 = .ok (.iload_n 1, 1) := by decide +kernel
theorem dX10_sourceOf_1 : decode cX10_sourceOf 1 = .ok (.invokestatic 116, 3) := by decide +kernel
theorem dX10_sourceOf_4 : decode cX10_sourceOf 4 = .ok (.ifCond .eq 10, 3) := by decide +kernel
theorem dX10_sourceOf_7 : decode cX10_sourceOf 7 = .ok (.aload_n 0, 1) := by decide +kernel
theorem dX10_sourceOf_8 : decode cX10_sourceOf 8 = .ok (.getfield 20, 3) := by decide +kernel
theorem dX10_sourceOf_11 : decode cX10_sourceOf 11 = .ok (.goto 12, 3) := by decide +kernel
theorem dX10_sourceOf_14 : decode cX10_sourceOf 14 = .ok (.aload_n 0, 1) := by decide +kernel
theorem dX10_sourceOf_15 : decode cX10_sourceOf 15 = .ok (.getfield 11, 3) := by decide +kernel
theorem dX10_sourceOf_18 : decode cX10_sourceOf 18 = .ok (.iload_n 1, 1) := by decide +kernel
theorem dX10_sourceOf_19 : decode cX10_sourceOf 19 = .ok (.aaload, 1) := by decide +kernel
theorem dX10_sourceOf_20 : decode cX10_sourceOf 20 = .ok (.getfield 68, 3) := by decide +kernel
theorem dX10_sourceOf_23 : decode cX10_sourceOf 23 = .ok (.areturn, 1) := by decide +kernel
theorem dX10_placeIn_0 : decode cX10_placeIn 0 = .ok (.iload_n 0, 1) := by decide +kernel
theorem dX10_placeIn_1 : decode cX10_placeIn 1 = .ok (.invokestatic 116, 3) := by decide +kernel
theorem dX10_placeIn_4 : decode cX10_placeIn 4 = .ok (.ifCond .eq 10, 3) := by decide +kernel
theorem dX10_placeIn_7 : decode cX10_placeIn 7 = .ok (.iload_n 0, 1) := by decide +kernel
theorem dX10_placeIn_8 : decode cX10_placeIn 8 = .ok (.bipush 16, 2) := by decide +kernel
theorem dX10_placeIn_10 : decode cX10_placeIn 10 = .ok (.isub, 1) := by decide +kernel
theorem dX10_placeIn_11 : decode cX10_placeIn 11 = .ok (.goto 4, 3) := by decide +kernel
theorem dX10_placeIn_14 : decode cX10_placeIn 14 = .ok (.iload_n 1, 1) := by decide +kernel
theorem dX10_placeIn_15 : decode cX10_placeIn 15 = .ok (.ireturn, 1) := by decide +kernel
theorem dX10_placesWhere_0 : decode cX10_placesWhere 0 = .ok (.aload_n 0, 1) := by decide +kernel
theorem dX10_placesWhere_1 : decode cX10_placesWhere 1 = .ok (.getfield 11, 3) := by decide +kernel
theorem dX10_placesWhere_4 : decode cX10_placesWhere 4 = .ok (.aload_n 1, 1) := by decide +kernel
theorem dX10_placesWhere_5 : decode cX10_placesWhere 5 = .ok (.getfield 163, 3) := by decide +kernel
theorem dX10_placesWhere_8 : decode cX10_placesWhere 8 = .ok (.aaload, 1) := by decide +kernel
theorem dX10_placesWhere_9 : decode cX10_placesWhere 9 = .ok (.getfield 68, 3) := by decide +kernel
theorem dX10_placesWhere_12 : decode cX10_placesWhere 12 = .ok (.astore_n 2, 1) := by decide +kernel
theorem dX10_placesWhere_13 : decode cX10_placesWhere 13 = .ok (.aload_n 0, 1) := by decide +kernel
theorem dX10_placesWhere_14 : decode cX10_placesWhere 14 = .ok (.aload_n 1, 1) := by decide +kernel
theorem dX10_placesWhere_15 : decode cX10_placesWhere 15 = .ok (.getfield 165, 3) := by decide +kernel
theorem dX10_placesWhere_18 : decode cX10_placesWhere 18 = .ok (.invokevirtual 224, 3) := by decide +kernel
theorem dX10_placesWhere_21 : decode cX10_placesWhere 21 = .ok (.astore_n 3, 1) := by decide +kernel
theorem dX10_placesWhere_22 : decode cX10_placesWhere 22 = .ok (.iconst 0, 1) := by decide +kernel
theorem dX10_placesWhere_23 : decode cX10_placesWhere 23 = .ok (.istore 4, 2) := by decide +kernel
theorem dX10_placesWhere_25 : decode cX10_placesWhere 25 = .ok (.iconst 0, 1) := by decide +kernel
theorem dX10_placesWhere_26 : decode cX10_placesWhere 26 = .ok (.istore 5, 2) := by decide +kernel
theorem dX10_placesWhere_28 : decode cX10_placesWhere 28 = .ok (.iload 5, 2) := by decide +kernel
theorem dX10_placesWhere_30 : decode cX10_placesWhere 30 = .ok (.bipush 16, 2) := by decide +kernel
theorem dX10_placesWhere_32 : decode cX10_placesWhere 32 = .ok (.if_icmp .ge 41, 3) := by decide +kernel
theorem dX10_placesWhere_35 : decode cX10_placesWhere 35 = .ok (.aload_n 1, 1) := by decide +kernel
theorem dX10_placesWhere_36 : decode cX10_placesWhere 36 = .ok (.getfield 164, 3) := by decide +kernel
theorem dX10_placesWhere_39 : decode cX10_placesWhere 39 = .ok (.aload_n 2, 1) := by decide +kernel
theorem dX10_placesWhere_40 : decode cX10_placesWhere 40 = .ok (.iload 5, 2) := by decide +kernel
theorem dX10_placesWhere_42 : decode cX10_placesWhere 42 = .ok (.aload_n 3, 1) := by decide +kernel
theorem dX10_placesWhere_43 : decode cX10_placesWhere 43 = .ok (.aload_n 1, 1) := by decide +kernel
theorem dX10_placesWhere_44 : decode cX10_placesWhere 44 = .ok (.getfield 165, 3) := by decide +kernel
theorem dX10_placesWhere_47 : decode cX10_placesWhere 47 = .ok (.iload 5, 2) := by decide +kernel
theorem dX10_placesWhere_49 : decode cX10_placesWhere 49 = .ok (.invokestatic 234, 3) := by decide +kernel
theorem dX10_placesWhere_52 : decode cX10_placesWhere 52 = .ok (.invokestatic 201, 3) := by decide +kernel
theorem dX10_placesWhere_55 : decode cX10_placesWhere 55 = .ok (.ifCond .eq 12, 3) := by decide +kernel
theorem dX10_placesWhere_58 : decode cX10_placesWhere 58 = .ok (.iload 4, 2) := by decide +kernel
theorem dX10_placesWhere_60 : decode cX10_placesWhere 60 = .ok (.iconst 1, 1) := by decide +kernel
theorem dX10_placesWhere_61 : decode cX10_placesWhere 61 = .ok (.iload 5, 2) := by decide +kernel
theorem dX10_placesWhere_63 : decode cX10_placesWhere 63 = .ok (.ishl, 1) := by decide +kernel
theorem dX10_placesWhere_64 : decode cX10_placesWhere 64 = .ok (.ior, 1) := by decide +kernel
theorem dX10_placesWhere_65 : decode cX10_placesWhere 65 = .ok (.istore 4, 2) := by decide +kernel
theorem dX10_placesWhere_67 : decode cX10_placesWhere 67 = .ok (.iinc 5 1, 3) := by decide +kernel
theorem dX10_placesWhere_70 : decode cX10_placesWhere 70 = .ok (.goto (-42), 3) := by decide +kernel
theorem dX10_placesWhere_73 : decode cX10_placesWhere 73 = .ok (.iload 4, 2) := by decide +kernel
theorem dX10_placesWhere_75 : decode cX10_placesWhere 75 = .ok (.ireturn, 1) := by decide +kernel
theorem dX11_init_0 : decode cX11_init 0 = .ok (.aload_n 0, 1) := by decide +kernel
theorem dX11_init_1 : decode cX11_init 1 = .ok (.invokespecial 3, 3) := by decide +kernel
theorem dX11_init_4 : decode cX11_init 4 = .ok (.aload_n 0, 1) := by decide +kernel
theorem dX11_init_5 : decode cX11_init 5 = .ok (.sipush 200, 3) := by decide +kernel
theorem dX11_init_8 : decode cX11_init 8 = .ok (.newarray .double, 2) := by decide +kernel
theorem dX11_init_10 : decode cX11_init 10 = .ok (.putfield 9, 3) := by decide +kernel
theorem dX11_init_13 : decode cX11_init 13 = .ok (.aload_n 0, 1) := by decide +kernel
theorem dX11_init_14 : decode cX11_init 14 = .ok (.sipush 200, 3) := by decide +kernel
theorem dX11_init_17 : decode cX11_init 17 = .ok (.newarray .boolean, 2) := by decide +kernel
theorem dX11_init_19 : decode cX11_init 19 = .ok (.putfield 15, 3) := by decide +kernel
theorem dX11_init_22 : decode cX11_init 22 = .ok (.aload_n 0, 1) := by decide +kernel
theorem dX11_init_23 : decode cX11_init 23 = .ok (.bipush 12, 2) := by decide +kernel
theorem dX11_init_25 : decode cX11_init 25 = .ok (.newarray .boolean, 2) := by decide +kernel
theorem dX11_init_27 : decode cX11_init 27 = .ok (.putfield 19, 3) := by decide +kernel
theorem dX11_init_30 : decode cX11_init 30 = .ok (.aload_n 0, 1) := by decide +kernel
theorem dX11_init_31 : decode cX11_init 31 = .ok (.bipush 48, 2) := by decide +kernel
theorem dX11_init_33 : decode cX11_init 33 = .ok (.newarray .int, 2) := by decide +kernel
theorem dX11_init_35 : decode cX11_init 35 = .ok (.putfield 22, 3) := by decide +kernel
theorem dX11_init_38 : decode cX11_init 38 = .ok (.aload_n 0, 1) := by decide +kernel
theorem dX11_init_39 : decode cX11_init 39 = .ok (.sipush 200, 3) := by decide +kernel
theorem dX11_init_42 : decode cX11_init 42 = .ok (.newarray .double, 2) := by decide +kernel
theorem dX11_init_44 : decode cX11_init 44 = .ok (.putfield 26, 3) := by decide +kernel
theorem dX11_init_47 : decode cX11_init 47 = .ok (.aload_n 0, 1) := by decide +kernel
theorem dX11_init_48 : decode cX11_init 48 = .ok (.sipush 200, 3) := by decide +kernel
theorem dX11_init_51 : decode cX11_init 51 = .ok (.newarray .boolean, 2) := by decide +kernel
theorem dX11_init_53 : decode cX11_init 53 = .ok (.putfield 29, 3) := by decide +kernel
theorem dX11_init_56 : decode cX11_init 56 = .ok (.aload_n 0, 1) := by decide +kernel
theorem dX11_init_57 : decode cX11_init 57 = .ok (.ldc 32, 2) := by decide +kernel
theorem dX11_init_59 : decode cX11_init 59 = .ok (.newarray .double, 2) := by decide +kernel
theorem dX11_init_61 : decode cX11_init 61 = .ok (.putfield 33, 3) := by decide +kernel
theorem dX11_init_64 : decode cX11_init 64 = .ok (.aload_n 0, 1) := by decide +kernel
theorem dX11_init_65 : decode cX11_init 65 = .ok (.ldc 32, 2) := by decide +kernel
theorem dX11_init_67 : decode cX11_init 67 = .ok (.newarray .boolean, 2) := by decide +kernel
theorem dX11_init_69 : decode cX11_init 69 = .ok (.putfield 36, 3) := by decide +kernel
theorem dX11_init_72 : decode cX11_init 72 = .ok (.aload_n 0, 1) := by decide +kernel
theorem dX11_init_73 : decode cX11_init 73 = .ok (.sipush 6144, 3) := by decide +kernel
theorem dX11_init_76 : decode cX11_init 76 = .ok (.newarray .boolean, 2) := by decide +kernel
theorem dX11_init_78 : decode cX11_init 78 = .ok (.putfield 39, 3) := by decide +kernel
theorem dX11_init_81 : decode cX11_init 81 = .ok (.aload_n 0, 1) := by decide +kernel
theorem dX11_init_82 : decode cX11_init 82 = .ok (.sipush 24576, 3) := by decide +kernel
theorem dX11_init_85 : decode cX11_init 85 = .ok (.newarray .int, 2) := by decide +kernel
theorem dX11_init_87 : decode cX11_init 87 = .ok (.putfield 42, 3) := by decide +kernel
theorem dX11_init_90 : decode cX11_init 90 = .ok (.aload_n 0, 1) := by decide +kernel
theorem dX11_init_91 : decode cX11_init 91 = .ok (.bipush 30, 2) := by decide +kernel
theorem dX11_init_93 : decode cX11_init 93 = .ok (.newarray .int, 2) := by decide +kernel
theorem dX11_init_95 : decode cX11_init 95 = .ok (.putfield 45, 3) := by decide +kernel
theorem dX11_init_98 : decode cX11_init 98 = .ok (.aload_n 0, 1) := by decide +kernel
theorem dX11_init_99 : decode cX11_init 99 = .ok (.bipush 10, 2) := by decide +kernel
theorem dX11_init_101 : decode cX11_init 101 = .ok (.newarray .int, 2) := by decide +kernel
theorem dX11_init_103 : decode cX11_init 103 = .ok (.putfield 48, 3) := by decide +kernel
theorem dX11_init_106 : decode cX11_init 106 = .ok (.aload_n 0, 1) := by decide +kernel
theorem dX11_init_107 : decode cX11_init 107 = .ok (.bipush 10, 2) := by decide +kernel
theorem dX11_init_109 : decode cX11_init 109 = .ok (.newarray .int, 2) := by decide +kernel
theorem dX11_init_111 : decode cX11_init 111 = .ok (.putfield 51, 3) := by decide +kernel
theorem dX11_init_114 : decode cX11_init 114 = .ok (.aload_n 0, 1) := by decide +kernel
theorem dX11_init_115 : decode cX11_init 115 = .ok (.bipush 10, 2) := by decide +kernel
theorem dX11_init_117 : decode cX11_init 117 = .ok (.newarray .boolean, 2) := by decide +kernel
theorem dX11_init_119 : decode cX11_init 119 = .ok (.putfield 54, 3) := by decide +kernel
theorem dX11_init_122 : decode cX11_init 122 = .ok (.iconst 0, 1) := by decide +kernel
theorem dX11_init_123 : decode cX11_init 123 = .ok (.istore_n 1, 1) := by decide +kernel
theorem dX11_init_124 : decode cX11_init 124 = .ok (.iload_n 1, 1) := by decide +kernel
theorem dX11_init_125 : decode cX11_init 125 = .ok (.sipush 200, 3) := by decide +kernel
theorem dX11_init_128 : decode cX11_init 128 = .ok (.if_icmp .ge 16, 3) := by decide +kernel
theorem dX11_init_131 : decode cX11_init 131 = .ok (.aload_n 0, 1) := by decide +kernel
theorem dX11_init_132 : decode cX11_init 132 = .ok (.getfield 15, 3) := by decide +kernel
theorem dX11_init_135 : decode cX11_init 135 = .ok (.iload_n 1, 1) := by decide +kernel
theorem dX11_init_136 : decode cX11_init 136 = .ok (.iconst 1, 1) := by decide +kernel
theorem dX11_init_137 : decode cX11_init 137 = .ok (.bastore, 1) := by decide +kernel
theorem dX11_init_138 : decode cX11_init 138 = .ok (.iinc 1 1, 3) := by decide +kernel
theorem dX11_init_141 : decode cX11_init 141 = .ok (.goto (-17), 3) := by decide +kernel
theorem dX11_init_144 : decode cX11_init 144 = .ok (.iconst 0, 1) := by decide +kernel
theorem dX11_init_145 : decode cX11_init 145 = .ok (.istore_n 1, 1) := by decide +kernel
theorem dX11_init_146 : decode cX11_init 146 = .ok (.iload_n 1, 1) := by decide +kernel
theorem dX11_init_147 : decode cX11_init 147 = .ok (.bipush 12, 2) := by decide +kernel
theorem dX11_init_149 : decode cX11_init 149 = .ok (.if_icmp .ge 18, 3) := by decide +kernel
theorem dX11_init_152 : decode cX11_init 152 = .ok (.aload_n 0, 1) := by decide +kernel
theorem dX11_init_153 : decode cX11_init 153 = .ok (.getfield 22, 3) := by decide +kernel
theorem dX11_init_156 : decode cX11_init 156 = .ok (.iconst 4, 1) := by decide +kernel
theorem dX11_init_157 : decode cX11_init 157 = .ok (.iload_n 1, 1) := by decide +kernel
theorem dX11_init_158 : decode cX11_init 158 = .ok (.imul, 1) := by decide +kernel
theorem dX11_init_159 : decode cX11_init 159 = .ok (.iconst (-1), 1) := by decide +kernel
theorem dX11_init_160 : decode cX11_init 160 = .ok (.iastore, 1) := by decide +kernel
theorem dX11_init_161 : decode cX11_init 161 = .ok (.iinc 1 1, 3) := by decide +kernel
theorem dX11_init_164 : decode cX11_init 164 = .ok (.goto (-18), 3) := by decide +kernel
theorem dX11_init_167 : decode cX11_init 167 = .ok (.return_, 1) := by decide +kernel
theorem dX11_isIn_0 : decode cX11_isIn 0 = .ok (.iload_n 0, 1) := by decide +kernel
theorem dX11_isIn_1 : decode cX11_isIn 1 = .ok (.iload_n 1, 1) := by decide +kernel
theorem dX11_isIn_2 : decode cX11_isIn 2 = .ok (.if_icmp .lt 12, 3) := by decide +kernel
theorem dX11_isIn_5 : decode cX11_isIn 5 = .ok (.iload_n 0, 1) := by decide +kernel
theorem dX11_isIn_6 : decode cX11_isIn 6 = .ok (.iload_n 2, 1) := by decide +kernel
theorem dX11_isIn_7 : decode cX11_isIn 7 = .ok (.if_icmp .gt 7, 3) := by decide +kernel
theorem dX11_isIn_10 : decode cX11_isIn 10 = .ok (.iconst 1, 1) := by decide +kernel
theorem dX11_isIn_11 : decode cX11_isIn 11 = .ok (.goto 4, 3) := by decide +kernel
theorem dX11_isIn_14 : decode cX11_isIn 14 = .ok (.iconst 0, 1) := by decide +kernel
theorem dX11_isIn_15 : decode cX11_isIn 15 = .ok (.ireturn, 1) := by decide +kernel
theorem dX11_isZero_0 : decode cX11_isZero 0 = .ok (.dload_n 0, 1) := by decide +kernel
theorem dX11_isZero_1 : decode cX11_isZero 1 = .ok (.dconst 0, 1) := by decide +kernel
theorem dX11_isZero_2 : decode cX11_isZero 2 = .ok (.dcmp .l, 1) := by decide +kernel
theorem dX11_isZero_3 : decode cX11_isZero 3 = .ok (.ifCond .ne 7, 3) := by decide +kernel
theorem dX11_isZero_6 : decode cX11_isZero 6 = .ok (.iconst 1, 1) := by decide +kernel
theorem dX11_isZero_7 : decode cX11_isZero 7 = .ok (.goto 4, 3) := by decide +kernel
theorem dX11_isZero_10 : decode cX11_isZero 10 = .ok (.iconst 0, 1) := by decide +kernel
theorem dX11_isZero_11 : decode cX11_isZero 11 = .ok (.ireturn, 1) := by decide +kernel
theorem dX11_isInfinite_0 : decode cX11_isInfinite 0 = .ok (.dload_n 0, 1) := by decide +kernel
theorem dX11_isInfinite_1 : decode cX11_isInfinite 1 = .ok (.ldc2_w 57, 3) := by decide +kernel
theorem dX11_isInfinite_4 : decode cX11_isInfinite 4 = .ok (.dcmp .l, 1) := by decide +kernel
theorem dX11_isInfinite_5 : decode cX11_isInfinite 5 = .ok (.ifCond .eq 11, 3) := by decide +kernel
theorem dX11_isInfinite_8 : decode cX11_isInfinite 8 = .ok (.dload_n 0, 1) := by decide +kernel
theorem dX11_isInfinite_9 : decode cX11_isInfinite 9 = .ok (.ldc2_w 59, 3) := by decide +kernel
theorem dX11_isInfinite_12 : decode cX11_isInfinite 12 = .ok (.dcmp .l, 1) := by decide +kernel
theorem dX11_isInfinite_13 : decode cX11_isInfinite 13 = .ok (.ifCond .ne 7, 3) := by decide +kernel
theorem dX11_isInfinite_16 : decode cX11_isInfinite 16 = .ok (.iconst 1, 1) := by decide +kernel
theorem dX11_isInfinite_17 : decode cX11_isInfinite 17 = .ok (.goto 4, 3) := by decide +kernel
theorem dX11_isInfinite_20 : decode cX11_isInfinite 20 = .ok (.iconst 0, 1) := by decide +kernel
theorem dX11_isInfinite_21 : decode cX11_isInfinite 21 = .ok (.ireturn, 1) := by decide +kernel
theorem dX11_hasMinus_0 : decode cX11_hasMinus 0 = .ok (.dload_n 0, 1) := by decide +kernel
theorem dX11_hasMinus_1 : decode cX11_hasMinus 1 = .ok (.invokestatic 61, 3) := by decide +kernel
theorem dX11_hasMinus_4 : decode cX11_hasMinus 4 = .ok (.ifCond .eq 19, 3) := by decide +kernel
theorem dX11_hasMinus_7 : decode cX11_hasMinus 7 = .ok (.dconst 1, 1) := by decide +kernel
theorem dX11_hasMinus_8 : decode cX11_hasMinus 8 = .ok (.dload_n 0, 1) := by decide +kernel
theorem dX11_hasMinus_9 : decode cX11_hasMinus 9 = .ok (.ddiv, 1) := by decide +kernel
theorem dX11_hasMinus_10 : decode cX11_hasMinus 10 = .ok (.dconst 0, 1) := by decide +kernel
theorem dX11_hasMinus_11 : decode cX11_hasMinus 11 = .ok (.dcmp .g, 1) := by decide +kernel
theorem dX11_hasMinus_12 : decode cX11_hasMinus 12 = .ok (.ifCond .ge 7, 3) := by decide +kernel
theorem dX11_hasMinus_15 : decode cX11_hasMinus 15 = .ok (.iconst 1, 1) := by decide +kernel
theorem dX11_hasMinus_16 : decode cX11_hasMinus 16 = .ok (.goto 18, 3) := by decide +kernel
theorem dX11_hasMinus_19 : decode cX11_hasMinus 19 = .ok (.iconst 0, 1) := by decide +kernel
theorem dX11_hasMinus_20 : decode cX11_hasMinus 20 = .ok (.goto 14, 3) := by decide +kernel
theorem dX11_hasMinus_23 : decode cX11_hasMinus 23 = .ok (.dload_n 0, 1) := by decide +kernel
theorem dX11_hasMinus_24 : decode cX11_hasMinus 24 = .ok (.dconst 0, 1) := by decide +kernel
theorem dX11_hasMinus_25 : decode cX11_hasMinus 25 = .ok (.dcmp .g, 1) := by decide +kernel
theorem dX11_hasMinus_26 : decode cX11_hasMinus 26 = .ok (.ifCond .ge 7, 3) := by decide +kernel
theorem dX11_hasMinus_29 : decode cX11_hasMinus 29 = .ok (.iconst 1, 1) := by decide +kernel
theorem dX11_hasMinus_30 : decode cX11_hasMinus 30 = .ok (.goto 4, 3) := by decide +kernel
theorem dX11_hasMinus_33 : decode cX11_hasMinus 33 = .ok (.iconst 0, 1) := by decide +kernel
theorem dX11_hasMinus_34 : decode cX11_hasMinus 34 = .ok (.ireturn, 1) := by decide +kernel
theorem dX11_zero_0 : decode cX11_zero 0 = .ok (.iload_n 0, 1) := by decide +kernel
theorem dX11_zero_1 : decode cX11_zero 1 = .ok (.ifCond .eq 9, 3) := by decide +kernel
theorem dX11_zero_4 : decode cX11_zero 4 = .ok (.ldc2_w 65, 3) := by decide +kernel
theorem dX11_zero_7 : decode cX11_zero 7 = .ok (.goto 4, 3) := by decide +kernel
theorem dX11_zero_10 : decode cX11_zero 10 = .ok (.dconst 0, 1) := by decide +kernel
theorem dX11_zero_11 : decode cX11_zero 11 = .ok (.dreturn, 1) := by decide +kernel
theorem dX11_brought_0 : decode cX11_brought 0 = .ok (.iload_n 2, 1) := by decide +kernel
theorem dX11_brought_1 : decode cX11_brought 1 = .ok (.ifCond .eq 9, 3) := by decide +kernel
theorem dX11_brought_4 : decode cX11_brought 4 = .ok (.dload_n 0, 1) := by decide +kernel
theorem dX11_brought_5 : decode cX11_brought 5 = .ok (.d2f, 1) := by decide +kernel
theorem dX11_brought_6 : decode cX11_brought 6 = .ok (.f2d, 1) := by decide +kernel
theorem dX11_brought_7 : decode cX11_brought 7 = .ok (.goto 4, 3) := by decide +kernel
theorem dX11_brought_10 : decode cX11_brought 10 = .ok (.dload_n 0, 1) := by decide +kernel
theorem dX11_brought_11 : decode cX11_brought 11 = .ok (.dreturn, 1) := by decide +kernel
theorem dX11_isLower_0 : decode cX11_isLower 0 = .ok (.dload_n 0, 1) := by decide +kernel
theorem dX11_isLower_1 : decode cX11_isLower 1 = .ok (.dload_n 2, 1) := by decide +kernel
theorem dX11_isLower_2 : decode cX11_isLower 2 = .ok (.dcmp .g, 1) := by decide +kernel
theorem dX11_isLower_3 : decode cX11_isLower 3 = .ok (.ifCond .lt 31, 3) := by decide +kernel
theorem dX11_isLower_6 : decode cX11_isLower 6 = .ok (.dload_n 0, 1) := by decide +kernel
theorem dX11_isLower_7 : decode cX11_isLower 7 = .ok (.invokestatic 61, 3) := by decide +kernel
theorem dX11_isLower_10 : decode cX11_isLower 10 = .ok (.ifCond .eq 28, 3) := by decide +kernel
theorem dX11_isLower_13 : decode cX11_isLower 13 = .ok (.dload_n 2, 1) := by decide +kernel
theorem dX11_isLower_14 : decode cX11_isLower 14 = .ok (.invokestatic 61, 3) := by decide +kernel
theorem dX11_isLower_17 : decode cX11_isLower 17 = .ok (.ifCond .eq 21, 3) := by decide +kernel
theorem dX11_isLower_20 : decode cX11_isLower 20 = .ok (.dload_n 0, 1) := by decide +kernel
theorem dX11_isLower_21 : decode cX11_isLower 21 = .ok (.invokestatic 67, 3) := by decide +kernel
theorem dX11_isLower_24 : decode cX11_isLower 24 = .ok (.ifCond .eq 14, 3) := by decide +kernel
theorem dX11_isLower_27 : decode cX11_isLower 27 = .ok (.dload_n 2, 1) := by decide +kernel
theorem dX11_isLower_28 : decode cX11_isLower 28 = .ok (.invokestatic 67, 3) := by decide +kernel
theorem dX11_isLower_31 : decode cX11_isLower 31 = .ok (.ifCond .ne 7, 3) := by decide +kernel
theorem dX11_isLower_34 : decode cX11_isLower 34 = .ok (.iconst 1, 1) := by decide +kernel
theorem dX11_isLower_35 : decode cX11_isLower 35 = .ok (.goto 4, 3) := by decide +kernel
theorem dX11_isLower_38 : decode cX11_isLower 38 = .ok (.iconst 0, 1) := by decide +kernel
theorem dX11_isLower_39 : decode cX11_isLower 39 = .ok (.ireturn, 1) := by decide +kernel
theorem dX11_isSo_0 : decode cX11_isSo 0 = .ok (.iload_n 0, 1) := by decide +kernel
theorem dX11_isSo_1 : decode cX11_isSo 1 = .ok (.bipush 6, 2) := by decide +kernel
theorem dX11_isSo_3 : decode cX11_isSo 3 = .ok (.irem, 1) := by decide +kernel
theorem dX11_isSo_4 : decode cX11_isSo 4 = .ok (.istore 7, 2) := by decide +kernel
theorem dX11_isSo_6 : decode cX11_isSo 6 = .ok (.iload_n 3, 1) := by decide +kernel
theorem dX11_isSo_7 : decode cX11_isSo 7 = .ok (.ifCond .ne 8, 3) := by decide +kernel
theorem dX11_isSo_10 : decode cX11_isSo 10 = .ok (.iload 6, 2) := by decide +kernel
theorem dX11_isSo_12 : decode cX11_isSo 12 = .ok (.ifCond .eq 19, 3) := by decide +kernel
theorem dX11_isSo_15 : decode cX11_isSo 15 = .ok (.iload 7, 2) := by decide +kernel
theorem dX11_isSo_17 : decode cX11_isSo 17 = .ok (.iconst 5, 1) := by decide +kernel
theorem dX11_isSo_18 : decode cX11_isSo 18 = .ok (.if_icmp .ne 7, 3) := by decide +kernel
theorem dX11_isSo_21 : decode cX11_isSo 21 = .ok (.iconst 1, 1) := by decide +kernel
theorem dX11_isSo_22 : decode cX11_isSo 22 = .ok (.goto 4, 3) := by decide +kernel
theorem dX11_isSo_25 : decode cX11_isSo 25 = .ok (.iconst 0, 1) := by decide +kernel
theorem dX11_isSo_26 : decode cX11_isSo 26 = .ok (.istore 8, 2) := by decide +kernel
theorem dX11_isSo_28 : decode cX11_isSo 28 = .ok (.goto 121, 3) := by decide +kernel
theorem dX11_isSo_31 : decode cX11_isSo 31 = .ok (.iload 7, 2) := by decide +kernel
theorem dX11_isSo_33 : decode cX11_isSo 33 = .ok (.ifCond .ne 18, 3) := by decide +kernel
theorem dX11_isSo_36 : decode cX11_isSo 36 = .ok (.dload_n 1, 1) := by decide +kernel
theorem dX11_isSo_37 : decode cX11_isSo 37 = .ok (.dload 4, 2) := by decide +kernel
theorem dX11_isSo_39 : decode cX11_isSo 39 = .ok (.dcmp .g, 1) := by decide +kernel
theorem dX11_isSo_40 : decode cX11_isSo 40 = .ok (.ifCond .ge 7, 3) := by decide +kernel
theorem dX11_isSo_43 : decode cX11_isSo 43 = .ok (.iconst 1, 1) := by decide +kernel
theorem dX11_isSo_44 : decode cX11_isSo 44 = .ok (.goto 103, 3) := by decide +kernel
theorem dX11_isSo_47 : decode cX11_isSo 47 = .ok (.iconst 0, 1) := by decide +kernel
theorem dX11_isSo_48 : decode cX11_isSo 48 = .ok (.goto 99, 3) := by decide +kernel
theorem dX11_isSo_51 : decode cX11_isSo 51 = .ok (.iload 7, 2) := by decide +kernel
theorem dX11_isSo_53 : decode cX11_isSo 53 = .ok (.iconst 1, 1) := by decide +kernel
theorem dX11_isSo_54 : decode cX11_isSo 54 = .ok (.if_icmp .ne 18, 3) := by decide +kernel
theorem dX11_isSo_57 : decode cX11_isSo 57 = .ok (.dload_n 1, 1) := by decide +kernel
theorem dX11_isSo_58 : decode cX11_isSo 58 = .ok (.dload 4, 2) := by decide +kernel
theorem dX11_isSo_60 : decode cX11_isSo 60 = .ok (.dcmp .g, 1) := by decide +kernel
theorem dX11_isSo_61 : decode cX11_isSo 61 = .ok (.ifCond .gt 7, 3) := by decide +kernel
theorem dX11_isSo_64 : decode cX11_isSo 64 = .ok (.iconst 1, 1) := by decide +kernel
theorem dX11_isSo_65 : decode cX11_isSo 65 = .ok (.goto 82, 3) := by decide +kernel
theorem dX11_isSo_68 : decode cX11_isSo 68 = .ok (.iconst 0, 1) := by decide +kernel
theorem dX11_isSo_69 : decode cX11_isSo 69 = .ok (.goto 78, 3) := by decide +kernel
theorem dX11_isSo_72 : decode cX11_isSo 72 = .ok (.iload 7, 2) := by decide +kernel
theorem dX11_isSo_74 : decode cX11_isSo 74 = .ok (.iconst 2, 1) := by decide +kernel
theorem dX11_isSo_75 : decode cX11_isSo 75 = .ok (.if_icmp .ne 18, 3) := by decide +kernel
theorem dX11_isSo_78 : decode cX11_isSo 78 = .ok (.dload_n 1, 1) := by decide +kernel
theorem dX11_isSo_79 : decode cX11_isSo 79 = .ok (.dload 4, 2) := by decide +kernel
theorem dX11_isSo_81 : decode cX11_isSo 81 = .ok (.dcmp .l, 1) := by decide +kernel
theorem dX11_isSo_82 : decode cX11_isSo 82 = .ok (.ifCond .le 7, 3) := by decide +kernel
theorem dX11_isSo_85 : decode cX11_isSo 85 = .ok (.iconst 1, 1) := by decide +kernel
theorem dX11_isSo_86 : decode cX11_isSo 86 = .ok (.goto 61, 3) := by decide +kernel
theorem dX11_isSo_89 : decode cX11_isSo 89 = .ok (.iconst 0, 1) := by decide +kernel
theorem dX11_isSo_90 : decode cX11_isSo 90 = .ok (.goto 57, 3) := by decide +kernel
theorem dX11_isSo_93 : decode cX11_isSo 93 = .ok (.iload 7, 2) := by decide +kernel
theorem dX11_isSo_95 : decode cX11_isSo 95 = .ok (.iconst 3, 1) := by decide +kernel
theorem dX11_isSo_96 : decode cX11_isSo 96 = .ok (.if_icmp .ne 18, 3) := by decide +kernel
theorem dX11_isSo_99 : decode cX11_isSo 99 = .ok (.dload_n 1, 1) := by decide +kernel
theorem dX11_isSo_100 : decode cX11_isSo 100 = .ok (.dload 4, 2) := by decide +kernel
theorem dX11_isSo_102 : decode cX11_isSo 102 = .ok (.dcmp .l, 1) := by decide +kernel
theorem dX11_isSo_103 : decode cX11_isSo 103 = .ok (.ifCond .lt 7, 3) := by decide +kernel
theorem dX11_isSo_106 : decode cX11_isSo 106 = .ok (.iconst 1, 1) := by decide +kernel
theorem dX11_isSo_107 : decode cX11_isSo 107 = .ok (.goto 40, 3) := by decide +kernel
theorem dX11_isSo_110 : decode cX11_isSo 110 = .ok (.iconst 0, 1) := by decide +kernel
theorem dX11_isSo_111 : decode cX11_isSo 111 = .ok (.goto 36, 3) := by decide +kernel
theorem dX11_isSo_114 : decode cX11_isSo 114 = .ok (.iload 7, 2) := by decide +kernel
theorem dX11_isSo_116 : decode cX11_isSo 116 = .ok (.iconst 4, 1) := by decide +kernel
theorem dX11_isSo_117 : decode cX11_isSo 117 = .ok (.if_icmp .ne 18, 3) := by decide +kernel
theorem dX11_isSo_120 : decode cX11_isSo 120 = .ok (.dload_n 1, 1) := by decide +kernel
theorem dX11_isSo_121 : decode cX11_isSo 121 = .ok (.dload 4, 2) := by decide +kernel
theorem dX11_isSo_123 : decode cX11_isSo 123 = .ok (.dcmp .l, 1) := by decide +kernel
theorem dX11_isSo_124 : decode cX11_isSo 124 = .ok (.ifCond .ne 7, 3) := by decide +kernel
theorem dX11_isSo_127 : decode cX11_isSo 127 = .ok (.iconst 1, 1) := by decide +kernel
theorem dX11_isSo_128 : decode cX11_isSo 128 = .ok (.goto 19, 3) := by decide +kernel
theorem dX11_isSo_131 : decode cX11_isSo 131 = .ok (.iconst 0, 1) := by decide +kernel
theorem dX11_isSo_132 : decode cX11_isSo 132 = .ok (.goto 15, 3) := by decide +kernel
theorem dX11_isSo_135 : decode cX11_isSo 135 = .ok (.dload_n 1, 1) := by decide +kernel
theorem dX11_isSo_136 : decode cX11_isSo 136 = .ok (.dload 4, 2) := by decide +kernel
theorem dX11_isSo_138 : decode cX11_isSo 138 = .ok (.dcmp .l, 1) := by decide +kernel
theorem dX11_isSo_139 : decode cX11_isSo 139 = .ok (.ifCond .eq 7, 3) := by decide +kernel
theorem dX11_isSo_142 : decode cX11_isSo 142 = .ok (.iconst 1, 1) := by decide +kernel
theorem dX11_isSo_143 : decode cX11_isSo 143 = .ok (.goto 4, 3) := by decide +kernel
theorem dX11_isSo_146 : decode cX11_isSo 146 = .ok (.iconst 0, 1) := by decide +kernel
theorem dX11_isSo_147 : decode cX11_isSo 147 = .ok (.istore 8, 2) := by decide +kernel
theorem dX11_isSo_149 : decode cX11_isSo 149 = .ok (.iload_n 0, 1) := by decide +kernel
theorem dX11_isSo_150 : decode cX11_isSo 150 = .ok (.bipush 6, 2) := by decide +kernel
theorem dX11_isSo_152 : decode cX11_isSo 152 = .ok (.if_icmp .ge 8, 3) := by decide +kernel
theorem dX11_isSo_155 : decode cX11_isSo 155 = .ok (.iload 8, 2) := by decide +kernel
theorem dX11_isSo_157 : decode cX11_isSo 157 = .ok (.goto 13, 3) := by decide +kernel
theorem dX11_isSo_160 : decode cX11_isSo 160 = .ok (.iload 8, 2) := by decide +kernel
theorem dX11_isSo_162 : decode cX11_isSo 162 = .ok (.ifCond .ne 7, 3) := by decide +kernel
theorem dX11_isSo_165 : decode cX11_isSo 165 = .ok (.iconst 1, 1) := by decide +kernel
theorem dX11_isSo_166 : decode cX11_isSo 166 = .ok (.goto 4, 3) := by decide +kernel
theorem dX11_isSo_169 : decode cX11_isSo 169 = .ok (.iconst 0, 1) := by decide +kernel
theorem dX11_isSo_170 : decode cX11_isSo 170 = .ok (.ireturn, 1) := by decide +kernel
theorem dX11_whole_0 : decode cX11_whole 0 = .ok (.dload_n 0, 1) := by decide +kernel
theorem dX11_whole_1 : decode cX11_whole 1 = .ok (.ldc2_w 70, 3) := by decide +kernel
theorem dX11_whole_4 : decode cX11_whole 4 = .ok (.dcmp .l, 1) := by decide +kernel
theorem dX11_whole_5 : decode cX11_whole 5 = .ok (.ifCond .ge 11, 3) := by decide +kernel
theorem dX11_whole_8 : decode cX11_whole 8 = .ok (.dload_n 0, 1) := by decide +kernel
theorem dX11_whole_9 : decode cX11_whole 9 = .ok (.ldc2_w 72, 3) := by decide +kernel
theorem dX11_whole_12 : decode cX11_whole 12 = .ok (.dcmp .g, 1) := by decide +kernel
theorem dX11_whole_13 : decode cX11_whole 13 = .ok (.ifCond .gt 5, 3) := by decide +kernel
theorem dX11_whole_16 : decode cX11_whole 16 = .ok (.dload_n 0, 1) := by decide +kernel
theorem dX11_whole_17 : decode cX11_whole 17 = .ok (.dreturn, 1) := by decide +kernel
theorem dX11_whole_18 : decode cX11_whole 18 = .ok (.dload_n 0, 1) := by decide +kernel
theorem dX11_whole_19 : decode cX11_whole 19 = .ok (.d2l, 1) := by decide +kernel
theorem dX11_whole_20 : decode cX11_whole 20 = .ok (.lstore_n 3, 1) := by decide +kernel
theorem dX11_whole_21 : decode cX11_whole 21 = .ok (.dload_n 0, 1) := by decide +kernel
theorem dX11_whole_22 : decode cX11_whole 22 = .ok (.lload_n 3, 1) := by decide +kernel
theorem dX11_whole_23 : decode cX11_whole 23 = .ok (.l2d, 1) := by decide +kernel
theorem dX11_whole_24 : decode cX11_whole 24 = .ok (.dsub, 1) := by decide +kernel
theorem dX11_whole_25 : decode cX11_whole 25 = .ok (.dstore 5, 2) := by decide +kernel
theorem dX11_whole_27 : decode cX11_whole 27 = .ok (.iload_n 2, 1) := by decide +kernel
theorem dX11_whole_28 : decode cX11_whole 28 = .ok (.ifCond .ne 21, 3) := by decide +kernel
theorem dX11_whole_31 : decode cX11_whole 31 = .ok (.lload_n 3, 1) := by decide +kernel
theorem dX11_whole_32 : decode cX11_whole 32 = .ok (.dload 5, 2) := by decide +kernel
theorem dX11_whole_34 : decode cX11_whole 34 = .ok (.dconst 0, 1) := by decide +kernel
theorem dX11_whole_35 : decode cX11_whole 35 = .ok (.dcmp .g, 1) := by decide +kernel
theorem dX11_whole_36 : decode cX11_whole 36 = .ok (.ifCond .ge 7, 3) := by decide +kernel
theorem dX11_whole_39 : decode cX11_whole 39 = .ok (.lconst 1, 1) := by decide +kernel
theorem dX11_whole_40 : decode cX11_whole 40 = .ok (.goto 4, 3) := by decide +kernel
theorem dX11_whole_43 : decode cX11_whole 43 = .ok (.lconst 0, 1) := by decide +kernel
theorem dX11_whole_44 : decode cX11_whole 44 = .ok (.lsub, 1) := by decide +kernel
theorem dX11_whole_45 : decode cX11_whole 45 = .ok (.lstore_n 3, 1) := by decide +kernel
theorem dX11_whole_46 : decode cX11_whole 46 = .ok (.goto 101, 3) := by decide +kernel
theorem dX11_whole_49 : decode cX11_whole 49 = .ok (.iload_n 2, 1) := by decide +kernel
theorem dX11_whole_50 : decode cX11_whole 50 = .ok (.iconst 1, 1) := by decide +kernel
theorem dX11_whole_51 : decode cX11_whole 51 = .ok (.if_icmp .ne 21, 3) := by decide +kernel
theorem dX11_whole_54 : decode cX11_whole 54 = .ok (.lload_n 3, 1) := by decide +kernel
theorem dX11_whole_55 : decode cX11_whole 55 = .ok (.dload 5, 2) := by decide +kernel
theorem dX11_whole_57 : decode cX11_whole 57 = .ok (.dconst 0, 1) := by decide +kernel
theorem dX11_whole_58 : decode cX11_whole 58 = .ok (.dcmp .l, 1) := by decide +kernel
theorem dX11_whole_59 : decode cX11_whole 59 = .ok (.ifCond .le 7, 3) := by decide +kernel
theorem dX11_whole_62 : decode cX11_whole 62 = .ok (.lconst 1, 1) := by decide +kernel
theorem dX11_whole_63 : decode cX11_whole 63 = .ok (.goto 4, 3) := by decide +kernel
theorem dX11_whole_66 : decode cX11_whole 66 = .ok (.lconst 0, 1) := by decide +kernel
theorem dX11_whole_67 : decode cX11_whole 67 = .ok (.ladd, 1) := by decide +kernel
theorem dX11_whole_68 : decode cX11_whole 68 = .ok (.lstore_n 3, 1) := by decide +kernel
theorem dX11_whole_69 : decode cX11_whole 69 = .ok (.goto 78, 3) := by decide +kernel
theorem dX11_whole_72 : decode cX11_whole 72 = .ok (.lload_n 3, 1) := by decide +kernel
theorem dX11_whole_73 : decode cX11_whole 73 = .ok (.lconst 1, 1) := by decide +kernel
theorem dX11_whole_74 : decode cX11_whole 74 = .ok (.land, 1) := by decide +kernel
theorem dX11_whole_75 : decode cX11_whole 75 = .ok (.lconst 1, 1) := by decide +kernel
theorem dX11_whole_76 : decode cX11_whole 76 = .ok (.lcmp, 1) := by decide +kernel
theorem dX11_whole_77 : decode cX11_whole 77 = .ok (.ifCond .ne 7, 3) := by decide +kernel
theorem dX11_whole_80 : decode cX11_whole 80 = .ok (.iconst 1, 1) := by decide +kernel
theorem dX11_whole_81 : decode cX11_whole 81 = .ok (.goto 4, 3) := by decide +kernel
theorem dX11_whole_84 : decode cX11_whole 84 = .ok (.iconst 0, 1) := by decide +kernel
theorem dX11_whole_85 : decode cX11_whole 85 = .ok (.istore 7, 2) := by decide +kernel
theorem dX11_whole_87 : decode cX11_whole 87 = .ok (.lload_n 3, 1) := by decide +kernel
theorem dX11_whole_88 : decode cX11_whole 88 = .ok (.dload 5, 2) := by decide +kernel
theorem dX11_whole_90 : decode cX11_whole 90 = .ok (.ldc2_w 74, 3) := by decide +kernel
theorem dX11_whole_93 : decode cX11_whole 93 = .ok (.dcmp .l, 1) := by decide +kernel
theorem dX11_whole_94 : decode cX11_whole 94 = .ok (.ifCond .gt 17, 3) := by decide +kernel
theorem dX11_whole_97 : decode cX11_whole 97 = .ok (.dload 5, 2) := by decide +kernel
theorem dX11_whole_99 : decode cX11_whole 99 = .ok (.ldc2_w 74, 3) := by decide +kernel
theorem dX11_whole_102 : decode cX11_whole 102 = .ok (.dcmp .l, 1) := by decide +kernel
theorem dX11_whole_103 : decode cX11_whole 103 = .ok (.ifCond .ne 12, 3) := by decide +kernel
theorem dX11_whole_106 : decode cX11_whole 106 = .ok (.iload 7, 2) := by decide +kernel
theorem dX11_whole_108 : decode cX11_whole 108 = .ok (.ifCond .eq 7, 3) := by decide +kernel
theorem dX11_whole_111 : decode cX11_whole 111 = .ok (.lconst 1, 1) := by decide +kernel
theorem dX11_whole_112 : decode cX11_whole 112 = .ok (.goto 33, 3) := by decide +kernel
theorem dX11_whole_115 : decode cX11_whole 115 = .ok (.dload 5, 2) := by decide +kernel
theorem dX11_whole_117 : decode cX11_whole 117 = .ok (.ldc2_w 76, 3) := by decide +kernel
theorem dX11_whole_120 : decode cX11_whole 120 = .ok (.dcmp .g, 1) := by decide +kernel
theorem dX11_whole_121 : decode cX11_whole 121 = .ok (.ifCond .lt 17, 3) := by decide +kernel
theorem dX11_whole_124 : decode cX11_whole 124 = .ok (.dload 5, 2) := by decide +kernel
theorem dX11_whole_126 : decode cX11_whole 126 = .ok (.ldc2_w 76, 3) := by decide +kernel
theorem dX11_whole_129 : decode cX11_whole 129 = .ok (.dcmp .l, 1) := by decide +kernel
theorem dX11_whole_130 : decode cX11_whole 130 = .ok (.ifCond .ne 14, 3) := by decide +kernel
theorem dX11_whole_133 : decode cX11_whole 133 = .ok (.iload 7, 2) := by decide +kernel
theorem dX11_whole_135 : decode cX11_whole 135 = .ok (.ifCond .eq 9, 3) := by decide +kernel
theorem dX11_whole_138 : decode cX11_whole 138 = .ok (.ldc2_w 78, 3) := by decide +kernel
theorem dX11_whole_141 : decode cX11_whole 141 = .ok (.goto 4, 3) := by decide +kernel
theorem dX11_whole_144 : decode cX11_whole 144 = .ok (.lconst 0, 1) := by decide +kernel
theorem dX11_whole_145 : decode cX11_whole 145 = .ok (.ladd, 1) := by decide +kernel
theorem dX11_whole_146 : decode cX11_whole 146 = .ok (.lstore_n 3, 1) := by decide +kernel
theorem dX11_whole_147 : decode cX11_whole 147 = .ok (.lload_n 3, 1) := by decide +kernel
theorem dX11_whole_148 : decode cX11_whole 148 = .ok (.lconst 0, 1) := by decide +kernel
theorem dX11_whole_149 : decode cX11_whole 149 = .ok (.lcmp, 1) := by decide +kernel
theorem dX11_whole_150 : decode cX11_whole 150 = .ok (.ifCond .ne 13, 3) := by decide +kernel
theorem dX11_whole_153 : decode cX11_whole 153 = .ok (.dload_n 0, 1) := by decide +kernel
theorem dX11_whole_154 : decode cX11_whole 154 = .ok (.invokestatic 67, 3) := by decide +kernel
theorem dX11_whole_157 : decode cX11_whole 157 = .ok (.invokestatic 80, 3) := by decide +kernel
theorem dX11_whole_160 : decode cX11_whole 160 = .ok (.goto 5, 3) := by decide +kernel
theorem dX11_whole_163 : decode cX11_whole 163 = .ok (.lload_n 3, 1) := by decide +kernel
theorem dX11_whole_164 : decode cX11_whole 164 = .ok (.l2d, 1) := by decide +kernel
theorem dX11_whole_165 : decode cX11_whole 165 = .ok (.dreturn, 1) := by decide +kernel
theorem dX11_sum_0 : decode cX11_sum 0 = .ok (.iload 4, 2) := by decide +kernel
theorem dX11_sum_2 : decode cX11_sum 2 = .ok (.ifCond .eq 12, 3) := by decide +kernel
theorem dX11_sum_5 : decode cX11_sum 5 = .ok (.dload_n 0, 1) := by decide +kernel
theorem dX11_sum_6 : decode cX11_sum 6 = .ok (.d2f, 1) := by decide +kernel
theorem dX11_sum_7 : decode cX11_sum 7 = .ok (.dload_n 2, 1) := by decide +kernel
theorem dX11_sum_8 : decode cX11_sum 8 = .ok (.d2f, 1) := by decide +kernel
theorem dX11_sum_9 : decode cX11_sum 9 = .ok (.fadd, 1) := by decide +kernel
theorem dX11_sum_10 : decode cX11_sum 10 = .ok (.f2d, 1) := by decide +kernel
theorem dX11_sum_11 : decode cX11_sum 11 = .ok (.goto 6, 3) := by decide +kernel
theorem dX11_sum_14 : decode cX11_sum 14 = .ok (.dload_n 0, 1) := by decide +kernel
theorem dX11_sum_15 : decode cX11_sum 15 = .ok (.dload_n 2, 1) := by decide +kernel
theorem dX11_sum_16 : decode cX11_sum 16 = .ok (.dadd, 1) := by decide +kernel
theorem dX11_sum_17 : decode cX11_sum 17 = .ok (.dreturn, 1) := by decide +kernel
theorem dX11_product_0 : decode cX11_product 0 = .ok (.iload 4, 2) := by decide +kernel
theorem dX11_product_2 : decode cX11_product 2 = .ok (.ifCond .eq 12, 3) := by decide +kernel
theorem dX11_product_5 : decode cX11_product 5 = .ok (.dload_n 0, 1) := by decide +kernel
theorem dX11_product_6 : decode cX11_product 6 = .ok (.d2f, 1) := by decide +kernel
theorem dX11_product_7 : decode cX11_product 7 = .ok (.dload_n 2, 1) := by decide +kernel
theorem dX11_product_8 : decode cX11_product 8 = .ok (.d2f, 1) := by decide +kernel
theorem dX11_product_9 : decode cX11_product 9 = .ok (.fmul, 1) := by decide +kernel
theorem dX11_product_10 : decode cX11_product 10 = .ok (.f2d, 1) := by decide +kernel
theorem dX11_product_11 : decode cX11_product 11 = .ok (.goto 6, 3) := by decide +kernel
theorem dX11_product_14 : decode cX11_product 14 = .ok (.dload_n 0, 1) := by decide +kernel
theorem dX11_product_15 : decode cX11_product 15 = .ok (.dload_n 2, 1) := by decide +kernel
theorem dX11_product_16 : decode cX11_product 16 = .ok (.dmul, 1) := by decide +kernel
theorem dX11_product_17 : decode cX11_product 17 = .ok (.dreturn, 1) := by decide +kernel
theorem dX11_quotient_0 : decode cX11_quotient 0 = .ok (.iload 4, 2) := by decide +kernel
theorem dX11_quotient_2 : decode cX11_quotient 2 = .ok (.ifCond .eq 12, 3) := by decide +kernel
theorem dX11_quotient_5 : decode cX11_quotient 5 = .ok (.dload_n 0, 1) := by decide +kernel
theorem dX11_quotient_6 : decode cX11_quotient 6 = .ok (.d2f, 1) := by decide +kernel
theorem dX11_quotient_7 : decode cX11_quotient 7 = .ok (.dload_n 2, 1) := by decide +kernel
theorem dX11_quotient_8 : decode cX11_quotient 8 = .ok (.d2f, 1) := by decide +kernel
theorem dX11_quotient_9 : decode cX11_quotient 9 = .ok (.fdiv, 1) := by decide +kernel
theorem dX11_quotient_10 : decode cX11_quotient 10 = .ok (.f2d, 1) := by decide +kernel
theorem dX11_quotient_11 : decode cX11_quotient 11 = .ok (.goto 6, 3) := by decide +kernel
theorem dX11_quotient_14 : decode cX11_quotient 14 = .ok (.dload_n 0, 1) := by decide +kernel
theorem dX11_quotient_15 : decode cX11_quotient 15 = .ok (.dload_n 2, 1) := by decide +kernel
theorem dX11_quotient_16 : decode cX11_quotient 16 = .ok (.ddiv, 1) := by decide +kernel
theorem dX11_quotient_17 : decode cX11_quotient 17 = .ok (.dreturn, 1) := by decide +kernel
theorem dX11_power_0 : decode cX11_power 0 = .ok (.iload_n 0, 1) := by decide +kernel
theorem dX11_power_1 : decode cX11_power 1 = .ok (.i2d, 1) := by decide +kernel
theorem dX11_power_2 : decode cX11_power 2 = .ok (.dstore_n 2, 1) := by decide +kernel
theorem dX11_power_3 : decode cX11_power 3 = .ok (.iconst 0, 1) := by decide +kernel
theorem dX11_power_4 : decode cX11_power 4 = .ok (.istore 4, 2) := by decide +kernel
theorem dX11_power_6 : decode cX11_power 6 = .ok (.iload 4, 2) := by decide +kernel
theorem dX11_power_8 : decode cX11_power 8 = .ok (.iload_n 1, 1) := by decide +kernel
theorem dX11_power_9 : decode cX11_power 9 = .ok (.if_icmp .ge 15, 3) := by decide +kernel
theorem dX11_power_12 : decode cX11_power 12 = .ok (.dload_n 2, 1) := by decide +kernel
theorem dX11_power_13 : decode cX11_power 13 = .ok (.ldc2_w 84, 3) := by decide +kernel
theorem dX11_power_16 : decode cX11_power 16 = .ok (.dmul, 1) := by decide +kernel
theorem dX11_power_17 : decode cX11_power 17 = .ok (.dstore_n 2, 1) := by decide +kernel
theorem dX11_power_18 : decode cX11_power 18 = .ok (.iinc 4 1, 3) := by decide +kernel
theorem dX11_power_21 : decode cX11_power 21 = .ok (.goto (-15), 3) := by decide +kernel
theorem dX11_power_24 : decode cX11_power 24 = .ok (.iconst 0, 1) := by decide +kernel
theorem dX11_power_25 : decode cX11_power 25 = .ok (.istore 4, 2) := by decide +kernel
theorem dX11_power_27 : decode cX11_power 27 = .ok (.iload 4, 2) := by decide +kernel
theorem dX11_power_29 : decode cX11_power 29 = .ok (.iload_n 1, 1) := by decide +kernel
theorem dX11_power_30 : decode cX11_power 30 = .ok (.if_icmp .le 15, 3) := by decide +kernel
theorem dX11_power_33 : decode cX11_power 33 = .ok (.dload_n 2, 1) := by decide +kernel
theorem dX11_power_34 : decode cX11_power 34 = .ok (.ldc2_w 84, 3) := by decide +kernel
theorem dX11_power_37 : decode cX11_power 37 = .ok (.ddiv, 1) := by decide +kernel
theorem dX11_power_38 : decode cX11_power 38 = .ok (.dstore_n 2, 1) := by decide +kernel
theorem dX11_power_39 : decode cX11_power 39 = .ok (.iinc 4 (-1), 3) := by decide +kernel
theorem dX11_power_42 : decode cX11_power 42 = .ok (.goto (-15), 3) := by decide +kernel
theorem dX11_power_45 : decode cX11_power 45 = .ok (.dload_n 2, 1) := by decide +kernel
theorem dX11_power_46 : decode cX11_power 46 = .ok (.dreturn, 1) := by decide +kernel
theorem dX11_gives_0 : decode cX11_gives 0 = .ok (.aload_n 0, 1) := by decide +kernel
theorem dX11_gives_1 : decode cX11_gives 1 = .ok (.dload_n 1, 1) := by decide +kernel
theorem dX11_gives_2 : decode cX11_gives 2 = .ok (.putfield 86, 3) := by decide +kernel
theorem dX11_gives_5 : decode cX11_gives 5 = .ok (.aload_n 0, 1) := by decide +kernel
theorem dX11_gives_6 : decode cX11_gives 6 = .ok (.iconst 0, 1) := by decide +kernel
theorem dX11_gives_7 : decode cX11_gives 7 = .ok (.putfield 90, 3) := by decide +kernel
theorem dX11_gives_10 : decode cX11_gives 10 = .ok (.return_, 1) := by decide +kernel
theorem dX11_givesNothing_0 : decode cX11_givesNothing 0 = .ok (.aload_n 0, 1) := by decide +kernel
theorem dX11_givesNothing_1 : decode cX11_givesNothing 1 = .ok (.dconst 0, 1) := by decide +kernel
theorem dX11_givesNothing_2 : decode cX11_givesNothing 2 = .ok (.putfield 86, 3) := by decide +kernel
theorem dX11_givesNothing_5 : decode cX11_givesNothing 5 = .ok (.aload_n 0, 1) := by decide +kernel
theorem dX11_givesNothing_6 : decode cX11_givesNothing 6 = .ok (.iconst 1, 1) := by decide +kernel
theorem dX11_givesNothing_7 : decode cX11_givesNothing 7 = .ok (.putfield 90, 3) := by decide +kernel
theorem dX11_givesNothing_10 : decode cX11_givesNothing 10 = .ok (.return_, 1) := by decide +kernel
theorem dX11_at_0 : decode cX11_at 0 = .ok (.iload_n 0, 1) := by decide +kernel
theorem dX11_at_1 : decode cX11_at 1 = .ok (.bipush 16, 2) := by decide +kernel
theorem dX11_at_3 : decode cX11_at 3 = .ok (.if_icmp .lt 14, 3) := by decide +kernel
theorem dX11_at_6 : decode cX11_at 6 = .ok (.sipush 192, 3) := by decide +kernel
theorem dX11_at_9 : decode cX11_at 9 = .ok (.iload_n 0, 1) := by decide +kernel
theorem dX11_at_10 : decode cX11_at 10 = .ok (.iadd, 1) := by decide +kernel
theorem dX11_at_11 : decode cX11_at 11 = .ok (.bipush 16, 2) := by decide +kernel
theorem dX11_at_13 : decode cX11_at 13 = .ok (.isub, 1) := by decide +kernel
theorem dX11_at_14 : decode cX11_at 14 = .ok (.goto 9, 3) := by decide +kernel
theorem dX11_at_17 : decode cX11_at 17 = .ok (.bipush 16, 2) := by decide +kernel
theorem dX11_at_19 : decode cX11_at 19 = .ok (.iload_n 0, 1) := by decide +kernel
theorem dX11_at_20 : decode cX11_at 20 = .ok (.imul, 1) := by decide +kernel
theorem dX11_at_21 : decode cX11_at 21 = .ok (.iload_n 1, 1) := by decide +kernel
theorem dX11_at_22 : decode cX11_at 22 = .ok (.iadd, 1) := by decide +kernel
theorem dX11_at_23 : decode cX11_at 23 = .ok (.ireturn, 1) := by decide +kernel
theorem dX11_single_0 : decode cX11_single 0 = .ok (.iload_n 1, 1) := by decide +kernel
theorem dX11_single_1 : decode cX11_single 1 = .ok (.tableswitch 173 0 7 #[47, 55, 75, 87, 99, 111, 141, 157], 47) := by decide +kernel
theorem dX11_single_48 : decode cX11_single 48 = .ok (.aload_n 0, 1) := by decide +kernel
theorem dX11_single_49 : decode cX11_single 49 = .ok (.dload_n 2, 1) := by decide +kernel
theorem dX11_single_50 : decode cX11_single 50 = .ok (.invokevirtual 94, 3) := by decide +kernel
theorem dX11_single_53 : decode cX11_single 53 = .ok (.goto 127, 3) := by decide +kernel
theorem dX11_single_56 : decode cX11_single 56 = .ok (.aload_n 0, 1) := by decide +kernel
theorem dX11_single_57 : decode cX11_single 57 = .ok (.dload_n 2, 1) := by decide +kernel
theorem dX11_single_58 : decode cX11_single 58 = .ok (.invokestatic 67, 3) := by decide +kernel
theorem dX11_single_61 : decode cX11_single 61 = .ok (.ifCond .eq 8, 3) := by decide +kernel
theorem dX11_single_64 : decode cX11_single 64 = .ok (.dload_n 2, 1) := by decide +kernel
theorem dX11_single_65 : decode cX11_single 65 = .ok (.dneg, 1) := by decide +kernel
theorem dX11_single_66 : decode cX11_single 66 = .ok (.goto 4, 3) := by decide +kernel
theorem dX11_single_69 : decode cX11_single 69 = .ok (.dload_n 2, 1) := by decide +kernel
end
section
theorem dX11_single_70 : decode cX11_single 70 = .ok (.invokevirtual 94, 3) := by decide +kernel
theorem dX11_single_73 : decode cX11_single 73 = .ok (.goto 107, 3) := by decide +kernel
theorem dX11_single_76 : decode cX11_single 76 = .ok (.aload_n 0, 1) := by decide +kernel
theorem dX11_single_77 : decode cX11_single 77 = .ok (.dload_n 2, 1) := by decide +kernel
theorem dX11_single_78 : decode cX11_single 78 = .ok (.iconst 0, 1) := by decide +kernel
theorem dX11_single_79 : decode cX11_single 79 = .ok (.invokestatic 98, 3) := by decide +kernel
theorem dX11_single_82 : decode cX11_single 82 = .ok (.invokevirtual 94, 3) := by decide +kernel
theorem dX11_single_85 : decode cX11_single 85 = .ok (.goto 95, 3) := by decide +kernel
theorem dX11_single_88 : decode cX11_single 88 = .ok (.aload_n 0, 1) := by decide +kernel
theorem dX11_single_89 : decode cX11_single 89 = .ok (.dload_n 2, 1) := by decide +kernel
theorem dX11_single_90 : decode cX11_single 90 = .ok (.iconst 1, 1) := by decide +kernel
theorem dX11_single_91 : decode cX11_single 91 = .ok (.invokestatic 98, 3) := by decide +kernel
theorem dX11_single_94 : decode cX11_single 94 = .ok (.invokevirtual 94, 3) := by decide +kernel
theorem dX11_single_97 : decode cX11_single 97 = .ok (.goto 83, 3) := by decide +kernel
theorem dX11_single_100 : decode cX11_single 100 = .ok (.aload_n 0, 1) := by decide +kernel
theorem dX11_single_101 : decode cX11_single 101 = .ok (.dload_n 2, 1) := by decide +kernel
theorem dX11_single_102 : decode cX11_single 102 = .ok (.iconst 2, 1) := by decide +kernel
theorem dX11_single_103 : decode cX11_single 103 = .ok (.invokestatic 98, 3) := by decide +kernel
theorem dX11_single_106 : decode cX11_single 106 = .ok (.invokevirtual 94, 3) := by decide +kernel
theorem dX11_single_109 : decode cX11_single 109 = .ok (.goto 71, 3) := by decide +kernel
theorem dX11_single_112 : decode cX11_single 112 = .ok (.aload_n 0, 1) := by decide +kernel
theorem dX11_single_113 : decode cX11_single 113 = .ok (.dload_n 2, 1) := by decide +kernel
theorem dX11_single_114 : decode cX11_single 114 = .ok (.dconst 0, 1) := by decide +kernel
theorem dX11_single_115 : decode cX11_single 115 = .ok (.dcmp .l, 1) := by decide +kernel
theorem dX11_single_116 : decode cX11_single 116 = .ok (.ifCond .le 7, 3) := by decide +kernel
theorem dX11_single_119 : decode cX11_single 119 = .ok (.dconst 1, 1) := by decide +kernel
theorem dX11_single_120 : decode cX11_single 120 = .ok (.goto 16, 3) := by decide +kernel
theorem dX11_single_123 : decode cX11_single 123 = .ok (.dload_n 2, 1) := by decide +kernel
theorem dX11_single_124 : decode cX11_single 124 = .ok (.dconst 0, 1) := by decide +kernel
theorem dX11_single_125 : decode cX11_single 125 = .ok (.dcmp .g, 1) := by decide +kernel
theorem dX11_single_126 : decode cX11_single 126 = .ok (.ifCond .ge 9, 3) := by decide +kernel
theorem dX11_single_129 : decode cX11_single 129 = .ok (.ldc2_w 102, 3) := by decide +kernel
theorem dX11_single_132 : decode cX11_single 132 = .ok (.goto 4, 3) := by decide +kernel
theorem dX11_single_135 : decode cX11_single 135 = .ok (.dload_n 2, 1) := by decide +kernel
theorem dX11_single_136 : decode cX11_single 136 = .ok (.invokevirtual 94, 3) := by decide +kernel
theorem dX11_single_139 : decode cX11_single 139 = .ok (.goto 41, 3) := by decide +kernel
theorem dX11_single_142 : decode cX11_single 142 = .ok (.aload_n 0, 1) := by decide +kernel
theorem dX11_single_143 : decode cX11_single 143 = .ok (.dload_n 2, 1) := by decide +kernel
theorem dX11_single_144 : decode cX11_single 144 = .ok (.ldc2_w 84, 3) := by decide +kernel
theorem dX11_single_147 : decode cX11_single 147 = .ok (.iload 4, 2) := by decide +kernel
theorem dX11_single_149 : decode cX11_single 149 = .ok (.invokestatic 104, 3) := by decide +kernel
theorem dX11_single_152 : decode cX11_single 152 = .ok (.invokevirtual 94, 3) := by decide +kernel
theorem dX11_single_155 : decode cX11_single 155 = .ok (.goto 25, 3) := by decide +kernel
theorem dX11_single_158 : decode cX11_single 158 = .ok (.aload_n 0, 1) := by decide +kernel
theorem dX11_single_159 : decode cX11_single 159 = .ok (.ldc2_w 84, 3) := by decide +kernel
theorem dX11_single_162 : decode cX11_single 162 = .ok (.dload_n 2, 1) := by decide +kernel
theorem dX11_single_163 : decode cX11_single 163 = .ok (.iload 4, 2) := by decide +kernel
theorem dX11_single_165 : decode cX11_single 165 = .ok (.invokestatic 108, 3) := by decide +kernel
theorem dX11_single_168 : decode cX11_single 168 = .ok (.invokevirtual 94, 3) := by decide +kernel
theorem dX11_single_171 : decode cX11_single 171 = .ok (.goto 9, 3) := by decide +kernel
theorem dX11_single_174 : decode cX11_single 174 = .ok (.aload_n 0, 1) := by decide +kernel
theorem dX11_single_175 : decode cX11_single 175 = .ok (.dload_n 2, 1) := by decide +kernel
theorem dX11_single_176 : decode cX11_single 176 = .ok (.dneg, 1) := by decide +kernel
theorem dX11_single_177 : decode cX11_single 177 = .ok (.invokevirtual 94, 3) := by decide +kernel
theorem dX11_single_180 : decode cX11_single 180 = .ok (.return_, 1) := by decide +kernel
theorem dX11_difference_0 : decode cX11_difference 0 = .ok (.dload_n 1, 1) := by decide +kernel
theorem dX11_difference_1 : decode cX11_difference 1 = .ok (.invokestatic 111, 3) := by decide +kernel
theorem dX11_difference_4 : decode cX11_difference 4 = .ok (.ifCond .eq 16, 3) := by decide +kernel
theorem dX11_difference_7 : decode cX11_difference 7 = .ok (.dload_n 1, 1) := by decide +kernel
theorem dX11_difference_8 : decode cX11_difference 8 = .ok (.dload_n 3, 1) := by decide +kernel
theorem dX11_difference_9 : decode cX11_difference 9 = .ok (.dcmp .l, 1) := by decide +kernel
theorem dX11_difference_10 : decode cX11_difference 10 = .ok (.ifCond .ne 10, 3) := by decide +kernel
theorem dX11_difference_13 : decode cX11_difference 13 = .ok (.aload_n 0, 1) := by decide +kernel
theorem dX11_difference_14 : decode cX11_difference 14 = .ok (.invokevirtual 114, 3) := by decide +kernel
theorem dX11_difference_17 : decode cX11_difference 17 = .ok (.goto 15, 3) := by decide +kernel
theorem dX11_difference_20 : decode cX11_difference 20 = .ok (.aload_n 0, 1) := by decide +kernel
theorem dX11_difference_21 : decode cX11_difference 21 = .ok (.dload_n 1, 1) := by decide +kernel
theorem dX11_difference_22 : decode cX11_difference 22 = .ok (.dload_n 3, 1) := by decide +kernel
theorem dX11_difference_23 : decode cX11_difference 23 = .ok (.dneg, 1) := by decide +kernel
theorem dX11_difference_24 : decode cX11_difference 24 = .ok (.iload 5, 2) := by decide +kernel
theorem dX11_difference_26 : decode cX11_difference 26 = .ok (.invokestatic 117, 3) := by decide +kernel
theorem dX11_difference_29 : decode cX11_difference 29 = .ok (.invokevirtual 94, 3) := by decide +kernel
theorem dX11_difference_32 : decode cX11_difference 32 = .ok (.return_, 1) := by decide +kernel
theorem dX11_both_0 : decode cX11_both 0 = .ok (.iload_n 1, 1) := by decide +kernel
theorem dX11_both_1 : decode cX11_both 1 = .ok (.lookupswitch 214 #[(9, 51), (11, 83), (12, 123), (13, 163), (26, 188)], 51) := by decide +kernel
theorem dX11_both_52 : decode cX11_both 52 = .ok (.dload_n 2, 1) := by decide +kernel
theorem dX11_both_53 : decode cX11_both 53 = .ok (.invokestatic 111, 3) := by decide +kernel
theorem dX11_both_56 : decode cX11_both 56 = .ok (.ifCond .eq 22, 3) := by decide +kernel
theorem dX11_both_59 : decode cX11_both 59 = .ok (.dload 4, 2) := by decide +kernel
theorem dX11_both_61 : decode cX11_both 61 = .ok (.invokestatic 111, 3) := by decide +kernel
theorem dX11_both_64 : decode cX11_both 64 = .ok (.ifCond .eq 14, 3) := by decide +kernel
theorem dX11_both_67 : decode cX11_both 67 = .ok (.dload_n 2, 1) := by decide +kernel
theorem dX11_both_68 : decode cX11_both 68 = .ok (.dload 4, 2) := by decide +kernel
theorem dX11_both_70 : decode cX11_both 70 = .ok (.dcmp .l, 1) := by decide +kernel
theorem dX11_both_71 : decode cX11_both 71 = .ok (.ifCond .eq 7, 3) := by decide +kernel
theorem dX11_both_74 : decode cX11_both 74 = .ok (.iconst 1, 1) := by decide +kernel
theorem dX11_both_75 : decode cX11_both 75 = .ok (.goto 4, 3) := by decide +kernel
theorem dX11_both_78 : decode cX11_both 78 = .ok (.iconst 0, 1) := by decide +kernel
theorem dX11_both_79 : decode cX11_both 79 = .ok (.istore 7, 2) := by decide +kernel
theorem dX11_both_81 : decode cX11_both 81 = .ok (.goto 137, 3) := by decide +kernel
theorem dX11_both_84 : decode cX11_both 84 = .ok (.dload_n 2, 1) := by decide +kernel
theorem dX11_both_85 : decode cX11_both 85 = .ok (.invokestatic 61, 3) := by decide +kernel
theorem dX11_both_88 : decode cX11_both 88 = .ok (.ifCond .eq 11, 3) := by decide +kernel
theorem dX11_both_91 : decode cX11_both 91 = .ok (.dload 4, 2) := by decide +kernel
theorem dX11_both_93 : decode cX11_both 93 = .ok (.invokestatic 111, 3) := by decide +kernel
theorem dX11_both_96 : decode cX11_both 96 = .ok (.ifCond .ne 18, 3) := by decide +kernel
theorem dX11_both_99 : decode cX11_both 99 = .ok (.dload_n 2, 1) := by decide +kernel
theorem dX11_both_100 : decode cX11_both 100 = .ok (.invokestatic 111, 3) := by decide +kernel
theorem dX11_both_103 : decode cX11_both 103 = .ok (.ifCond .eq 15, 3) := by decide +kernel
theorem dX11_both_106 : decode cX11_both 106 = .ok (.dload 4, 2) := by decide +kernel
theorem dX11_both_108 : decode cX11_both 108 = .ok (.invokestatic 61, 3) := by decide +kernel
theorem dX11_both_111 : decode cX11_both 111 = .ok (.ifCond .eq 7, 3) := by decide +kernel
theorem dX11_both_114 : decode cX11_both 114 = .ok (.iconst 1, 1) := by decide +kernel
theorem dX11_both_115 : decode cX11_both 115 = .ok (.goto 4, 3) := by decide +kernel
theorem dX11_both_118 : decode cX11_both 118 = .ok (.iconst 0, 1) := by decide +kernel
theorem dX11_both_119 : decode cX11_both 119 = .ok (.istore 7, 2) := by decide +kernel
theorem dX11_both_121 : decode cX11_both 121 = .ok (.goto 97, 3) := by decide +kernel
theorem dX11_both_124 : decode cX11_both 124 = .ok (.dload_n 2, 1) := by decide +kernel
theorem dX11_both_125 : decode cX11_both 125 = .ok (.invokestatic 61, 3) := by decide +kernel
theorem dX11_both_128 : decode cX11_both 128 = .ok (.ifCond .eq 11, 3) := by decide +kernel
theorem dX11_both_131 : decode cX11_both 131 = .ok (.dload 4, 2) := by decide +kernel
theorem dX11_both_133 : decode cX11_both 133 = .ok (.invokestatic 61, 3) := by decide +kernel
theorem dX11_both_136 : decode cX11_both 136 = .ok (.ifCond .ne 18, 3) := by decide +kernel
theorem dX11_both_139 : decode cX11_both 139 = .ok (.dload_n 2, 1) := by decide +kernel
theorem dX11_both_140 : decode cX11_both 140 = .ok (.invokestatic 111, 3) := by decide +kernel
theorem dX11_both_143 : decode cX11_both 143 = .ok (.ifCond .eq 15, 3) := by decide +kernel
theorem dX11_both_146 : decode cX11_both 146 = .ok (.dload 4, 2) := by decide +kernel
theorem dX11_both_148 : decode cX11_both 148 = .ok (.invokestatic 111, 3) := by decide +kernel
theorem dX11_both_151 : decode cX11_both 151 = .ok (.ifCond .eq 7, 3) := by decide +kernel
theorem dX11_both_154 : decode cX11_both 154 = .ok (.iconst 1, 1) := by decide +kernel
theorem dX11_both_155 : decode cX11_both 155 = .ok (.goto 4, 3) := by decide +kernel
theorem dX11_both_158 : decode cX11_both 158 = .ok (.iconst 0, 1) := by decide +kernel
theorem dX11_both_159 : decode cX11_both 159 = .ok (.istore 7, 2) := by decide +kernel
theorem dX11_both_161 : decode cX11_both 161 = .ok (.goto 57, 3) := by decide +kernel
theorem dX11_both_164 : decode cX11_both 164 = .ok (.dload 4, 2) := by decide +kernel
theorem dX11_both_166 : decode cX11_both 166 = .ok (.invokestatic 61, 3) := by decide +kernel
theorem dX11_both_169 : decode cX11_both 169 = .ok (.ifCond .ne 10, 3) := by decide +kernel
theorem dX11_both_172 : decode cX11_both 172 = .ok (.dload_n 2, 1) := by decide +kernel
theorem dX11_both_173 : decode cX11_both 173 = .ok (.invokestatic 111, 3) := by decide +kernel
theorem dX11_both_176 : decode cX11_both 176 = .ok (.ifCond .eq 7, 3) := by decide +kernel
theorem dX11_both_179 : decode cX11_both 179 = .ok (.iconst 1, 1) := by decide +kernel
theorem dX11_both_180 : decode cX11_both 180 = .ok (.goto 4, 3) := by decide +kernel
theorem dX11_both_183 : decode cX11_both 183 = .ok (.iconst 0, 1) := by decide +kernel
theorem dX11_both_184 : decode cX11_both 184 = .ok (.istore 7, 2) := by decide +kernel
theorem dX11_both_186 : decode cX11_both 186 = .ok (.goto 32, 3) := by decide +kernel
theorem dX11_both_189 : decode cX11_both 189 = .ok (.dload 4, 2) := by decide +kernel
theorem dX11_both_191 : decode cX11_both 191 = .ok (.invokestatic 61, 3) := by decide +kernel
theorem dX11_both_194 : decode cX11_both 194 = .ok (.ifCond .ne 11, 3) := by decide +kernel
theorem dX11_both_197 : decode cX11_both 197 = .ok (.dload 4, 2) := by decide +kernel
theorem dX11_both_199 : decode cX11_both 199 = .ok (.invokestatic 111, 3) := by decide +kernel
theorem dX11_both_202 : decode cX11_both 202 = .ok (.ifCond .eq 7, 3) := by decide +kernel
theorem dX11_both_205 : decode cX11_both 205 = .ok (.iconst 1, 1) := by decide +kernel
theorem dX11_both_206 : decode cX11_both 206 = .ok (.goto 4, 3) := by decide +kernel
theorem dX11_both_209 : decode cX11_both 209 = .ok (.iconst 0, 1) := by decide +kernel
theorem dX11_both_210 : decode cX11_both 210 = .ok (.istore 7, 2) := by decide +kernel
theorem dX11_both_212 : decode cX11_both 212 = .ok (.goto 6, 3) := by decide +kernel
theorem dX11_both_215 : decode cX11_both 215 = .ok (.iconst 0, 1) := by decide +kernel
theorem dX11_both_216 : decode cX11_both 216 = .ok (.istore 7, 2) := by decide +kernel
theorem dX11_both_218 : decode cX11_both 218 = .ok (.iload 7, 2) := by decide +kernel
theorem dX11_both_220 : decode cX11_both 220 = .ok (.ifCond .eq 8, 3) := by decide +kernel
theorem dX11_both_223 : decode cX11_both 223 = .ok (.aload_n 0, 1) := by decide +kernel
theorem dX11_both_224 : decode cX11_both 224 = .ok (.invokevirtual 114, 3) := by decide +kernel
theorem dX11_both_227 : decode cX11_both 227 = .ok (.return_, 1) := by decide +kernel
theorem dX11_both_228 : decode cX11_both 228 = .ok (.iload_n 1, 1) := by decide +kernel
theorem dX11_both_229 : decode cX11_both 229 = .ok (.tableswitch 196 9 16 #[47, 62, 74, 89, 104, 127, 149, 171], 47) := by decide +kernel
theorem dX11_both_276 : decode cX11_both 276 = .ok (.aload_n 0, 1) := by decide +kernel
theorem dX11_both_277 : decode cX11_both 277 = .ok (.dload_n 2, 1) := by decide +kernel
theorem dX11_both_278 : decode cX11_both 278 = .ok (.dload 4, 2) := by decide +kernel
theorem dX11_both_280 : decode cX11_both 280 = .ok (.iload 6, 2) := by decide +kernel
theorem dX11_both_282 : decode cX11_both 282 = .ok (.invokestatic 117, 3) := by decide +kernel
theorem dX11_both_285 : decode cX11_both 285 = .ok (.invokevirtual 94, 3) := by decide +kernel
theorem dX11_both_288 : decode cX11_both 288 = .ok (.goto 160, 3) := by decide +kernel
theorem dX11_both_291 : decode cX11_both 291 = .ok (.aload_n 0, 1) := by decide +kernel
theorem dX11_both_292 : decode cX11_both 292 = .ok (.dload_n 2, 1) := by decide +kernel
theorem dX11_both_293 : decode cX11_both 293 = .ok (.dload 4, 2) := by decide +kernel
theorem dX11_both_295 : decode cX11_both 295 = .ok (.iload 6, 2) := by decide +kernel
theorem dX11_both_297 : decode cX11_both 297 = .ok (.invokevirtual 120, 3) := by decide +kernel
theorem dX11_both_300 : decode cX11_both 300 = .ok (.goto 148, 3) := by decide +kernel
theorem dX11_both_303 : decode cX11_both 303 = .ok (.aload_n 0, 1) := by decide +kernel
theorem dX11_both_304 : decode cX11_both 304 = .ok (.dload_n 2, 1) := by decide +kernel
theorem dX11_both_305 : decode cX11_both 305 = .ok (.dload 4, 2) := by decide +kernel
theorem dX11_both_307 : decode cX11_both 307 = .ok (.iload 6, 2) := by decide +kernel
theorem dX11_both_309 : decode cX11_both 309 = .ok (.invokestatic 108, 3) := by decide +kernel
theorem dX11_both_312 : decode cX11_both 312 = .ok (.invokevirtual 94, 3) := by decide +kernel
theorem dX11_both_315 : decode cX11_both 315 = .ok (.goto 133, 3) := by decide +kernel
theorem dX11_both_318 : decode cX11_both 318 = .ok (.aload_n 0, 1) := by decide +kernel
theorem dX11_both_319 : decode cX11_both 319 = .ok (.dload_n 2, 1) := by decide +kernel
theorem dX11_both_320 : decode cX11_both 320 = .ok (.dload 4, 2) := by decide +kernel
theorem dX11_both_322 : decode cX11_both 322 = .ok (.iload 6, 2) := by decide +kernel
theorem dX11_both_324 : decode cX11_both 324 = .ok (.invokestatic 104, 3) := by decide +kernel
theorem dX11_both_327 : decode cX11_both 327 = .ok (.invokevirtual 94, 3) := by decide +kernel
theorem dX11_both_330 : decode cX11_both 330 = .ok (.goto 118, 3) := by decide +kernel
theorem dX11_both_333 : decode cX11_both 333 = .ok (.aload_n 0, 1) := by decide +kernel
theorem dX11_both_334 : decode cX11_both 334 = .ok (.dload 4, 2) := by decide +kernel
theorem dX11_both_336 : decode cX11_both 336 = .ok (.invokestatic 111, 3) := by decide +kernel
theorem dX11_both_339 : decode cX11_both 339 = .ok (.ifCond .eq 7, 3) := by decide +kernel
theorem dX11_both_342 : decode cX11_both 342 = .ok (.dload_n 2, 1) := by decide +kernel
theorem dX11_both_343 : decode cX11_both 343 = .ok (.goto 7, 3) := by decide +kernel
theorem dX11_both_346 : decode cX11_both 346 = .ok (.dload_n 2, 1) := by decide +kernel
theorem dX11_both_347 : decode cX11_both 347 = .ok (.dload 4, 2) := by decide +kernel
theorem dX11_both_349 : decode cX11_both 349 = .ok (.drem, 1) := by decide +kernel
theorem dX11_both_350 : decode cX11_both 350 = .ok (.invokevirtual 94, 3) := by decide +kernel
theorem dX11_both_353 : decode cX11_both 353 = .ok (.goto 95, 3) := by decide +kernel
theorem dX11_both_356 : decode cX11_both 356 = .ok (.aload_n 0, 1) := by decide +kernel
theorem dX11_both_357 : decode cX11_both 357 = .ok (.dload 4, 2) := by decide +kernel
theorem dX11_both_359 : decode cX11_both 359 = .ok (.dload_n 2, 1) := by decide +kernel
theorem dX11_both_360 : decode cX11_both 360 = .ok (.invokestatic 124, 3) := by decide +kernel
theorem dX11_both_363 : decode cX11_both 363 = .ok (.ifCond .eq 8, 3) := by decide +kernel
theorem dX11_both_366 : decode cX11_both 366 = .ok (.dload 4, 2) := by decide +kernel
theorem dX11_both_368 : decode cX11_both 368 = .ok (.goto 4, 3) := by decide +kernel
theorem dX11_both_371 : decode cX11_both 371 = .ok (.dload_n 2, 1) := by decide +kernel
theorem dX11_both_372 : decode cX11_both 372 = .ok (.invokevirtual 94, 3) := by decide +kernel
theorem dX11_both_375 : decode cX11_both 375 = .ok (.goto 73, 3) := by decide +kernel
theorem dX11_both_378 : decode cX11_both 378 = .ok (.aload_n 0, 1) := by decide +kernel
theorem dX11_both_379 : decode cX11_both 379 = .ok (.dload_n 2, 1) := by decide +kernel
theorem dX11_both_380 : decode cX11_both 380 = .ok (.dload 4, 2) := by decide +kernel
theorem dX11_both_382 : decode cX11_both 382 = .ok (.invokestatic 124, 3) := by decide +kernel
theorem dX11_both_385 : decode cX11_both 385 = .ok (.ifCond .eq 8, 3) := by decide +kernel
theorem dX11_both_388 : decode cX11_both 388 = .ok (.dload 4, 2) := by decide +kernel
theorem dX11_both_390 : decode cX11_both 390 = .ok (.goto 4, 3) := by decide +kernel
theorem dX11_both_393 : decode cX11_both 393 = .ok (.dload_n 2, 1) := by decide +kernel
theorem dX11_both_394 : decode cX11_both 394 = .ok (.invokevirtual 94, 3) := by decide +kernel
theorem dX11_both_397 : decode cX11_both 397 = .ok (.goto 51, 3) := by decide +kernel
theorem dX11_both_400 : decode cX11_both 400 = .ok (.aload_n 0, 1) := by decide +kernel
theorem dX11_both_401 : decode cX11_both 401 = .ok (.dload_n 2, 1) := by decide +kernel
theorem dX11_both_402 : decode cX11_both 402 = .ok (.invokestatic 67, 3) := by decide +kernel
theorem dX11_both_405 : decode cX11_both 405 = .ok (.dload 4, 2) := by decide +kernel
theorem dX11_both_407 : decode cX11_both 407 = .ok (.invokestatic 67, 3) := by decide +kernel
theorem dX11_both_410 : decode cX11_both 410 = .ok (.if_icmp .ne 7, 3) := by decide +kernel
theorem dX11_both_413 : decode cX11_both 413 = .ok (.dload_n 2, 1) := by decide +kernel
theorem dX11_both_414 : decode cX11_both 414 = .ok (.goto 5, 3) := by decide +kernel
theorem dX11_both_417 : decode cX11_both 417 = .ok (.dload_n 2, 1) := by decide +kernel
theorem dX11_both_418 : decode cX11_both 418 = .ok (.dneg, 1) := by decide +kernel
theorem dX11_both_419 : decode cX11_both 419 = .ok (.invokevirtual 94, 3) := by decide +kernel
theorem dX11_both_422 : decode cX11_both 422 = .ok (.goto 26, 3) := by decide +kernel
theorem dX11_both_425 : decode cX11_both 425 = .ok (.aload_n 0, 1) := by decide +kernel
theorem dX11_both_426 : decode cX11_both 426 = .ok (.dload_n 2, 1) := by decide +kernel
theorem dX11_both_427 : decode cX11_both 427 = .ok (.dload 4, 2) := by decide +kernel
theorem dX11_both_429 : decode cX11_both 429 = .ok (.iload 6, 2) := by decide +kernel
theorem dX11_both_431 : decode cX11_both 431 = .ok (.invokestatic 104, 3) := by decide +kernel
theorem dX11_both_434 : decode cX11_both 434 = .ok (.iconst 2, 1) := by decide +kernel
theorem dX11_both_435 : decode cX11_both 435 = .ok (.invokestatic 98, 3) := by decide +kernel
theorem dX11_both_438 : decode cX11_both 438 = .ok (.dload 4, 2) := by decide +kernel
theorem dX11_both_440 : decode cX11_both 440 = .ok (.iload 6, 2) := by decide +kernel
theorem dX11_both_442 : decode cX11_both 442 = .ok (.invokestatic 108, 3) := by decide +kernel
theorem dX11_both_445 : decode cX11_both 445 = .ok (.invokevirtual 94, 3) := by decide +kernel
theorem dX11_both_448 : decode cX11_both 448 = .ok (.return_, 1) := by decide +kernel
theorem dX11_x_0 : decode cX11_x 0 = .ok (.aload_n 0, 1) := by decide +kernel
theorem dX11_x_1 : decode cX11_x 1 = .ok (.getfield 26, 3) := by decide +kernel
theorem dX11_x_4 : decode cX11_x 4 = .ok (.aload_n 0, 1) := by decide +kernel
theorem dX11_x_5 : decode cX11_x 5 = .ok (.getfield 22, 3) := by decide +kernel
theorem dX11_x_8 : decode cX11_x 8 = .ok (.iconst 4, 1) := by decide +kernel
theorem dX11_x_9 : decode cX11_x 9 = .ok (.iload_n 1, 1) := by decide +kernel
theorem dX11_x_10 : decode cX11_x 10 = .ok (.imul, 1) := by decide +kernel
theorem dX11_x_11 : decode cX11_x 11 = .ok (.iconst 1, 1) := by decide +kernel
theorem dX11_x_12 : decode cX11_x 12 = .ok (.iadd, 1) := by decide +kernel
theorem dX11_x_13 : decode cX11_x 13 = .ok (.iaload, 1) := by decide +kernel
theorem dX11_x_14 : decode cX11_x 14 = .ok (.iload_n 2, 1) := by decide +kernel
theorem dX11_x_15 : decode cX11_x 15 = .ok (.invokestatic 128, 3) := by decide +kernel
theorem dX11_x_18 : decode cX11_x 18 = .ok (.daload, 1) := by decide +kernel
theorem dX11_x_19 : decode cX11_x 19 = .ok (.aload_n 0, 1) := by decide +kernel
theorem dX11_x_20 : decode cX11_x 20 = .ok (.getfield 19, 3) := by decide +kernel
theorem dX11_x_23 : decode cX11_x 23 = .ok (.iload_n 1, 1) := by decide +kernel
theorem dX11_x_24 : decode cX11_x 24 = .ok (.baload, 1) := by decide +kernel
theorem dX11_x_25 : decode cX11_x 25 = .ok (.invokestatic 132, 3) := by decide +kernel
theorem dX11_x_28 : decode cX11_x 28 = .ok (.dreturn, 1) := by decide +kernel
theorem dX11_noX_0 : decode cX11_noX 0 = .ok (.aload_n 0, 1) := by decide +kernel
theorem dX11_noX_1 : decode cX11_noX 1 = .ok (.getfield 29, 3) := by decide +kernel
theorem dX11_noX_4 : decode cX11_noX 4 = .ok (.aload_n 0, 1) := by decide +kernel
theorem dX11_noX_5 : decode cX11_noX 5 = .ok (.getfield 22, 3) := by decide +kernel
theorem dX11_noX_8 : decode cX11_noX 8 = .ok (.iconst 4, 1) := by decide +kernel
theorem dX11_noX_9 : decode cX11_noX 9 = .ok (.iload_n 1, 1) := by decide +kernel
theorem dX11_noX_10 : decode cX11_noX 10 = .ok (.imul, 1) := by decide +kernel
theorem dX11_noX_11 : decode cX11_noX 11 = .ok (.iconst 1, 1) := by decide +kernel
theorem dX11_noX_12 : decode cX11_noX 12 = .ok (.iadd, 1) := by decide +kernel
theorem dX11_noX_13 : decode cX11_noX 13 = .ok (.iaload, 1) := by decide +kernel
theorem dX11_noX_14 : decode cX11_noX 14 = .ok (.iload_n 2, 1) := by decide +kernel
theorem dX11_noX_15 : decode cX11_noX 15 = .ok (.invokestatic 128, 3) := by decide +kernel
theorem dX11_noX_18 : decode cX11_noX 18 = .ok (.baload, 1) := by decide +kernel
theorem dX11_noX_19 : decode cX11_noX 19 = .ok (.ireturn, 1) := by decide +kernel
theorem dX11_y_0 : decode cX11_y 0 = .ok (.aload_n 0, 1) := by decide +kernel
theorem dX11_y_1 : decode cX11_y 1 = .ok (.getfield 26, 3) := by decide +kernel
theorem dX11_y_4 : decode cX11_y 4 = .ok (.aload_n 0, 1) := by decide +kernel
theorem dX11_y_5 : decode cX11_y 5 = .ok (.getfield 22, 3) := by decide +kernel
theorem dX11_y_8 : decode cX11_y 8 = .ok (.iconst 4, 1) := by decide +kernel
theorem dX11_y_9 : decode cX11_y 9 = .ok (.iload_n 1, 1) := by decide +kernel
theorem dX11_y_10 : decode cX11_y 10 = .ok (.imul, 1) := by decide +kernel
theorem dX11_y_11 : decode cX11_y 11 = .ok (.iconst 2, 1) := by decide +kernel
theorem dX11_y_12 : decode cX11_y 12 = .ok (.iadd, 1) := by decide +kernel
theorem dX11_y_13 : decode cX11_y 13 = .ok (.iaload, 1) := by decide +kernel
theorem dX11_y_14 : decode cX11_y 14 = .ok (.iload_n 2, 1) := by decide +kernel
theorem dX11_y_15 : decode cX11_y 15 = .ok (.invokestatic 128, 3) := by decide +kernel
theorem dX11_y_18 : decode cX11_y 18 = .ok (.daload, 1) := by decide +kernel
theorem dX11_y_19 : decode cX11_y 19 = .ok (.aload_n 0, 1) := by decide +kernel
theorem dX11_y_20 : decode cX11_y 20 = .ok (.getfield 19, 3) := by decide +kernel
theorem dX11_y_23 : decode cX11_y 23 = .ok (.iload_n 1, 1) := by decide +kernel
theorem dX11_y_24 : decode cX11_y 24 = .ok (.baload, 1) := by decide +kernel
theorem dX11_y_25 : decode cX11_y 25 = .ok (.invokestatic 132, 3) := by decide +kernel
theorem dX11_y_28 : decode cX11_y 28 = .ok (.dreturn, 1) := by decide +kernel
theorem dX11_noY_0 : decode cX11_noY 0 = .ok (.aload_n 0, 1) := by decide +kernel
theorem dX11_noY_1 : decode cX11_noY 1 = .ok (.getfield 29, 3) := by decide +kernel
theorem dX11_noY_4 : decode cX11_noY 4 = .ok (.aload_n 0, 1) := by decide +kernel
theorem dX11_noY_5 : decode cX11_noY 5 = .ok (.getfield 22, 3) := by decide +kernel
theorem dX11_noY_8 : decode cX11_noY 8 = .ok (.iconst 4, 1) := by decide +kernel
theorem dX11_noY_9 : decode cX11_noY 9 = .ok (.iload_n 1, 1) := by decide +kernel
theorem dX11_noY_10 : decode cX11_noY 10 = .ok (.imul, 1) := by decide +kernel
theorem dX11_noY_11 : decode cX11_noY 11 = .ok (.iconst 2, 1) := by decide +kernel
theorem dX11_noY_12 : decode cX11_noY 12 = .ok (.iadd, 1) := by decide +kernel
theorem dX11_noY_13 : decode cX11_noY 13 = .ok (.iaload, 1) := by decide +kernel
theorem dX11_noY_14 : decode cX11_noY 14 = .ok (.iload_n 2, 1) := by decide +kernel
theorem dX11_noY_15 : decode cX11_noY 15 = .ok (.invokestatic 128, 3) := by decide +kernel
theorem dX11_noY_18 : decode cX11_noY 18 = .ok (.baload, 1) := by decide +kernel
theorem dX11_noY_19 : decode cX11_noY 19 = .ok (.ireturn, 1) := by decide +kernel
theorem dX11_compares_0 : decode cX11_compares 0 = .ok (.aload_n 0, 1) := by decide +kernel
theorem dX11_compares_1 : decode cX11_compares 1 = .ok (.getfield 22, 3) := by decide +kernel
theorem dX11_compares_4 : decode cX11_compares 4 = .ok (.iconst 4, 1) := by decide +kernel
theorem dX11_compares_5 : decode cX11_compares 5 = .ok (.iload_n 1, 1) := by decide +kernel
theorem dX11_compares_6 : decode cX11_compares 6 = .ok (.imul, 1) := by decide +kernel
theorem dX11_compares_7 : decode cX11_compares 7 = .ok (.iconst 3, 1) := by decide +kernel
theorem dX11_compares_8 : decode cX11_compares 8 = .ok (.iadd, 1) := by decide +kernel
theorem dX11_compares_9 : decode cX11_compares 9 = .ok (.iaload, 1) := by decide +kernel
theorem dX11_compares_10 : decode cX11_compares 10 = .ok (.aload_n 0, 1) := by decide +kernel
theorem dX11_compares_11 : decode cX11_compares 11 = .ok (.iload_n 1, 1) := by decide +kernel
theorem dX11_compares_12 : decode cX11_compares 12 = .ok (.iload_n 2, 1) := by decide +kernel
theorem dX11_compares_13 : decode cX11_compares 13 = .ok (.invokevirtual 136, 3) := by decide +kernel
theorem dX11_compares_16 : decode cX11_compares 16 = .ok (.aload_n 0, 1) := by decide +kernel
theorem dX11_compares_17 : decode cX11_compares 17 = .ok (.iload_n 1, 1) := by decide +kernel
theorem dX11_compares_18 : decode cX11_compares 18 = .ok (.iload_n 2, 1) := by decide +kernel
theorem dX11_compares_19 : decode cX11_compares 19 = .ok (.invokevirtual 140, 3) := by decide +kernel
theorem dX11_compares_22 : decode cX11_compares 22 = .ok (.aload_n 0, 1) := by decide +kernel
theorem dX11_compares_23 : decode cX11_compares 23 = .ok (.iload_n 1, 1) := by decide +kernel
theorem dX11_compares_24 : decode cX11_compares 24 = .ok (.iload_n 2, 1) := by decide +kernel
theorem dX11_compares_25 : decode cX11_compares 25 = .ok (.invokevirtual 144, 3) := by decide +kernel
theorem dX11_compares_28 : decode cX11_compares 28 = .ok (.aload_n 0, 1) := by decide +kernel
theorem dX11_compares_29 : decode cX11_compares 29 = .ok (.iload_n 1, 1) := by decide +kernel
theorem dX11_compares_30 : decode cX11_compares 30 = .ok (.iload_n 2, 1) := by decide +kernel
theorem dX11_compares_31 : decode cX11_compares 31 = .ok (.invokevirtual 147, 3) := by decide +kernel
theorem dX11_compares_34 : decode cX11_compares 34 = .ok (.invokestatic 150, 3) := by decide +kernel
theorem dX11_compares_37 : decode cX11_compares 37 = .ok (.ireturn, 1) := by decide +kernel
theorem dX11_rank_0 : decode cX11_rank 0 = .ok (.iconst 0, 1) := by decide +kernel
theorem dX11_rank_1 : decode cX11_rank 1 = .ok (.istore 5, 2) := by decide +kernel
theorem dX11_rank_3 : decode cX11_rank 3 = .ok (.aload_n 0, 1) := by decide +kernel
theorem dX11_rank_4 : decode cX11_rank 4 = .ok (.iload_n 1, 1) := by decide +kernel
theorem dX11_rank_5 : decode cX11_rank 5 = .ok (.iload 4, 2) := by decide +kernel
theorem dX11_rank_7 : decode cX11_rank 7 = .ok (.invokevirtual 136, 3) := by decide +kernel
theorem dX11_rank_10 : decode cX11_rank 10 = .ok (.dstore 6, 2) := by decide +kernel
theorem dX11_rank_12 : decode cX11_rank 12 = .ok (.iload_n 2, 1) := by decide +kernel
theorem dX11_rank_13 : decode cX11_rank 13 = .ok (.istore 8, 2) := by decide +kernel
theorem dX11_rank_15 : decode cX11_rank 15 = .ok (.iload 8, 2) := by decide +kernel
theorem dX11_rank_17 : decode cX11_rank 17 = .ok (.iload_n 3, 1) := by decide +kernel
theorem dX11_rank_18 : decode cX11_rank 18 = .ok (.if_icmp .gt 65, 3) := by decide +kernel
theorem dX11_rank_21 : decode cX11_rank 21 = .ok (.aload_n 0, 1) := by decide +kernel
theorem dX11_rank_22 : decode cX11_rank 22 = .ok (.iload_n 1, 1) := by decide +kernel
theorem dX11_rank_23 : decode cX11_rank 23 = .ok (.iload 8, 2) := by decide +kernel
theorem dX11_rank_25 : decode cX11_rank 25 = .ok (.invokevirtual 140, 3) := by decide +kernel
theorem dX11_rank_28 : decode cX11_rank 28 = .ok (.ifCond .ne 49, 3) := by decide +kernel
theorem dX11_rank_31 : decode cX11_rank 31 = .ok (.aload_n 0, 1) := by decide +kernel
theorem dX11_rank_32 : decode cX11_rank 32 = .ok (.iload_n 1, 1) := by decide +kernel
theorem dX11_rank_33 : decode cX11_rank 33 = .ok (.iload 8, 2) := by decide +kernel
theorem dX11_rank_35 : decode cX11_rank 35 = .ok (.invokevirtual 136, 3) := by decide +kernel
theorem dX11_rank_38 : decode cX11_rank 38 = .ok (.dstore 9, 2) := by decide +kernel
theorem dX11_rank_40 : decode cX11_rank 40 = .ok (.iload 5, 2) := by decide +kernel
theorem dX11_rank_42 : decode cX11_rank 42 = .ok (.dload 9, 2) := by decide +kernel
theorem dX11_rank_44 : decode cX11_rank 44 = .ok (.dload 6, 2) := by decide +kernel
theorem dX11_rank_46 : decode cX11_rank 46 = .ok (.invokestatic 124, 3) := by decide +kernel
theorem dX11_rank_49 : decode cX11_rank 49 = .ok (.ifCond .ne 20, 3) := by decide +kernel
theorem dX11_rank_52 : decode cX11_rank 52 = .ok (.iload 8, 2) := by decide +kernel
theorem dX11_rank_54 : decode cX11_rank 54 = .ok (.iload 4, 2) := by decide +kernel
theorem dX11_rank_56 : decode cX11_rank 56 = .ok (.if_icmp .ge 17, 3) := by decide +kernel
theorem dX11_rank_59 : decode cX11_rank 59 = .ok (.dload 6, 2) := by decide +kernel
theorem dX11_rank_61 : decode cX11_rank 61 = .ok (.dload 9, 2) := by decide +kernel
theorem dX11_rank_63 : decode cX11_rank 63 = .ok (.invokestatic 124, 3) := by decide +kernel
theorem dX11_rank_66 : decode cX11_rank 66 = .ok (.ifCond .ne 7, 3) := by decide +kernel
theorem dX11_rank_69 : decode cX11_rank 69 = .ok (.iconst 1, 1) := by decide +kernel
theorem dX11_rank_70 : decode cX11_rank 70 = .ok (.goto 4, 3) := by decide +kernel
theorem dX11_rank_73 : decode cX11_rank 73 = .ok (.iconst 0, 1) := by decide +kernel
theorem dX11_rank_74 : decode cX11_rank 74 = .ok (.iadd, 1) := by decide +kernel
theorem dX11_rank_75 : decode cX11_rank 75 = .ok (.istore 5, 2) := by decide +kernel
theorem dX11_rank_77 : decode cX11_rank 77 = .ok (.iinc 8 1, 3) := by decide +kernel
theorem dX11_rank_80 : decode cX11_rank 80 = .ok (.goto (-65), 3) := by decide +kernel
theorem dX11_rank_83 : decode cX11_rank 83 = .ok (.iload 5, 2) := by decide +kernel
theorem dX11_rank_85 : decode cX11_rank 85 = .ok (.ireturn, 1) := by decide +kernel
theorem dX11_ranked_0 : decode cX11_ranked 0 = .ok (.aload_n 0, 1) := by decide +kernel
theorem dX11_ranked_1 : decode cX11_ranked 1 = .ok (.invokevirtual 114, 3) := by decide +kernel
theorem dX11_ranked_4 : decode cX11_ranked 4 = .ok (.iload_n 2, 1) := by decide +kernel
theorem dX11_ranked_5 : decode cX11_ranked 5 = .ok (.istore 5, 2) := by decide +kernel
theorem dX11_ranked_7 : decode cX11_ranked 7 = .ok (.iload 5, 2) := by decide +kernel
theorem dX11_ranked_9 : decode cX11_ranked 9 = .ok (.iload_n 3, 1) := by decide +kernel
theorem dX11_ranked_10 : decode cX11_ranked 10 = .ok (.if_icmp .gt 44, 3) := by decide +kernel
theorem dX11_ranked_13 : decode cX11_ranked 13 = .ok (.aload_n 0, 1) := by decide +kernel
theorem dX11_ranked_14 : decode cX11_ranked 14 = .ok (.iload_n 1, 1) := by decide +kernel
theorem dX11_ranked_15 : decode cX11_ranked 15 = .ok (.iload 5, 2) := by decide +kernel
theorem dX11_ranked_17 : decode cX11_ranked 17 = .ok (.invokevirtual 140, 3) := by decide +kernel
theorem dX11_ranked_20 : decode cX11_ranked 20 = .ok (.ifCond .ne 28, 3) := by decide +kernel
theorem dX11_ranked_23 : decode cX11_ranked 23 = .ok (.aload_n 0, 1) := by decide +kernel
theorem dX11_ranked_24 : decode cX11_ranked 24 = .ok (.iload_n 1, 1) := by decide +kernel
theorem dX11_ranked_25 : decode cX11_ranked 25 = .ok (.iload_n 2, 1) := by decide +kernel
theorem dX11_ranked_26 : decode cX11_ranked 26 = .ok (.iload_n 3, 1) := by decide +kernel
theorem dX11_ranked_27 : decode cX11_ranked 27 = .ok (.iload 5, 2) := by decide +kernel
theorem dX11_ranked_29 : decode cX11_ranked 29 = .ok (.invokevirtual 154, 3) := by decide +kernel
theorem dX11_ranked_32 : decode cX11_ranked 32 = .ok (.iload 4, 2) := by decide +kernel
theorem dX11_ranked_34 : decode cX11_ranked 34 = .ok (.if_icmp .ne 14, 3) := by decide +kernel
theorem dX11_ranked_37 : decode cX11_ranked 37 = .ok (.aload_n 0, 1) := by decide +kernel
theorem dX11_ranked_38 : decode cX11_ranked 38 = .ok (.aload_n 0, 1) := by decide +kernel
theorem dX11_ranked_39 : decode cX11_ranked 39 = .ok (.iload_n 1, 1) := by decide +kernel
theorem dX11_ranked_40 : decode cX11_ranked 40 = .ok (.iload 5, 2) := by decide +kernel
theorem dX11_ranked_42 : decode cX11_ranked 42 = .ok (.invokevirtual 136, 3) := by decide +kernel
theorem dX11_ranked_45 : decode cX11_ranked 45 = .ok (.invokevirtual 94, 3) := by decide +kernel
theorem dX11_ranked_48 : decode cX11_ranked 48 = .ok (.iinc 5 1, 3) := by decide +kernel
theorem dX11_ranked_51 : decode cX11_ranked 51 = .ok (.goto (-44), 3) := by decide +kernel
theorem dX11_ranked_54 : decode cX11_ranked 54 = .ok (.return_, 1) := by decide +kernel
theorem dX11_manyX_0 : decode cX11_manyX 0 = .ok (.iconst 0, 1) := by decide +kernel
theorem dX11_manyX_1 : decode cX11_manyX 1 = .ok (.istore 4, 2) := by decide +kernel
theorem dX11_manyX_3 : decode cX11_manyX 3 = .ok (.iload_n 2, 1) := by decide +kernel
theorem dX11_manyX_4 : decode cX11_manyX 4 = .ok (.istore 5, 2) := by decide +kernel
theorem dX11_manyX_6 : decode cX11_manyX 6 = .ok (.iload 5, 2) := by decide +kernel
theorem dX11_manyX_8 : decode cX11_manyX 8 = .ok (.iload_n 3, 1) := by decide +kernel
theorem dX11_manyX_9 : decode cX11_manyX 9 = .ok (.if_icmp .gt 29, 3) := by decide +kernel
theorem dX11_manyX_12 : decode cX11_manyX 12 = .ok (.iload 4, 2) := by decide +kernel
theorem dX11_manyX_14 : decode cX11_manyX 14 = .ok (.aload_n 0, 1) := by decide +kernel
theorem dX11_manyX_15 : decode cX11_manyX 15 = .ok (.iload_n 1, 1) := by decide +kernel
theorem dX11_manyX_16 : decode cX11_manyX 16 = .ok (.iload 5, 2) := by decide +kernel
theorem dX11_manyX_18 : decode cX11_manyX 18 = .ok (.invokevirtual 140, 3) := by decide +kernel
theorem dX11_manyX_21 : decode cX11_manyX 21 = .ok (.ifCond .eq 7, 3) := by decide +kernel
theorem dX11_manyX_24 : decode cX11_manyX 24 = .ok (.iconst 0, 1) := by decide +kernel
theorem dX11_manyX_25 : decode cX11_manyX 25 = .ok (.goto 4, 3) := by decide +kernel
theorem dX11_manyX_28 : decode cX11_manyX 28 = .ok (.iconst 1, 1) := by decide +kernel
theorem dX11_manyX_29 : decode cX11_manyX 29 = .ok (.iadd, 1) := by decide +kernel
theorem dX11_manyX_30 : decode cX11_manyX 30 = .ok (.istore 4, 2) := by decide +kernel
theorem dX11_manyX_32 : decode cX11_manyX 32 = .ok (.iinc 5 1, 3) := by decide +kernel
theorem dX11_manyX_35 : decode cX11_manyX 35 = .ok (.goto (-29), 3) := by decide +kernel
theorem dX11_manyX_38 : decode cX11_manyX 38 = .ok (.iload 4, 2) := by decide +kernel
theorem dX11_manyX_40 : decode cX11_manyX 40 = .ok (.ireturn, 1) := by decide +kernel
theorem dX11_lessThan_0 : decode cX11_lessThan 0 = .ok (.iconst 0, 1) := by decide +kernel
theorem dX11_lessThan_1 : decode cX11_lessThan 1 = .ok (.istore_n 3, 1) := by decide +kernel
theorem dX11_lessThan_2 : decode cX11_lessThan 2 = .ok (.iconst 0, 1) := by decide +kernel
theorem dX11_lessThan_3 : decode cX11_lessThan 3 = .ok (.istore 4, 2) := by decide +kernel
theorem dX11_lessThan_5 : decode cX11_lessThan 5 = .ok (.iload 4, 2) := by decide +kernel
theorem dX11_lessThan_7 : decode cX11_lessThan 7 = .ok (.bipush 16, 2) := by decide +kernel
theorem dX11_lessThan_9 : decode cX11_lessThan 9 = .ok (.if_icmp .ge 44, 3) := by decide +kernel
theorem dX11_lessThan_12 : decode cX11_lessThan 12 = .ok (.iload_n 3, 1) := by decide +kernel
theorem dX11_lessThan_13 : decode cX11_lessThan 13 = .ok (.aload_n 0, 1) := by decide +kernel
theorem dX11_lessThan_14 : decode cX11_lessThan 14 = .ok (.iload_n 1, 1) := by decide +kernel
theorem dX11_lessThan_15 : decode cX11_lessThan 15 = .ok (.iload 4, 2) := by decide +kernel
theorem dX11_lessThan_17 : decode cX11_lessThan 17 = .ok (.invokevirtual 140, 3) := by decide +kernel
theorem dX11_lessThan_20 : decode cX11_lessThan 20 = .ok (.ifCond .ne 24, 3) := by decide +kernel
theorem dX11_lessThan_23 : decode cX11_lessThan 23 = .ok (.aload_n 0, 1) := by decide +kernel
theorem dX11_lessThan_24 : decode cX11_lessThan 24 = .ok (.iload_n 1, 1) := by decide +kernel
theorem dX11_lessThan_25 : decode cX11_lessThan 25 = .ok (.iload 4, 2) := by decide +kernel
theorem dX11_lessThan_27 : decode cX11_lessThan 27 = .ok (.invokevirtual 136, 3) := by decide +kernel
theorem dX11_lessThan_30 : decode cX11_lessThan 30 = .ok (.aload_n 0, 1) := by decide +kernel
theorem dX11_lessThan_31 : decode cX11_lessThan 31 = .ok (.iload_n 1, 1) := by decide +kernel
theorem dX11_lessThan_32 : decode cX11_lessThan 32 = .ok (.iload_n 2, 1) := by decide +kernel
theorem dX11_lessThan_33 : decode cX11_lessThan 33 = .ok (.invokevirtual 136, 3) := by decide +kernel
theorem dX11_lessThan_36 : decode cX11_lessThan 36 = .ok (.dcmp .g, 1) := by decide +kernel
theorem dX11_lessThan_37 : decode cX11_lessThan 37 = .ok (.ifCond .ge 7, 3) := by decide +kernel
theorem dX11_lessThan_40 : decode cX11_lessThan 40 = .ok (.iconst 1, 1) := by decide +kernel
theorem dX11_lessThan_41 : decode cX11_lessThan 41 = .ok (.goto 4, 3) := by decide +kernel
theorem dX11_lessThan_44 : decode cX11_lessThan 44 = .ok (.iconst 0, 1) := by decide +kernel
theorem dX11_lessThan_45 : decode cX11_lessThan 45 = .ok (.iadd, 1) := by decide +kernel
theorem dX11_lessThan_46 : decode cX11_lessThan 46 = .ok (.istore_n 3, 1) := by decide +kernel
theorem dX11_lessThan_47 : decode cX11_lessThan 47 = .ok (.iinc 4 1, 3) := by decide +kernel
theorem dX11_lessThan_50 : decode cX11_lessThan 50 = .ok (.goto (-45), 3) := by decide +kernel
theorem dX11_lessThan_53 : decode cX11_lessThan 53 = .ok (.iload_n 3, 1) := by decide +kernel
theorem dX11_lessThan_54 : decode cX11_lessThan 54 = .ok (.ireturn, 1) := by decide +kernel
theorem dX11_manySo_0 : decode cX11_manySo 0 = .ok (.iconst 0, 1) := by decide +kernel
theorem dX11_manySo_1 : decode cX11_manySo 1 = .ok (.istore_n 3, 1) := by decide +kernel
theorem dX11_manySo_2 : decode cX11_manySo 2 = .ok (.iconst 0, 1) := by decide +kernel
theorem dX11_manySo_3 : decode cX11_manySo 3 = .ok (.istore 4, 2) := by decide +kernel
theorem dX11_manySo_5 : decode cX11_manySo 5 = .ok (.iload 4, 2) := by decide +kernel
theorem dX11_manySo_7 : decode cX11_manySo 7 = .ok (.iload_n 2, 1) := by decide +kernel
theorem dX11_manySo_8 : decode cX11_manySo 8 = .ok (.if_icmp .gt 27, 3) := by decide +kernel
theorem dX11_manySo_11 : decode cX11_manySo 11 = .ok (.iload_n 3, 1) := by decide +kernel
theorem dX11_manySo_12 : decode cX11_manySo 12 = .ok (.aload_n 0, 1) := by decide +kernel
theorem dX11_manySo_13 : decode cX11_manySo 13 = .ok (.iload_n 1, 1) := by decide +kernel
theorem dX11_manySo_14 : decode cX11_manySo 14 = .ok (.iload 4, 2) := by decide +kernel
theorem dX11_manySo_16 : decode cX11_manySo 16 = .ok (.invokevirtual 158, 3) := by decide +kernel
theorem dX11_manySo_19 : decode cX11_manySo 19 = .ok (.ifCond .eq 7, 3) := by decide +kernel
theorem dX11_manySo_22 : decode cX11_manySo 22 = .ok (.iconst 1, 1) := by decide +kernel
theorem dX11_manySo_23 : decode cX11_manySo 23 = .ok (.goto 4, 3) := by decide +kernel
theorem dX11_manySo_26 : decode cX11_manySo 26 = .ok (.iconst 0, 1) := by decide +kernel
theorem dX11_manySo_27 : decode cX11_manySo 27 = .ok (.iadd, 1) := by decide +kernel
theorem dX11_manySo_28 : decode cX11_manySo 28 = .ok (.istore_n 3, 1) := by decide +kernel
theorem dX11_manySo_29 : decode cX11_manySo 29 = .ok (.iinc 4 1, 3) := by decide +kernel
theorem dX11_manySo_32 : decode cX11_manySo 32 = .ok (.goto (-27), 3) := by decide +kernel
theorem dX11_manySo_35 : decode cX11_manySo 35 = .ok (.iload_n 3, 1) := by decide +kernel
theorem dX11_manySo_36 : decode cX11_manySo 36 = .ok (.ireturn, 1) := by decide +kernel
theorem dX11_reckon_0 : decode cX11_reckon 0 = .ok (.aload_n 0, 1) := by decide +kernel
theorem dX11_reckon_1 : decode cX11_reckon 1 = .ok (.getfield 22, 3) := by decide +kernel
theorem dX11_reckon_4 : decode cX11_reckon 4 = .ok (.iconst 4, 1) := by decide +kernel
theorem dX11_reckon_5 : decode cX11_reckon 5 = .ok (.iload_n 1, 1) := by decide +kernel
theorem dX11_reckon_6 : decode cX11_reckon 6 = .ok (.imul, 1) := by decide +kernel
theorem dX11_reckon_7 : decode cX11_reckon 7 = .ok (.iaload, 1) := by decide +kernel
theorem dX11_reckon_8 : decode cX11_reckon 8 = .ok (.istore_n 3, 1) := by decide +kernel
theorem dX11_reckon_9 : decode cX11_reckon 9 = .ok (.aload_n 0, 1) := by decide +kernel
theorem dX11_reckon_10 : decode cX11_reckon 10 = .ok (.getfield 19, 3) := by decide +kernel
theorem dX11_reckon_13 : decode cX11_reckon 13 = .ok (.iload_n 1, 1) := by decide +kernel
theorem dX11_reckon_14 : decode cX11_reckon 14 = .ok (.baload, 1) := by decide +kernel
theorem dX11_reckon_15 : decode cX11_reckon 15 = .ok (.istore 4, 2) := by decide +kernel
theorem dX11_reckon_17 : decode cX11_reckon 17 = .ok (.aload_n 0, 1) := by decide +kernel
theorem dX11_reckon_18 : decode cX11_reckon 18 = .ok (.iload_n 1, 1) := by decide +kernel
theorem dX11_reckon_19 : decode cX11_reckon 19 = .ok (.iload_n 2, 1) := by decide +kernel
theorem dX11_reckon_20 : decode cX11_reckon 20 = .ok (.invokevirtual 140, 3) := by decide +kernel
theorem dX11_reckon_23 : decode cX11_reckon 23 = .ok (.istore 5, 2) := by decide +kernel
theorem dX11_reckon_25 : decode cX11_reckon 25 = .ok (.iload_n 3, 1) := by decide +kernel
theorem dX11_reckon_26 : decode cX11_reckon 26 = .ok (.bipush 16, 2) := by decide +kernel
theorem dX11_reckon_28 : decode cX11_reckon 28 = .ok (.if_icmp .le 9, 3) := by decide +kernel
theorem dX11_reckon_31 : decode cX11_reckon 31 = .ok (.iload_n 3, 1) := by decide +kernel
theorem dX11_reckon_32 : decode cX11_reckon 32 = .ok (.bipush 26, 2) := by decide +kernel
theorem dX11_reckon_34 : decode cX11_reckon 34 = .ok (.if_icmp .ne 72, 3) := by decide +kernel
theorem dX11_reckon_37 : decode cX11_reckon 37 = .ok (.iload 5, 2) := by decide +kernel
theorem dX11_reckon_39 : decode cX11_reckon 39 = .ok (.ifCond .ne 18, 3) := by decide +kernel
theorem dX11_reckon_42 : decode cX11_reckon 42 = .ok (.iload_n 3, 1) := by decide +kernel
theorem dX11_reckon_43 : decode cX11_reckon 43 = .ok (.bipush 9, 2) := by decide +kernel
theorem dX11_reckon_45 : decode cX11_reckon 45 = .ok (.if_icmp .lt 19, 3) := by decide +kernel
theorem dX11_reckon_48 : decode cX11_reckon 48 = .ok (.aload_n 0, 1) := by decide +kernel
theorem dX11_reckon_49 : decode cX11_reckon 49 = .ok (.iload_n 1, 1) := by decide +kernel
theorem dX11_reckon_50 : decode cX11_reckon 50 = .ok (.iload_n 2, 1) := by decide +kernel
theorem dX11_reckon_51 : decode cX11_reckon 51 = .ok (.invokevirtual 147, 3) := by decide +kernel
theorem dX11_reckon_54 : decode cX11_reckon 54 = .ok (.ifCond .eq 10, 3) := by decide +kernel
theorem dX11_reckon_57 : decode cX11_reckon 57 = .ok (.aload_n 0, 1) := by decide +kernel
theorem dX11_reckon_58 : decode cX11_reckon 58 = .ok (.invokevirtual 114, 3) := by decide +kernel
theorem dX11_reckon_61 : decode cX11_reckon 61 = .ok (.goto 44, 3) := by decide +kernel
theorem dX11_reckon_64 : decode cX11_reckon 64 = .ok (.iload_n 3, 1) := by decide +kernel
theorem dX11_reckon_65 : decode cX11_reckon 65 = .ok (.bipush 8, 2) := by decide +kernel
theorem dX11_reckon_67 : decode cX11_reckon 67 = .ok (.if_icmp .gt 19, 3) := by decide +kernel
theorem dX11_reckon_70 : decode cX11_reckon 70 = .ok (.aload_n 0, 1) := by decide +kernel
theorem dX11_reckon_71 : decode cX11_reckon 71 = .ok (.iload_n 3, 1) := by decide +kernel
theorem dX11_reckon_72 : decode cX11_reckon 72 = .ok (.aload_n 0, 1) := by decide +kernel
theorem dX11_reckon_73 : decode cX11_reckon 73 = .ok (.iload_n 1, 1) := by decide +kernel
theorem dX11_reckon_74 : decode cX11_reckon 74 = .ok (.iload_n 2, 1) := by decide +kernel
theorem dX11_reckon_75 : decode cX11_reckon 75 = .ok (.invokevirtual 136, 3) := by decide +kernel
theorem dX11_reckon_78 : decode cX11_reckon 78 = .ok (.iload 4, 2) := by decide +kernel
theorem dX11_reckon_80 : decode cX11_reckon 80 = .ok (.invokevirtual 161, 3) := by decide +kernel
theorem dX11_reckon_83 : decode cX11_reckon 83 = .ok (.goto 22, 3) := by decide +kernel
theorem dX11_reckon_86 : decode cX11_reckon 86 = .ok (.aload_n 0, 1) := by decide +kernel
theorem dX11_reckon_87 : decode cX11_reckon 87 = .ok (.iload_n 3, 1) := by decide +kernel
theorem dX11_reckon_88 : decode cX11_reckon 88 = .ok (.aload_n 0, 1) := by decide +kernel
theorem dX11_reckon_89 : decode cX11_reckon 89 = .ok (.iload_n 1, 1) := by decide +kernel
theorem dX11_reckon_90 : decode cX11_reckon 90 = .ok (.iload_n 2, 1) := by decide +kernel
theorem dX11_reckon_91 : decode cX11_reckon 91 = .ok (.invokevirtual 136, 3) := by decide +kernel
theorem dX11_reckon_94 : decode cX11_reckon 94 = .ok (.aload_n 0, 1) := by decide +kernel
theorem dX11_reckon_95 : decode cX11_reckon 95 = .ok (.iload_n 1, 1) := by decide +kernel
theorem dX11_reckon_96 : decode cX11_reckon 96 = .ok (.iload_n 2, 1) := by decide +kernel
theorem dX11_reckon_97 : decode cX11_reckon 97 = .ok (.invokevirtual 144, 3) := by decide +kernel
theorem dX11_reckon_100 : decode cX11_reckon 100 = .ok (.iload 4, 2) := by decide +kernel
theorem dX11_reckon_102 : decode cX11_reckon 102 = .ok (.invokevirtual 165, 3) := by decide +kernel
theorem dX11_reckon_105 : decode cX11_reckon 105 = .ok (.return_, 1) := by decide +kernel
theorem dX11_reckon_106 : decode cX11_reckon 106 = .ok (.iload_n 3, 1) := by decide +kernel
theorem dX11_reckon_107 : decode cX11_reckon 107 = .ok (.tableswitch 291 17 24 #[45, 79, 126, 173, 192, 203, 215, 241], 45) := by decide +kernel
theorem dX11_reckon_152 : decode cX11_reckon 152 = .ok (.iload 5, 2) := by decide +kernel
theorem dX11_reckon_154 : decode cX11_reckon 154 = .ok (.ifCond .ne 12, 3) := by decide +kernel
theorem dX11_reckon_157 : decode cX11_reckon 157 = .ok (.aload_n 0, 1) := by decide +kernel
theorem dX11_reckon_158 : decode cX11_reckon 158 = .ok (.iload_n 1, 1) := by decide +kernel
theorem dX11_reckon_159 : decode cX11_reckon 159 = .ok (.iload_n 2, 1) := by decide +kernel
theorem dX11_reckon_160 : decode cX11_reckon 160 = .ok (.invokevirtual 158, 3) := by decide +kernel
theorem dX11_reckon_163 : decode cX11_reckon 163 = .ok (.ifCond .ne 10, 3) := by decide +kernel
theorem dX11_reckon_166 : decode cX11_reckon 166 = .ok (.aload_n 0, 1) := by decide +kernel
theorem dX11_reckon_167 : decode cX11_reckon 167 = .ok (.invokevirtual 114, 3) := by decide +kernel
theorem dX11_reckon_170 : decode cX11_reckon 170 = .ok (.goto 239, 3) := by decide +kernel
theorem dX11_reckon_173 : decode cX11_reckon 173 = .ok (.aload_n 0, 1) := by decide +kernel
theorem dX11_reckon_174 : decode cX11_reckon 174 = .ok (.aload_n 0, 1) := by decide +kernel
theorem dX11_reckon_175 : decode cX11_reckon 175 = .ok (.iload_n 1, 1) := by decide +kernel
theorem dX11_reckon_176 : decode cX11_reckon 176 = .ok (.iload_n 2, 1) := by decide +kernel
theorem dX11_reckon_177 : decode cX11_reckon 177 = .ok (.invokevirtual 136, 3) := by decide +kernel
theorem dX11_reckon_180 : decode cX11_reckon 180 = .ok (.invokevirtual 94, 3) := by decide +kernel
theorem dX11_reckon_183 : decode cX11_reckon 183 = .ok (.goto 226, 3) := by decide +kernel
theorem dX11_reckon_186 : decode cX11_reckon 186 = .ok (.iload 5, 2) := by decide +kernel
theorem dX11_reckon_188 : decode cX11_reckon 188 = .ok (.ifCond .ne 16, 3) := by decide +kernel
theorem dX11_reckon_191 : decode cX11_reckon 191 = .ok (.aload_n 0, 1) := by decide +kernel
theorem dX11_reckon_192 : decode cX11_reckon 192 = .ok (.aload_n 0, 1) := by decide +kernel
theorem dX11_reckon_193 : decode cX11_reckon 193 = .ok (.iload_n 1, 1) := by decide +kernel
theorem dX11_reckon_194 : decode cX11_reckon 194 = .ok (.iload_n 2, 1) := by decide +kernel
theorem dX11_reckon_195 : decode cX11_reckon 195 = .ok (.invokevirtual 136, 3) := by decide +kernel
theorem dX11_reckon_198 : decode cX11_reckon 198 = .ok (.invokevirtual 94, 3) := by decide +kernel
theorem dX11_reckon_201 : decode cX11_reckon 201 = .ok (.goto 208, 3) := by decide +kernel
theorem dX11_reckon_204 : decode cX11_reckon 204 = .ok (.aload_n 0, 1) := by decide +kernel
theorem dX11_reckon_205 : decode cX11_reckon 205 = .ok (.iload_n 1, 1) := by decide +kernel
theorem dX11_reckon_206 : decode cX11_reckon 206 = .ok (.iload_n 2, 1) := by decide +kernel
theorem dX11_reckon_207 : decode cX11_reckon 207 = .ok (.invokevirtual 147, 3) := by decide +kernel
theorem dX11_reckon_210 : decode cX11_reckon 210 = .ok (.ifCond .eq 10, 3) := by decide +kernel
theorem dX11_reckon_213 : decode cX11_reckon 213 = .ok (.aload_n 0, 1) := by decide +kernel
theorem dX11_reckon_214 : decode cX11_reckon 214 = .ok (.invokevirtual 114, 3) := by decide +kernel
theorem dX11_reckon_217 : decode cX11_reckon 217 = .ok (.goto 192, 3) := by decide +kernel
theorem dX11_reckon_220 : decode cX11_reckon 220 = .ok (.aload_n 0, 1) := by decide +kernel
theorem dX11_reckon_221 : decode cX11_reckon 221 = .ok (.aload_n 0, 1) := by decide +kernel
theorem dX11_reckon_222 : decode cX11_reckon 222 = .ok (.iload_n 1, 1) := by decide +kernel
theorem dX11_reckon_223 : decode cX11_reckon 223 = .ok (.iload_n 2, 1) := by decide +kernel
theorem dX11_reckon_224 : decode cX11_reckon 224 = .ok (.invokevirtual 144, 3) := by decide +kernel
theorem dX11_reckon_227 : decode cX11_reckon 227 = .ok (.invokevirtual 94, 3) := by decide +kernel
theorem dX11_reckon_230 : decode cX11_reckon 230 = .ok (.goto 179, 3) := by decide +kernel
theorem dX11_reckon_233 : decode cX11_reckon 233 = .ok (.iload_n 2, 1) := by decide +kernel
theorem dX11_reckon_234 : decode cX11_reckon 234 = .ok (.ifCond .eq 24, 3) := by decide +kernel
theorem dX11_reckon_237 : decode cX11_reckon 237 = .ok (.iload_n 2, 1) := by decide +kernel
theorem dX11_reckon_238 : decode cX11_reckon 238 = .ok (.bipush 15, 2) := by decide +kernel
theorem dX11_reckon_240 : decode cX11_reckon 240 = .ok (.if_icmp .eq 18, 3) := by decide +kernel
theorem dX11_reckon_243 : decode cX11_reckon 243 = .ok (.aload_n 0, 1) := by decide +kernel
theorem dX11_reckon_244 : decode cX11_reckon 244 = .ok (.iload_n 1, 1) := by decide +kernel
theorem dX11_reckon_245 : decode cX11_reckon 245 = .ok (.iload_n 2, 1) := by decide +kernel
theorem dX11_reckon_246 : decode cX11_reckon 246 = .ok (.iconst 1, 1) := by decide +kernel
theorem dX11_reckon_247 : decode cX11_reckon 247 = .ok (.isub, 1) := by decide +kernel
theorem dX11_reckon_248 : decode cX11_reckon 248 = .ok (.iload_n 2, 1) := by decide +kernel
theorem dX11_reckon_249 : decode cX11_reckon 249 = .ok (.iconst 1, 1) := by decide +kernel
theorem dX11_reckon_250 : decode cX11_reckon 250 = .ok (.iadd, 1) := by decide +kernel
theorem dX11_reckon_251 : decode cX11_reckon 251 = .ok (.invokevirtual 169, 3) := by decide +kernel
theorem dX11_reckon_254 : decode cX11_reckon 254 = .ok (.iconst 3, 1) := by decide +kernel
theorem dX11_reckon_255 : decode cX11_reckon 255 = .ok (.if_icmp .ge 10, 3) := by decide +kernel
theorem dX11_reckon_258 : decode cX11_reckon 258 = .ok (.aload_n 0, 1) := by decide +kernel
theorem dX11_reckon_259 : decode cX11_reckon 259 = .ok (.invokevirtual 114, 3) := by decide +kernel
theorem dX11_reckon_262 : decode cX11_reckon 262 = .ok (.goto 147, 3) := by decide +kernel
theorem dX11_reckon_265 : decode cX11_reckon 265 = .ok (.aload_n 0, 1) := by decide +kernel
theorem dX11_reckon_266 : decode cX11_reckon 266 = .ok (.iload_n 1, 1) := by decide +kernel
theorem dX11_reckon_267 : decode cX11_reckon 267 = .ok (.iload_n 2, 1) := by decide +kernel
theorem dX11_reckon_268 : decode cX11_reckon 268 = .ok (.iconst 1, 1) := by decide +kernel
theorem dX11_reckon_269 : decode cX11_reckon 269 = .ok (.isub, 1) := by decide +kernel
theorem dX11_reckon_270 : decode cX11_reckon 270 = .ok (.iload_n 2, 1) := by decide +kernel
theorem dX11_reckon_271 : decode cX11_reckon 271 = .ok (.iconst 1, 1) := by decide +kernel
theorem dX11_reckon_272 : decode cX11_reckon 272 = .ok (.iadd, 1) := by decide +kernel
theorem dX11_reckon_273 : decode cX11_reckon 273 = .ok (.iconst 1, 1) := by decide +kernel
theorem dX11_reckon_274 : decode cX11_reckon 274 = .ok (.invokevirtual 173, 3) := by decide +kernel
theorem dX11_reckon_277 : decode cX11_reckon 277 = .ok (.goto 132, 3) := by decide +kernel
theorem dX11_reckon_280 : decode cX11_reckon 280 = .ok (.aload_n 0, 1) := by decide +kernel
theorem dX11_reckon_281 : decode cX11_reckon 281 = .ok (.iload_n 1, 1) := by decide +kernel
theorem dX11_reckon_282 : decode cX11_reckon 282 = .ok (.iconst 0, 1) := by decide +kernel
theorem dX11_reckon_283 : decode cX11_reckon 283 = .ok (.iload_n 2, 1) := by decide +kernel
theorem dX11_reckon_284 : decode cX11_reckon 284 = .ok (.aload_n 0, 1) := by decide +kernel
theorem dX11_reckon_285 : decode cX11_reckon 285 = .ok (.iload_n 1, 1) := by decide +kernel
theorem dX11_reckon_286 : decode cX11_reckon 286 = .ok (.iconst 0, 1) := by decide +kernel
theorem dX11_reckon_287 : decode cX11_reckon 287 = .ok (.iload_n 2, 1) := by decide +kernel
theorem dX11_reckon_288 : decode cX11_reckon 288 = .ok (.invokevirtual 169, 3) := by decide +kernel
theorem dX11_reckon_291 : decode cX11_reckon 291 = .ok (.iconst 1, 1) := by decide +kernel
theorem dX11_reckon_292 : decode cX11_reckon 292 = .ok (.isub, 1) := by decide +kernel
theorem dX11_reckon_293 : decode cX11_reckon 293 = .ok (.invokevirtual 173, 3) := by decide +kernel
theorem dX11_reckon_296 : decode cX11_reckon 296 = .ok (.goto 113, 3) := by decide +kernel
theorem dX11_reckon_299 : decode cX11_reckon 299 = .ok (.aload_n 0, 1) := by decide +kernel
theorem dX11_reckon_300 : decode cX11_reckon 300 = .ok (.iload_n 1, 1) := by decide +kernel
theorem dX11_reckon_301 : decode cX11_reckon 301 = .ok (.iconst 0, 1) := by decide +kernel
theorem dX11_reckon_302 : decode cX11_reckon 302 = .ok (.iload_n 2, 1) := by decide +kernel
theorem dX11_reckon_303 : decode cX11_reckon 303 = .ok (.iconst 0, 1) := by decide +kernel
theorem dX11_reckon_304 : decode cX11_reckon 304 = .ok (.invokevirtual 173, 3) := by decide +kernel
theorem dX11_reckon_307 : decode cX11_reckon 307 = .ok (.goto 102, 3) := by decide +kernel
theorem dX11_reckon_310 : decode cX11_reckon 310 = .ok (.aload_n 0, 1) := by decide +kernel
theorem dX11_reckon_311 : decode cX11_reckon 311 = .ok (.iload_n 1, 1) := by decide +kernel
theorem dX11_reckon_312 : decode cX11_reckon 312 = .ok (.iconst 0, 1) := by decide +kernel
theorem dX11_reckon_313 : decode cX11_reckon 313 = .ok (.bipush 15, 2) := by decide +kernel
theorem dX11_reckon_315 : decode cX11_reckon 315 = .ok (.iload_n 2, 1) := by decide +kernel
theorem dX11_reckon_316 : decode cX11_reckon 316 = .ok (.invokevirtual 173, 3) := by decide +kernel
theorem dX11_reckon_319 : decode cX11_reckon 319 = .ok (.goto 90, 3) := by decide +kernel
theorem dX11_reckon_322 : decode cX11_reckon 322 = .ok (.iload 5, 2) := by decide +kernel
theorem dX11_reckon_324 : decode cX11_reckon 324 = .ok (.ifCond .eq 10, 3) := by decide +kernel
theorem dX11_reckon_327 : decode cX11_reckon 327 = .ok (.aload_n 0, 1) := by decide +kernel
theorem dX11_reckon_328 : decode cX11_reckon 328 = .ok (.invokevirtual 114, 3) := by decide +kernel
theorem dX11_reckon_331 : decode cX11_reckon 331 = .ok (.goto 78, 3) := by decide +kernel
theorem dX11_reckon_334 : decode cX11_reckon 334 = .ok (.aload_n 0, 1) := by decide +kernel
theorem dX11_reckon_335 : decode cX11_reckon 335 = .ok (.aload_n 0, 1) := by decide +kernel
theorem dX11_reckon_336 : decode cX11_reckon 336 = .ok (.iload_n 1, 1) := by decide +kernel
theorem dX11_reckon_337 : decode cX11_reckon 337 = .ok (.iload_n 2, 1) := by decide +kernel
theorem dX11_reckon_338 : decode cX11_reckon 338 = .ok (.invokevirtual 177, 3) := by decide +kernel
theorem dX11_reckon_341 : decode cX11_reckon 341 = .ok (.i2d, 1) := by decide +kernel
theorem dX11_reckon_342 : decode cX11_reckon 342 = .ok (.invokevirtual 94, 3) := by decide +kernel
theorem dX11_reckon_345 : decode cX11_reckon 345 = .ok (.goto 64, 3) := by decide +kernel
theorem dX11_reckon_348 : decode cX11_reckon 348 = .ok (.iload 5, 2) := by decide +kernel
theorem dX11_reckon_350 : decode cX11_reckon 350 = .ok (.ifCond .ne 18, 3) := by decide +kernel
theorem dX11_reckon_353 : decode cX11_reckon 353 = .ok (.iload_n 2, 1) := by decide +kernel
theorem dX11_reckon_354 : decode cX11_reckon 354 = .ok (.ifCond .eq 14, 3) := by decide +kernel
theorem dX11_reckon_357 : decode cX11_reckon 357 = .ok (.aload_n 0, 1) := by decide +kernel
theorem dX11_reckon_358 : decode cX11_reckon 358 = .ok (.iload_n 1, 1) := by decide +kernel
theorem dX11_reckon_359 : decode cX11_reckon 359 = .ok (.iload_n 2, 1) := by decide +kernel
theorem dX11_reckon_360 : decode cX11_reckon 360 = .ok (.iconst 1, 1) := by decide +kernel
theorem dX11_reckon_361 : decode cX11_reckon 361 = .ok (.isub, 1) := by decide +kernel
theorem dX11_reckon_362 : decode cX11_reckon 362 = .ok (.invokevirtual 140, 3) := by decide +kernel
theorem dX11_reckon_365 : decode cX11_reckon 365 = .ok (.ifCond .eq 10, 3) := by decide +kernel
theorem dX11_reckon_368 : decode cX11_reckon 368 = .ok (.aload_n 0, 1) := by decide +kernel
theorem dX11_reckon_369 : decode cX11_reckon 369 = .ok (.invokevirtual 114, 3) := by decide +kernel
theorem dX11_reckon_372 : decode cX11_reckon 372 = .ok (.goto 37, 3) := by decide +kernel
theorem dX11_reckon_375 : decode cX11_reckon 375 = .ok (.aload_n 0, 1) := by decide +kernel
theorem dX11_reckon_376 : decode cX11_reckon 376 = .ok (.aload_n 0, 1) := by decide +kernel
theorem dX11_reckon_377 : decode cX11_reckon 377 = .ok (.iload_n 1, 1) := by decide +kernel
theorem dX11_reckon_378 : decode cX11_reckon 378 = .ok (.iload_n 2, 1) := by decide +kernel
theorem dX11_reckon_379 : decode cX11_reckon 379 = .ok (.invokevirtual 136, 3) := by decide +kernel
theorem dX11_reckon_382 : decode cX11_reckon 382 = .ok (.aload_n 0, 1) := by decide +kernel
theorem dX11_reckon_383 : decode cX11_reckon 383 = .ok (.iload_n 1, 1) := by decide +kernel
theorem dX11_reckon_384 : decode cX11_reckon 384 = .ok (.iload_n 2, 1) := by decide +kernel
theorem dX11_reckon_385 : decode cX11_reckon 385 = .ok (.iconst 1, 1) := by decide +kernel
theorem dX11_reckon_386 : decode cX11_reckon 386 = .ok (.isub, 1) := by decide +kernel
theorem dX11_reckon_387 : decode cX11_reckon 387 = .ok (.invokevirtual 136, 3) := by decide +kernel
theorem dX11_reckon_390 : decode cX11_reckon 390 = .ok (.iload 4, 2) := by decide +kernel
theorem dX11_reckon_392 : decode cX11_reckon 392 = .ok (.invokevirtual 120, 3) := by decide +kernel
theorem dX11_reckon_395 : decode cX11_reckon 395 = .ok (.goto 14, 3) := by decide +kernel
theorem dX11_reckon_398 : decode cX11_reckon 398 = .ok (.aload_n 0, 1) := by decide +kernel
theorem dX11_reckon_399 : decode cX11_reckon 399 = .ok (.aload_n 0, 1) := by decide +kernel
theorem dX11_reckon_400 : decode cX11_reckon 400 = .ok (.iload_n 1, 1) := by decide +kernel
theorem dX11_reckon_401 : decode cX11_reckon 401 = .ok (.iload_n 2, 1) := by decide +kernel
theorem dX11_reckon_402 : decode cX11_reckon 402 = .ok (.invokevirtual 180, 3) := by decide +kernel
theorem dX11_reckon_405 : decode cX11_reckon 405 = .ok (.i2d, 1) := by decide +kernel
theorem dX11_reckon_406 : decode cX11_reckon 406 = .ok (.invokevirtual 94, 3) := by decide +kernel
theorem dX11_reckon_409 : decode cX11_reckon 409 = .ok (.return_, 1) := by decide +kernel
theorem dX11_reckonAll_0 : decode cX11_reckonAll 0 = .ok (.sipush 192, 3) := by decide +kernel
theorem dX11_reckonAll_3 : decode cX11_reckonAll 3 = .ok (.istore_n 1, 1) := by decide +kernel
theorem dX11_reckonAll_4 : decode cX11_reckonAll 4 = .ok (.iload_n 1, 1) := by decide +kernel
theorem dX11_reckonAll_5 : decode cX11_reckonAll 5 = .ok (.sipush 200, 3) := by decide +kernel
theorem dX11_reckonAll_8 : decode cX11_reckonAll 8 = .ok (.if_icmp .ge 33, 3) := by decide +kernel
theorem dX11_reckonAll_11 : decode cX11_reckonAll 11 = .ok (.aload_n 0, 1) := by decide +kernel
theorem dX11_reckonAll_12 : decode cX11_reckonAll 12 = .ok (.getfield 26, 3) := by decide +kernel
theorem dX11_reckonAll_15 : decode cX11_reckonAll 15 = .ok (.iload_n 1, 1) := by decide +kernel
theorem dX11_reckonAll_16 : decode cX11_reckonAll 16 = .ok (.aload_n 0, 1) := by decide +kernel
theorem dX11_reckonAll_17 : decode cX11_reckonAll 17 = .ok (.getfield 9, 3) := by decide +kernel
theorem dX11_reckonAll_20 : decode cX11_reckonAll 20 = .ok (.iload_n 1, 1) := by decide +kernel
theorem dX11_reckonAll_21 : decode cX11_reckonAll 21 = .ok (.daload, 1) := by decide +kernel
theorem dX11_reckonAll_22 : decode cX11_reckonAll 22 = .ok (.dastore, 1) := by decide +kernel
theorem dX11_reckonAll_23 : decode cX11_reckonAll 23 = .ok (.aload_n 0, 1) := by decide +kernel
theorem dX11_reckonAll_24 : decode cX11_reckonAll 24 = .ok (.getfield 29, 3) := by decide +kernel
theorem dX11_reckonAll_27 : decode cX11_reckonAll 27 = .ok (.iload_n 1, 1) := by decide +kernel
theorem dX11_reckonAll_28 : decode cX11_reckonAll 28 = .ok (.aload_n 0, 1) := by decide +kernel
theorem dX11_reckonAll_29 : decode cX11_reckonAll 29 = .ok (.getfield 15, 3) := by decide +kernel
theorem dX11_reckonAll_32 : decode cX11_reckonAll 32 = .ok (.iload_n 1, 1) := by decide +kernel
theorem dX11_reckonAll_33 : decode cX11_reckonAll 33 = .ok (.baload, 1) := by decide +kernel
theorem dX11_reckonAll_34 : decode cX11_reckonAll 34 = .ok (.bastore, 1) := by decide +kernel
theorem dX11_reckonAll_35 : decode cX11_reckonAll 35 = .ok (.iinc 1 1, 3) := by decide +kernel
theorem dX11_reckonAll_38 : decode cX11_reckonAll 38 = .ok (.goto (-34), 3) := by decide +kernel
theorem dX11_reckonAll_41 : decode cX11_reckonAll 41 = .ok (.iconst 0, 1) := by decide +kernel
theorem dX11_reckonAll_42 : decode cX11_reckonAll 42 = .ok (.istore_n 1, 1) := by decide +kernel
theorem dX11_reckonAll_43 : decode cX11_reckonAll 43 = .ok (.iload_n 1, 1) := by decide +kernel
theorem dX11_reckonAll_44 : decode cX11_reckonAll 44 = .ok (.bipush 12, 2) := by decide +kernel
theorem dX11_reckonAll_46 : decode cX11_reckonAll 46 = .ok (.if_icmp .ge 94, 3) := by decide +kernel
theorem dX11_reckonAll_49 : decode cX11_reckonAll 49 = .ok (.iconst 0, 1) := by decide +kernel
theorem dX11_reckonAll_50 : decode cX11_reckonAll 50 = .ok (.istore_n 2, 1) := by decide +kernel
theorem dX11_reckonAll_51 : decode cX11_reckonAll 51 = .ok (.iload_n 2, 1) := by decide +kernel
theorem dX11_reckonAll_52 : decode cX11_reckonAll 52 = .ok (.bipush 16, 2) := by decide +kernel
theorem dX11_reckonAll_54 : decode cX11_reckonAll 54 = .ok (.if_icmp .ge 80, 3) := by decide +kernel
theorem dX11_reckonAll_57 : decode cX11_reckonAll 57 = .ok (.bipush 16, 2) := by decide +kernel
theorem dX11_reckonAll_59 : decode cX11_reckonAll 59 = .ok (.iload_n 1, 1) := by decide +kernel
theorem dX11_reckonAll_60 : decode cX11_reckonAll 60 = .ok (.imul, 1) := by decide +kernel
theorem dX11_reckonAll_61 : decode cX11_reckonAll 61 = .ok (.iload_n 2, 1) := by decide +kernel
theorem dX11_reckonAll_62 : decode cX11_reckonAll 62 = .ok (.iadd, 1) := by decide +kernel
theorem dX11_reckonAll_63 : decode cX11_reckonAll 63 = .ok (.istore_n 3, 1) := by decide +kernel
theorem dX11_reckonAll_64 : decode cX11_reckonAll 64 = .ok (.aload_n 0, 1) := by decide +kernel
theorem dX11_reckonAll_65 : decode cX11_reckonAll 65 = .ok (.getfield 22, 3) := by decide +kernel
theorem dX11_reckonAll_68 : decode cX11_reckonAll 68 = .ok (.iconst 4, 1) := by decide +kernel
theorem dX11_reckonAll_69 : decode cX11_reckonAll 69 = .ok (.iload_n 1, 1) := by decide +kernel
theorem dX11_reckonAll_70 : decode cX11_reckonAll 70 = .ok (.imul, 1) := by decide +kernel
theorem dX11_reckonAll_71 : decode cX11_reckonAll 71 = .ok (.iaload, 1) := by decide +kernel
theorem dX11_reckonAll_72 : decode cX11_reckonAll 72 = .ok (.ifCond .ge 30, 3) := by decide +kernel
theorem dX11_reckonAll_75 : decode cX11_reckonAll 75 = .ok (.aload_n 0, 1) := by decide +kernel
theorem dX11_reckonAll_76 : decode cX11_reckonAll 76 = .ok (.getfield 26, 3) := by decide +kernel
theorem dX11_reckonAll_79 : decode cX11_reckonAll 79 = .ok (.iload_n 3, 1) := by decide +kernel
theorem dX11_reckonAll_80 : decode cX11_reckonAll 80 = .ok (.aload_n 0, 1) := by decide +kernel
theorem dX11_reckonAll_81 : decode cX11_reckonAll 81 = .ok (.getfield 9, 3) := by decide +kernel
theorem dX11_reckonAll_84 : decode cX11_reckonAll 84 = .ok (.iload_n 3, 1) := by decide +kernel
theorem dX11_reckonAll_85 : decode cX11_reckonAll 85 = .ok (.daload, 1) := by decide +kernel
theorem dX11_reckonAll_86 : decode cX11_reckonAll 86 = .ok (.dastore, 1) := by decide +kernel
theorem dX11_reckonAll_87 : decode cX11_reckonAll 87 = .ok (.aload_n 0, 1) := by decide +kernel
theorem dX11_reckonAll_88 : decode cX11_reckonAll 88 = .ok (.getfield 29, 3) := by decide +kernel
theorem dX11_reckonAll_91 : decode cX11_reckonAll 91 = .ok (.iload_n 3, 1) := by decide +kernel
theorem dX11_reckonAll_92 : decode cX11_reckonAll 92 = .ok (.aload_n 0, 1) := by decide +kernel
theorem dX11_reckonAll_93 : decode cX11_reckonAll 93 = .ok (.getfield 15, 3) := by decide +kernel
theorem dX11_reckonAll_96 : decode cX11_reckonAll 96 = .ok (.iload_n 3, 1) := by decide +kernel
theorem dX11_reckonAll_97 : decode cX11_reckonAll 97 = .ok (.baload, 1) := by decide +kernel
theorem dX11_reckonAll_98 : decode cX11_reckonAll 98 = .ok (.bastore, 1) := by decide +kernel
theorem dX11_reckonAll_99 : decode cX11_reckonAll 99 = .ok (.goto 29, 3) := by decide +kernel
theorem dX11_reckonAll_102 : decode cX11_reckonAll 102 = .ok (.aload_n 0, 1) := by decide +kernel
theorem dX11_reckonAll_103 : decode cX11_reckonAll 103 = .ok (.iload_n 1, 1) := by decide +kernel
theorem dX11_reckonAll_104 : decode cX11_reckonAll 104 = .ok (.iload_n 2, 1) := by decide +kernel
theorem dX11_reckonAll_105 : decode cX11_reckonAll 105 = .ok (.invokevirtual 183, 3) := by decide +kernel
theorem dX11_reckonAll_108 : decode cX11_reckonAll 108 = .ok (.aload_n 0, 1) := by decide +kernel
theorem dX11_reckonAll_109 : decode cX11_reckonAll 109 = .ok (.getfield 26, 3) := by decide +kernel
theorem dX11_reckonAll_112 : decode cX11_reckonAll 112 = .ok (.iload_n 3, 1) := by decide +kernel
theorem dX11_reckonAll_113 : decode cX11_reckonAll 113 = .ok (.aload_n 0, 1) := by decide +kernel
theorem dX11_reckonAll_114 : decode cX11_reckonAll 114 = .ok (.getfield 86, 3) := by decide +kernel
theorem dX11_reckonAll_117 : decode cX11_reckonAll 117 = .ok (.dastore, 1) := by decide +kernel
theorem dX11_reckonAll_118 : decode cX11_reckonAll 118 = .ok (.aload_n 0, 1) := by decide +kernel
theorem dX11_reckonAll_119 : decode cX11_reckonAll 119 = .ok (.getfield 29, 3) := by decide +kernel
theorem dX11_reckonAll_122 : decode cX11_reckonAll 122 = .ok (.iload_n 3, 1) := by decide +kernel
theorem dX11_reckonAll_123 : decode cX11_reckonAll 123 = .ok (.aload_n 0, 1) := by decide +kernel
theorem dX11_reckonAll_124 : decode cX11_reckonAll 124 = .ok (.getfield 90, 3) := by decide +kernel
theorem dX11_reckonAll_127 : decode cX11_reckonAll 127 = .ok (.bastore, 1) := by decide +kernel
theorem dX11_reckonAll_128 : decode cX11_reckonAll 128 = .ok (.iinc 2 1, 3) := by decide +kernel
theorem dX11_reckonAll_131 : decode cX11_reckonAll 131 = .ok (.goto (-80), 3) := by decide +kernel
theorem dX11_reckonAll_134 : decode cX11_reckonAll 134 = .ok (.iinc 1 1, 3) := by decide +kernel
theorem dX11_reckonAll_137 : decode cX11_reckonAll 137 = .ok (.goto (-94), 3) := by decide +kernel
theorem dX11_reckonAll_140 : decode cX11_reckonAll 140 = .ok (.return_, 1) := by decide +kernel
theorem dX11_changed_0 : decode cX11_changed 0 = .ok (.aload_n 0, 1) := by decide +kernel
theorem dX11_changed_1 : decode cX11_changed 1 = .ok (.dup, 1) := by decide +kernel
theorem dX11_changed_2 : decode cX11_changed 2 = .ok (.getfield 187, 3) := by decide +kernel
theorem dX11_changed_5 : decode cX11_changed 5 = .ok (.iconst 1, 1) := by decide +kernel
theorem dX11_changed_6 : decode cX11_changed 6 = .ok (.iadd, 1) := by decide +kernel
theorem dX11_changed_7 : decode cX11_changed 7 = .ok (.putfield 187, 3) := by decide +kernel
theorem dX11_changed_10 : decode cX11_changed 10 = .ok (.iconst 1, 1) := by decide +kernel
theorem dX11_changed_11 : decode cX11_changed 11 = .ok (.ireturn, 1) := by decide +kernel
theorem dX11_picture_0 : decode cX11_picture 0 = .ok (.iconst 0, 1) := by decide +kernel
theorem dX11_picture_1 : decode cX11_picture 1 = .ok (.istore_n 1, 1) := by decide +kernel
theorem dX11_picture_2 : decode cX11_picture 2 = .ok (.iload_n 1, 1) := by decide +kernel
theorem dX11_picture_3 : decode cX11_picture 3 = .ok (.sipush 200, 3) := by decide +kernel
theorem dX11_picture_6 : decode cX11_picture 6 = .ok (.if_icmp .ge 51, 3) := by decide +kernel
theorem dX11_picture_9 : decode cX11_picture 9 = .ok (.aload_n 0, 1) := by decide +kernel
theorem dX11_picture_10 : decode cX11_picture 10 = .ok (.getfield 33, 3) := by decide +kernel
theorem dX11_picture_13 : decode cX11_picture 13 = .ok (.sipush 200, 3) := by decide +kernel
theorem dX11_picture_16 : decode cX11_picture 16 = .ok (.aload_n 0, 1) := by decide +kernel
theorem dX11_picture_17 : decode cX11_picture 17 = .ok (.getfield 187, 3) := by decide +kernel
theorem dX11_picture_20 : decode cX11_picture 20 = .ok (.imul, 1) := by decide +kernel
theorem dX11_picture_21 : decode cX11_picture 21 = .ok (.iload_n 1, 1) := by decide +kernel
theorem dX11_picture_22 : decode cX11_picture 22 = .ok (.iadd, 1) := by decide +kernel
theorem dX11_picture_23 : decode cX11_picture 23 = .ok (.aload_n 0, 1) := by decide +kernel
theorem dX11_picture_24 : decode cX11_picture 24 = .ok (.getfield 9, 3) := by decide +kernel
theorem dX11_picture_27 : decode cX11_picture 27 = .ok (.iload_n 1, 1) := by decide +kernel
theorem dX11_picture_28 : decode cX11_picture 28 = .ok (.daload, 1) := by decide +kernel
theorem dX11_picture_29 : decode cX11_picture 29 = .ok (.dastore, 1) := by decide +kernel
theorem dX11_picture_30 : decode cX11_picture 30 = .ok (.aload_n 0, 1) := by decide +kernel
theorem dX11_picture_31 : decode cX11_picture 31 = .ok (.getfield 36, 3) := by decide +kernel
theorem dX11_picture_34 : decode cX11_picture 34 = .ok (.sipush 200, 3) := by decide +kernel
theorem dX11_picture_37 : decode cX11_picture 37 = .ok (.aload_n 0, 1) := by decide +kernel
theorem dX11_picture_38 : decode cX11_picture 38 = .ok (.getfield 187, 3) := by decide +kernel
theorem dX11_picture_41 : decode cX11_picture 41 = .ok (.imul, 1) := by decide +kernel
theorem dX11_picture_42 : decode cX11_picture 42 = .ok (.iload_n 1, 1) := by decide +kernel
theorem dX11_picture_43 : decode cX11_picture 43 = .ok (.iadd, 1) := by decide +kernel
theorem dX11_picture_44 : decode cX11_picture 44 = .ok (.aload_n 0, 1) := by decide +kernel
theorem dX11_picture_45 : decode cX11_picture 45 = .ok (.getfield 15, 3) := by decide +kernel
theorem dX11_picture_48 : decode cX11_picture 48 = .ok (.iload_n 1, 1) := by decide +kernel
theorem dX11_picture_49 : decode cX11_picture 49 = .ok (.baload, 1) := by decide +kernel
theorem dX11_picture_50 : decode cX11_picture 50 = .ok (.bastore, 1) := by decide +kernel
theorem dX11_picture_51 : decode cX11_picture 51 = .ok (.iinc 1 1, 3) := by decide +kernel
theorem dX11_picture_54 : decode cX11_picture 54 = .ok (.goto (-52), 3) := by decide +kernel
theorem dX11_picture_57 : decode cX11_picture 57 = .ok (.iconst 0, 1) := by decide +kernel
theorem dX11_picture_58 : decode cX11_picture 58 = .ok (.istore_n 1, 1) := by decide +kernel
theorem dX11_picture_59 : decode cX11_picture 59 = .ok (.iload_n 1, 1) := by decide +kernel
theorem dX11_picture_60 : decode cX11_picture 60 = .ok (.bipush 12, 2) := by decide +kernel
theorem dX11_picture_62 : decode cX11_picture 62 = .ok (.if_icmp .ge 29, 3) := by decide +kernel
theorem dX11_picture_65 : decode cX11_picture 65 = .ok (.aload_n 0, 1) := by decide +kernel
theorem dX11_picture_66 : decode cX11_picture 66 = .ok (.getfield 39, 3) := by decide +kernel
theorem dX11_picture_69 : decode cX11_picture 69 = .ok (.bipush 12, 2) := by decide +kernel
theorem dX11_picture_71 : decode cX11_picture 71 = .ok (.aload_n 0, 1) := by decide +kernel
theorem dX11_picture_72 : decode cX11_picture 72 = .ok (.getfield 187, 3) := by decide +kernel
theorem dX11_picture_75 : decode cX11_picture 75 = .ok (.imul, 1) := by decide +kernel
theorem dX11_picture_76 : decode cX11_picture 76 = .ok (.iload_n 1, 1) := by decide +kernel
theorem dX11_picture_77 : decode cX11_picture 77 = .ok (.iadd, 1) := by decide +kernel
theorem dX11_picture_78 : decode cX11_picture 78 = .ok (.aload_n 0, 1) := by decide +kernel
theorem dX11_picture_79 : decode cX11_picture 79 = .ok (.getfield 19, 3) := by decide +kernel
theorem dX11_picture_82 : decode cX11_picture 82 = .ok (.iload_n 1, 1) := by decide +kernel
theorem dX11_picture_83 : decode cX11_picture 83 = .ok (.baload, 1) := by decide +kernel
theorem dX11_picture_84 : decode cX11_picture 84 = .ok (.bastore, 1) := by decide +kernel
theorem dX11_picture_85 : decode cX11_picture 85 = .ok (.iinc 1 1, 3) := by decide +kernel
theorem dX11_picture_88 : decode cX11_picture 88 = .ok (.goto (-29), 3) := by decide +kernel
theorem dX11_picture_91 : decode cX11_picture 91 = .ok (.iconst 0, 1) := by decide +kernel
theorem dX11_picture_92 : decode cX11_picture 92 = .ok (.istore_n 1, 1) := by decide +kernel
theorem dX11_picture_93 : decode cX11_picture 93 = .ok (.iload_n 1, 1) := by decide +kernel
theorem dX11_picture_94 : decode cX11_picture 94 = .ok (.bipush 48, 2) := by decide +kernel
theorem dX11_picture_96 : decode cX11_picture 96 = .ok (.if_icmp .ge 29, 3) := by decide +kernel
theorem dX11_picture_99 : decode cX11_picture 99 = .ok (.aload_n 0, 1) := by decide +kernel
theorem dX11_picture_100 : decode cX11_picture 100 = .ok (.getfield 42, 3) := by decide +kernel
theorem dX11_picture_103 : decode cX11_picture 103 = .ok (.bipush 48, 2) := by decide +kernel
theorem dX11_picture_105 : decode cX11_picture 105 = .ok (.aload_n 0, 1) := by decide +kernel
theorem dX11_picture_106 : decode cX11_picture 106 = .ok (.getfield 187, 3) := by decide +kernel
theorem dX11_picture_109 : decode cX11_picture 109 = .ok (.imul, 1) := by decide +kernel
theorem dX11_picture_110 : decode cX11_picture 110 = .ok (.iload_n 1, 1) := by decide +kernel
theorem dX11_picture_111 : decode cX11_picture 111 = .ok (.iadd, 1) := by decide +kernel
theorem dX11_picture_112 : decode cX11_picture 112 = .ok (.aload_n 0, 1) := by decide +kernel
theorem dX11_picture_113 : decode cX11_picture 113 = .ok (.getfield 22, 3) := by decide +kernel
theorem dX11_picture_116 : decode cX11_picture 116 = .ok (.iload_n 1, 1) := by decide +kernel
theorem dX11_picture_117 : decode cX11_picture 117 = .ok (.iaload, 1) := by decide +kernel
theorem dX11_picture_118 : decode cX11_picture 118 = .ok (.iastore, 1) := by decide +kernel
theorem dX11_picture_119 : decode cX11_picture 119 = .ok (.iinc 1 1, 3) := by decide +kernel
theorem dX11_picture_122 : decode cX11_picture 122 = .ok (.goto (-29), 3) := by decide +kernel
theorem dX11_picture_125 : decode cX11_picture 125 = .ok (.return_, 1) := by decide +kernel
theorem dX11_back_0 : decode cX11_back 0 = .ok (.aload_n 0, 1) := by decide +kernel
theorem dX11_back_1 : decode cX11_back 1 = .ok (.getfield 187, 3) := by decide +kernel
theorem dX11_back_4 : decode cX11_back 4 = .ok (.ifCond .ne 5, 3) := by decide +kernel
theorem dX11_back_7 : decode cX11_back 7 = .ok (.iconst (-1), 1) := by decide +kernel
theorem dX11_back_8 : decode cX11_back 8 = .ok (.ireturn, 1) := by decide +kernel
theorem dX11_back_9 : decode cX11_back 9 = .ok (.aload_n 0, 1) := by decide +kernel
theorem dX11_back_10 : decode cX11_back 10 = .ok (.dup, 1) := by decide +kernel
theorem dX11_back_11 : decode cX11_back 11 = .ok (.getfield 187, 3) := by decide +kernel
theorem dX11_back_14 : decode cX11_back 14 = .ok (.iconst 1, 1) := by decide +kernel
theorem dX11_back_15 : decode cX11_back 15 = .ok (.isub, 1) := by decide +kernel
theorem dX11_back_16 : decode cX11_back 16 = .ok (.putfield 187, 3) := by decide +kernel
theorem dX11_back_19 : decode cX11_back 19 = .ok (.iconst 0, 1) := by decide +kernel
theorem dX11_back_20 : decode cX11_back 20 = .ok (.istore_n 1, 1) := by decide +kernel
theorem dX11_back_21 : decode cX11_back 21 = .ok (.iload_n 1, 1) := by decide +kernel
theorem dX11_back_22 : decode cX11_back 22 = .ok (.sipush 200, 3) := by decide +kernel
theorem dX11_back_25 : decode cX11_back 25 = .ok (.if_icmp .ge 51, 3) := by decide +kernel
theorem dX11_back_28 : decode cX11_back 28 = .ok (.aload_n 0, 1) := by decide +kernel
theorem dX11_back_29 : decode cX11_back 29 = .ok (.getfield 9, 3) := by decide +kernel
theorem dX11_back_32 : decode cX11_back 32 = .ok (.iload_n 1, 1) := by decide +kernel
theorem dX11_back_33 : decode cX11_back 33 = .ok (.aload_n 0, 1) := by decide +kernel
theorem dX11_back_34 : decode cX11_back 34 = .ok (.getfield 33, 3) := by decide +kernel
theorem dX11_back_37 : decode cX11_back 37 = .ok (.sipush 200, 3) := by decide +kernel
theorem dX11_back_40 : decode cX11_back 40 = .ok (.aload_n 0, 1) := by decide +kernel
theorem dX11_back_41 : decode cX11_back 41 = .ok (.getfield 187, 3) := by decide +kernel
theorem dX11_back_44 : decode cX11_back 44 = .ok (.imul, 1) := by decide +kernel
theorem dX11_back_45 : decode cX11_back 45 = .ok (.iload_n 1, 1) := by decide +kernel
theorem dX11_back_46 : decode cX11_back 46 = .ok (.iadd, 1) := by decide +kernel
theorem dX11_back_47 : decode cX11_back 47 = .ok (.daload, 1) := by decide +kernel
theorem dX11_back_48 : decode cX11_back 48 = .ok (.dastore, 1) := by decide +kernel
theorem dX11_back_49 : decode cX11_back 49 = .ok (.aload_n 0, 1) := by decide +kernel
theorem dX11_back_50 : decode cX11_back 50 = .ok (.getfield 15, 3) := by decide +kernel
theorem dX11_back_53 : decode cX11_back 53 = .ok (.iload_n 1, 1) := by decide +kernel
theorem dX11_back_54 : decode cX11_back 54 = .ok (.aload_n 0, 1) := by decide +kernel
theorem dX11_back_55 : decode cX11_back 55 = .ok (.getfield 36, 3) := by decide +kernel
theorem dX11_back_58 : decode cX11_back 58 = .ok (.sipush 200, 3) := by decide +kernel
theorem dX11_back_61 : decode cX11_back 61 = .ok (.aload_n 0, 1) := by decide +kernel
theorem dX11_back_62 : decode cX11_back 62 = .ok (.getfield 187, 3) := by decide +kernel
theorem dX11_back_65 : decode cX11_back 65 = .ok (.imul, 1) := by decide +kernel
theorem dX11_back_66 : decode cX11_back 66 = .ok (.iload_n 1, 1) := by decide +kernel
theorem dX11_back_67 : decode cX11_back 67 = .ok (.iadd, 1) := by decide +kernel
theorem dX11_back_68 : decode cX11_back 68 = .ok (.baload, 1) := by decide +kernel
theorem dX11_back_69 : decode cX11_back 69 = .ok (.bastore, 1) := by decide +kernel
theorem dX11_back_70 : decode cX11_back 70 = .ok (.iinc 1 1, 3) := by decide +kernel
theorem dX11_back_73 : decode cX11_back 73 = .ok (.goto (-52), 3) := by decide +kernel
theorem dX11_back_76 : decode cX11_back 76 = .ok (.iconst 0, 1) := by decide +kernel
theorem dX11_back_77 : decode cX11_back 77 = .ok (.istore_n 1, 1) := by decide +kernel
theorem dX11_back_78 : decode cX11_back 78 = .ok (.iload_n 1, 1) := by decide +kernel
theorem dX11_back_79 : decode cX11_back 79 = .ok (.bipush 12, 2) := by decide +kernel
theorem dX11_back_81 : decode cX11_back 81 = .ok (.if_icmp .ge 29, 3) := by decide +kernel
theorem dX11_back_84 : decode cX11_back 84 = .ok (.aload_n 0, 1) := by decide +kernel
theorem dX11_back_85 : decode cX11_back 85 = .ok (.getfield 19, 3) := by decide +kernel
theorem dX11_back_88 : decode cX11_back 88 = .ok (.iload_n 1, 1) := by decide +kernel
theorem dX11_back_89 : decode cX11_back 89 = .ok (.aload_n 0, 1) := by decide +kernel
theorem dX11_back_90 : decode cX11_back 90 = .ok (.getfield 39, 3) := by decide +kernel
theorem dX11_back_93 : decode cX11_back 93 = .ok (.bipush 12, 2) := by decide +kernel
theorem dX11_back_95 : decode cX11_back 95 = .ok (.aload_n 0, 1) := by decide +kernel
theorem dX11_back_96 : decode cX11_back 96 = .ok (.getfield 187, 3) := by decide +kernel
theorem dX11_back_99 : decode cX11_back 99 = .ok (.imul, 1) := by decide +kernel
theorem dX11_back_100 : decode cX11_back 100 = .ok (.iload_n 1, 1) := by decide +kernel
theorem dX11_back_101 : decode cX11_back 101 = .ok (.iadd, 1) := by decide +kernel
theorem dX11_back_102 : decode cX11_back 102 = .ok (.baload, 1) := by decide +kernel
theorem dX11_back_103 : decode cX11_back 103 = .ok (.bastore, 1) := by decide +kernel
theorem dX11_back_104 : decode cX11_back 104 = .ok (.iinc 1 1, 3) := by decide +kernel
theorem dX11_back_107 : decode cX11_back 107 = .ok (.goto (-29), 3) := by decide +kernel
theorem dX11_back_110 : decode cX11_back 110 = .ok (.iconst 0, 1) := by decide +kernel
theorem dX11_back_111 : decode cX11_back 111 = .ok (.istore_n 1, 1) := by decide +kernel
theorem dX11_back_112 : decode cX11_back 112 = .ok (.iload_n 1, 1) := by decide +kernel
theorem dX11_back_113 : decode cX11_back 113 = .ok (.bipush 48, 2) := by decide +kernel
theorem dX11_back_115 : decode cX11_back 115 = .ok (.if_icmp .ge 29, 3) := by decide +kernel
theorem dX11_back_118 : decode cX11_back 118 = .ok (.aload_n 0, 1) := by decide +kernel
theorem dX11_back_119 : decode cX11_back 119 = .ok (.getfield 22, 3) := by decide +kernel
theorem dX11_back_122 : decode cX11_back 122 = .ok (.iload_n 1, 1) := by decide +kernel
theorem dX11_back_123 : decode cX11_back 123 = .ok (.aload_n 0, 1) := by decide +kernel
theorem dX11_back_124 : decode cX11_back 124 = .ok (.getfield 42, 3) := by decide +kernel
theorem dX11_back_127 : decode cX11_back 127 = .ok (.bipush 48, 2) := by decide +kernel
theorem dX11_back_129 : decode cX11_back 129 = .ok (.aload_n 0, 1) := by decide +kernel
theorem dX11_back_130 : decode cX11_back 130 = .ok (.getfield 187, 3) := by decide +kernel
theorem dX11_back_133 : decode cX11_back 133 = .ok (.imul, 1) := by decide +kernel
theorem dX11_back_134 : decode cX11_back 134 = .ok (.iload_n 1, 1) := by decide +kernel
theorem dX11_back_135 : decode cX11_back 135 = .ok (.iadd, 1) := by decide +kernel
theorem dX11_back_136 : decode cX11_back 136 = .ok (.iaload, 1) := by decide +kernel
theorem dX11_back_137 : decode cX11_back 137 = .ok (.iastore, 1) := by decide +kernel
theorem dX11_back_138 : decode cX11_back 138 = .ok (.iinc 1 1, 3) := by decide +kernel
theorem dX11_back_141 : decode cX11_back 141 = .ok (.goto (-29), 3) := by decide +kernel
theorem dX11_back_144 : decode cX11_back 144 = .ok (.aload_n 0, 1) := by decide +kernel
theorem dX11_back_145 : decode cX11_back 145 = .ok (.getfield 187, 3) := by decide +kernel
theorem dX11_back_148 : decode cX11_back 148 = .ok (.ireturn, 1) := by decide +kernel
theorem dX11_canSet_0 : decode cX11_canSet 0 = .ok (.iload_n 1, 1) := by decide +kernel
theorem dX11_canSet_1 : decode cX11_canSet 1 = .ok (.iconst 0, 1) := by decide +kernel
theorem dX11_canSet_2 : decode cX11_canSet 2 = .ok (.bipush 11, 2) := by decide +kernel
theorem dX11_canSet_4 : decode cX11_canSet 4 = .ok (.invokestatic 191, 3) := by decide +kernel
theorem dX11_canSet_7 : decode cX11_canSet 7 = .ok (.ifCond .eq 28, 3) := by decide +kernel
theorem dX11_canSet_10 : decode cX11_canSet 10 = .ok (.iload_n 2, 1) := by decide +kernel
theorem dX11_canSet_11 : decode cX11_canSet 11 = .ok (.iconst 0, 1) := by decide +kernel
theorem dX11_canSet_12 : decode cX11_canSet 12 = .ok (.bipush 15, 2) := by decide +kernel
theorem dX11_canSet_14 : decode cX11_canSet 14 = .ok (.invokestatic 191, 3) := by decide +kernel
theorem dX11_canSet_17 : decode cX11_canSet 17 = .ok (.ifCond .eq 18, 3) := by decide +kernel
theorem dX11_canSet_20 : decode cX11_canSet 20 = .ok (.aload_n 0, 1) := by decide +kernel
theorem dX11_canSet_21 : decode cX11_canSet 21 = .ok (.getfield 22, 3) := by decide +kernel
theorem dX11_canSet_24 : decode cX11_canSet 24 = .ok (.iconst 4, 1) := by decide +kernel
theorem dX11_canSet_25 : decode cX11_canSet 25 = .ok (.iload_n 1, 1) := by decide +kernel
theorem dX11_canSet_26 : decode cX11_canSet 26 = .ok (.imul, 1) := by decide +kernel
theorem dX11_canSet_27 : decode cX11_canSet 27 = .ok (.iaload, 1) := by decide +kernel
theorem dX11_canSet_28 : decode cX11_canSet 28 = .ok (.ifCond .ge 7, 3) := by decide +kernel
theorem dX11_canSet_31 : decode cX11_canSet 31 = .ok (.iconst 1, 1) := by decide +kernel
theorem dX11_canSet_32 : decode cX11_canSet 32 = .ok (.goto 4, 3) := by decide +kernel
theorem dX11_canSet_35 : decode cX11_canSet 35 = .ok (.iconst 0, 1) := by decide +kernel
theorem dX11_canSet_36 : decode cX11_canSet 36 = .ok (.ireturn, 1) := by decide +kernel
theorem dX11_put_0 : decode cX11_put 0 = .ok (.aload_n 0, 1) := by decide +kernel
theorem dX11_put_1 : decode cX11_put 1 = .ok (.getfield 9, 3) := by decide +kernel
theorem dX11_put_4 : decode cX11_put 4 = .ok (.iload_n 1, 1) := by decide +kernel
theorem dX11_put_5 : decode cX11_put 5 = .ok (.dload_n 2, 1) := by decide +kernel
theorem dX11_put_6 : decode cX11_put 6 = .ok (.dastore, 1) := by decide +kernel
theorem dX11_put_7 : decode cX11_put 7 = .ok (.aload_n 0, 1) := by decide +kernel
theorem dX11_put_8 : decode cX11_put 8 = .ok (.getfield 15, 3) := by decide +kernel
theorem dX11_put_11 : decode cX11_put 11 = .ok (.iload_n 1, 1) := by decide +kernel
theorem dX11_put_12 : decode cX11_put 12 = .ok (.iconst 0, 1) := by decide +kernel
theorem dX11_put_13 : decode cX11_put 13 = .ok (.bastore, 1) := by decide +kernel
theorem dX11_put_14 : decode cX11_put 14 = .ok (.return_, 1) := by decide +kernel
theorem dX11_putSpecial_0 : decode cX11_putSpecial 0 = .ok (.iload_n 2, 1) := by decide +kernel
theorem dX11_putSpecial_1 : decode cX11_putSpecial 1 = .ok (.tableswitch 106 0 4 #[35, 52, 63, 74, 85], 35) := by decide +kernel
theorem dX11_putSpecial_36 : decode cX11_putSpecial 36 = .ok (.aload_n 0, 1) := by decide +kernel
theorem dX11_putSpecial_37 : decode cX11_putSpecial 37 = .ok (.getfield 9, 3) := by decide +kernel
theorem dX11_putSpecial_40 : decode cX11_putSpecial 40 = .ok (.iload_n 1, 1) := by decide +kernel
theorem dX11_putSpecial_41 : decode cX11_putSpecial 41 = .ok (.dconst 0, 1) := by decide +kernel
theorem dX11_putSpecial_42 : decode cX11_putSpecial 42 = .ok (.dastore, 1) := by decide +kernel
theorem dX11_putSpecial_43 : decode cX11_putSpecial 43 = .ok (.aload_n 0, 1) := by decide +kernel
theorem dX11_putSpecial_44 : decode cX11_putSpecial 44 = .ok (.getfield 15, 3) := by decide +kernel
theorem dX11_putSpecial_47 : decode cX11_putSpecial 47 = .ok (.iload_n 1, 1) := by decide +kernel
theorem dX11_putSpecial_48 : decode cX11_putSpecial 48 = .ok (.iconst 1, 1) := by decide +kernel
theorem dX11_putSpecial_49 : decode cX11_putSpecial 49 = .ok (.bastore, 1) := by decide +kernel
theorem dX11_putSpecial_50 : decode cX11_putSpecial 50 = .ok (.goto 75, 3) := by decide +kernel
theorem dX11_putSpecial_53 : decode cX11_putSpecial 53 = .ok (.aload_n 0, 1) := by decide +kernel
theorem dX11_putSpecial_54 : decode cX11_putSpecial 54 = .ok (.iload_n 1, 1) := by decide +kernel
theorem dX11_putSpecial_55 : decode cX11_putSpecial 55 = .ok (.ldc2_w 57, 3) := by decide +kernel
theorem dX11_putSpecial_58 : decode cX11_putSpecial 58 = .ok (.invokevirtual 195, 3) := by decide +kernel
theorem dX11_putSpecial_61 : decode cX11_putSpecial 61 = .ok (.goto 64, 3) := by decide +kernel
theorem dX11_putSpecial_64 : decode cX11_putSpecial 64 = .ok (.aload_n 0, 1) := by decide +kernel
theorem dX11_putSpecial_65 : decode cX11_putSpecial 65 = .ok (.iload_n 1, 1) := by decide +kernel
theorem dX11_putSpecial_66 : decode cX11_putSpecial 66 = .ok (.ldc2_w 59, 3) := by decide +kernel
theorem dX11_putSpecial_69 : decode cX11_putSpecial 69 = .ok (.invokevirtual 195, 3) := by decide +kernel
theorem dX11_putSpecial_72 : decode cX11_putSpecial 72 = .ok (.goto 53, 3) := by decide +kernel
theorem dX11_putSpecial_75 : decode cX11_putSpecial 75 = .ok (.aload_n 0, 1) := by decide +kernel
theorem dX11_putSpecial_76 : decode cX11_putSpecial 76 = .ok (.iload_n 1, 1) := by decide +kernel
theorem dX11_putSpecial_77 : decode cX11_putSpecial 77 = .ok (.ldc2_w 65, 3) := by decide +kernel
theorem dX11_putSpecial_80 : decode cX11_putSpecial 80 = .ok (.invokevirtual 195, 3) := by decide +kernel
theorem dX11_putSpecial_83 : decode cX11_putSpecial 83 = .ok (.goto 42, 3) := by decide +kernel
theorem dX11_putSpecial_86 : decode cX11_putSpecial 86 = .ok (.aload_n 0, 1) := by decide +kernel
theorem dX11_putSpecial_87 : decode cX11_putSpecial 87 = .ok (.iload_n 1, 1) := by decide +kernel
theorem dX11_putSpecial_88 : decode cX11_putSpecial 88 = .ok (.iload_n 3, 1) := by decide +kernel
theorem dX11_putSpecial_89 : decode cX11_putSpecial 89 = .ok (.ifCond .eq 9, 3) := by decide +kernel
theorem dX11_putSpecial_92 : decode cX11_putSpecial 92 = .ok (.ldc2_w 201, 3) := by decide +kernel
theorem dX11_putSpecial_95 : decode cX11_putSpecial 95 = .ok (.goto 6, 3) := by decide +kernel
theorem dX11_putSpecial_98 : decode cX11_putSpecial 98 = .ok (.ldc2_w 203, 3) := by decide +kernel
theorem dX11_putSpecial_101 : decode cX11_putSpecial 101 = .ok (.invokevirtual 195, 3) := by decide +kernel
theorem dX11_putSpecial_104 : decode cX11_putSpecial 104 = .ok (.goto 21, 3) := by decide +kernel
theorem dX11_putSpecial_107 : decode cX11_putSpecial 107 = .ok (.aload_n 0, 1) := by decide +kernel
theorem dX11_putSpecial_108 : decode cX11_putSpecial 108 = .ok (.iload_n 1, 1) := by decide +kernel
theorem dX11_putSpecial_109 : decode cX11_putSpecial 109 = .ok (.iload_n 3, 1) := by decide +kernel
theorem dX11_putSpecial_110 : decode cX11_putSpecial 110 = .ok (.ifCond .eq 9, 3) := by decide +kernel
theorem dX11_putSpecial_113 : decode cX11_putSpecial 113 = .ok (.ldc2_w 205, 3) := by decide +kernel
theorem dX11_putSpecial_116 : decode cX11_putSpecial 116 = .ok (.goto 6, 3) := by decide +kernel
theorem dX11_putSpecial_119 : decode cX11_putSpecial 119 = .ok (.ldc2_w 207, 3) := by decide +kernel
theorem dX11_putSpecial_122 : decode cX11_putSpecial 122 = .ok (.invokevirtual 195, 3) := by decide +kernel
theorem dX11_putSpecial_125 : decode cX11_putSpecial 125 = .ok (.return_, 1) := by decide +kernel
theorem dX11_set_0 : decode cX11_set 0 = .ok (.aload_n 0, 1) := by decide +kernel
theorem dX11_set_1 : decode cX11_set 1 = .ok (.iload_n 1, 1) := by decide +kernel
theorem dX11_set_2 : decode cX11_set 2 = .ok (.iload_n 2, 1) := by decide +kernel
theorem dX11_set_3 : decode cX11_set 3 = .ok (.invokevirtual 209, 3) := by decide +kernel
theorem dX11_set_6 : decode cX11_set 6 = .ok (.ifCond .eq 17, 3) := by decide +kernel
theorem dX11_set_9 : decode cX11_set 9 = .ok (.iload 4, 2) := by decide +kernel
theorem dX11_set_11 : decode cX11_set 11 = .ok (.sipush (-1000), 3) := by decide +kernel
theorem dX11_set_14 : decode cX11_set 14 = .ok (.sipush 900, 3) := by decide +kernel
theorem dX11_set_17 : decode cX11_set 17 = .ok (.invokestatic 191, 3) := by decide +kernel
theorem dX11_set_20 : decode cX11_set 20 = .ok (.ifCond .ne 5, 3) := by decide +kernel
theorem dX11_set_23 : decode cX11_set 23 = .ok (.iconst 0, 1) := by decide +kernel
theorem dX11_set_24 : decode cX11_set 24 = .ok (.ireturn, 1) := by decide +kernel
theorem dX11_set_25 : decode cX11_set 25 = .ok (.aload_n 0, 1) := by decide +kernel
theorem dX11_set_26 : decode cX11_set 26 = .ok (.invokevirtual 212, 3) := by decide +kernel
theorem dX11_set_29 : decode cX11_set 29 = .ok (.aload_n 0, 1) := by decide +kernel
theorem dX11_set_30 : decode cX11_set 30 = .ok (.bipush 16, 2) := by decide +kernel
theorem dX11_set_32 : decode cX11_set 32 = .ok (.iload_n 1, 1) := by decide +kernel
theorem dX11_set_33 : decode cX11_set 33 = .ok (.imul, 1) := by decide +kernel
theorem dX11_set_34 : decode cX11_set 34 = .ok (.iload_n 2, 1) := by decide +kernel
theorem dX11_set_35 : decode cX11_set 35 = .ok (.iadd, 1) := by decide +kernel
theorem dX11_set_36 : decode cX11_set 36 = .ok (.iload_n 3, 1) := by decide +kernel
theorem dX11_set_37 : decode cX11_set 37 = .ok (.iload 4, 2) := by decide +kernel
theorem dX11_set_39 : decode cX11_set 39 = .ok (.invokestatic 215, 3) := by decide +kernel
theorem dX11_set_42 : decode cX11_set 42 = .ok (.aload_n 0, 1) := by decide +kernel
theorem dX11_set_43 : decode cX11_set 43 = .ok (.getfield 19, 3) := by decide +kernel
theorem dX11_set_46 : decode cX11_set 46 = .ok (.iload_n 1, 1) := by decide +kernel
theorem dX11_set_47 : decode cX11_set 47 = .ok (.baload, 1) := by decide +kernel
theorem dX11_set_48 : decode cX11_set 48 = .ok (.invokestatic 132, 3) := by decide +kernel
theorem dX11_set_51 : decode cX11_set 51 = .ok (.invokevirtual 195, 3) := by decide +kernel
theorem dX11_set_54 : decode cX11_set 54 = .ok (.aload_n 0, 1) := by decide +kernel
theorem dX11_set_55 : decode cX11_set 55 = .ok (.invokevirtual 218, 3) := by decide +kernel
theorem dX11_set_58 : decode cX11_set 58 = .ok (.ireturn, 1) := by decide +kernel
theorem dX11_special_0 : decode cX11_special 0 = .ok (.aload_n 0, 1) := by decide +kernel
theorem dX11_special_1 : decode cX11_special 1 = .ok (.iload_n 1, 1) := by decide +kernel
theorem dX11_special_2 : decode cX11_special 2 = .ok (.iload_n 2, 1) := by decide +kernel
theorem dX11_special_3 : decode cX11_special 3 = .ok (.invokevirtual 209, 3) := by decide +kernel
theorem dX11_special_6 : decode cX11_special 6 = .ok (.ifCond .eq 12, 3) := by decide +kernel
theorem dX11_special_9 : decode cX11_special 9 = .ok (.iload_n 3, 1) := by decide +kernel
theorem dX11_special_10 : decode cX11_special 10 = .ok (.iconst 0, 1) := by decide +kernel
theorem dX11_special_11 : decode cX11_special 11 = .ok (.iconst 5, 1) := by decide +kernel
theorem dX11_special_12 : decode cX11_special 12 = .ok (.invokestatic 191, 3) := by decide +kernel
theorem dX11_special_15 : decode cX11_special 15 = .ok (.ifCond .ne 5, 3) := by decide +kernel
theorem dX11_special_18 : decode cX11_special 18 = .ok (.iconst 0, 1) := by decide +kernel
theorem dX11_special_19 : decode cX11_special 19 = .ok (.ireturn, 1) := by decide +kernel
theorem dX11_special_20 : decode cX11_special 20 = .ok (.aload_n 0, 1) := by decide +kernel
theorem dX11_special_21 : decode cX11_special 21 = .ok (.invokevirtual 212, 3) := by decide +kernel
theorem dX11_special_24 : decode cX11_special 24 = .ok (.aload_n 0, 1) := by decide +kernel
theorem dX11_special_25 : decode cX11_special 25 = .ok (.bipush 16, 2) := by decide +kernel
theorem dX11_special_27 : decode cX11_special 27 = .ok (.iload_n 1, 1) := by decide +kernel
theorem dX11_special_28 : decode cX11_special 28 = .ok (.imul, 1) := by decide +kernel
theorem dX11_special_29 : decode cX11_special 29 = .ok (.iload_n 2, 1) := by decide +kernel
theorem dX11_special_30 : decode cX11_special 30 = .ok (.iadd, 1) := by decide +kernel
theorem dX11_special_31 : decode cX11_special 31 = .ok (.iload_n 3, 1) := by decide +kernel
theorem dX11_special_32 : decode cX11_special 32 = .ok (.aload_n 0, 1) := by decide +kernel
theorem dX11_special_33 : decode cX11_special 33 = .ok (.getfield 19, 3) := by decide +kernel
theorem dX11_special_36 : decode cX11_special 36 = .ok (.iload_n 1, 1) := by decide +kernel
theorem dX11_special_37 : decode cX11_special 37 = .ok (.baload, 1) := by decide +kernel
theorem dX11_special_38 : decode cX11_special 38 = .ok (.invokevirtual 222, 3) := by decide +kernel
theorem dX11_special_41 : decode cX11_special 41 = .ok (.aload_n 0, 1) := by decide +kernel
theorem dX11_special_42 : decode cX11_special 42 = .ok (.invokevirtual 218, 3) := by decide +kernel
theorem dX11_special_45 : decode cX11_special 45 = .ok (.ireturn, 1) := by decide +kernel
theorem dX11_constant_0 : decode cX11_constant 0 = .ok (.iload_n 1, 1) := by decide +kernel
theorem dX11_constant_1 : decode cX11_constant 1 = .ok (.iconst 0, 1) := by decide +kernel
theorem dX11_constant_2 : decode cX11_constant 2 = .ok (.bipush 7, 2) := by decide +kernel
theorem dX11_constant_4 : decode cX11_constant 4 = .ok (.invokestatic 191, 3) := by decide +kernel
theorem dX11_constant_7 : decode cX11_constant 7 = .ok (.ifCond .eq 16, 3) := by decide +kernel
theorem dX11_constant_10 : decode cX11_constant 10 = .ok (.iload_n 3, 1) := by decide +kernel
theorem dX11_constant_11 : decode cX11_constant 11 = .ok (.sipush (-1000), 3) := by decide +kernel
theorem dX11_constant_14 : decode cX11_constant 14 = .ok (.sipush 900, 3) := by decide +kernel
theorem dX11_constant_17 : decode cX11_constant 17 = .ok (.invokestatic 191, 3) := by decide +kernel
theorem dX11_constant_20 : decode cX11_constant 20 = .ok (.ifCond .ne 5, 3) := by decide +kernel
theorem dX11_constant_23 : decode cX11_constant 23 = .ok (.iconst 0, 1) := by decide +kernel
theorem dX11_constant_24 : decode cX11_constant 24 = .ok (.ireturn, 1) := by decide +kernel
theorem dX11_constant_25 : decode cX11_constant 25 = .ok (.aload_n 0, 1) := by decide +kernel
theorem dX11_constant_26 : decode cX11_constant 26 = .ok (.invokevirtual 212, 3) := by decide +kernel
theorem dX11_constant_29 : decode cX11_constant 29 = .ok (.aload_n 0, 1) := by decide +kernel
theorem dX11_constant_30 : decode cX11_constant 30 = .ok (.sipush 192, 3) := by decide +kernel
theorem dX11_constant_33 : decode cX11_constant 33 = .ok (.iload_n 1, 1) := by decide +kernel
theorem dX11_constant_34 : decode cX11_constant 34 = .ok (.iadd, 1) := by decide +kernel
theorem dX11_constant_35 : decode cX11_constant 35 = .ok (.iload_n 2, 1) := by decide +kernel
theorem dX11_constant_36 : decode cX11_constant 36 = .ok (.iload_n 3, 1) := by decide +kernel
theorem dX11_constant_37 : decode cX11_constant 37 = .ok (.invokestatic 215, 3) := by decide +kernel
theorem dX11_constant_40 : decode cX11_constant 40 = .ok (.invokevirtual 195, 3) := by decide +kernel
theorem dX11_constant_43 : decode cX11_constant 43 = .ok (.aload_n 0, 1) := by decide +kernel
theorem dX11_constant_44 : decode cX11_constant 44 = .ok (.invokevirtual 218, 3) := by decide +kernel
theorem dX11_constant_47 : decode cX11_constant 47 = .ok (.ireturn, 1) := by decide +kernel
theorem dX11_constantSpecial_0 : decode cX11_constantSpecial 0 = .ok (.iload_n 1, 1) := by decide +kernel
theorem dX11_constantSpecial_1 : decode cX11_constantSpecial 1 = .ok (.iconst 0, 1) := by decide +kernel
theorem dX11_constantSpecial_2 : decode cX11_constantSpecial 2 = .ok (.bipush 7, 2) := by decide +kernel
theorem dX11_constantSpecial_4 : decode cX11_constantSpecial 4 = .ok (.invokestatic 191, 3) := by decide +kernel
theorem dX11_constantSpecial_7 : decode cX11_constantSpecial 7 = .ok (.ifCond .eq 12, 3) := by decide +kernel
theorem dX11_constantSpecial_10 : decode cX11_constantSpecial 10 = .ok (.iload_n 2, 1) := by decide +kernel
theorem dX11_constantSpecial_11 : decode cX11_constantSpecial 11 = .ok (.iconst 0, 1) := by decide +kernel
theorem dX11_constantSpecial_12 : decode cX11_constantSpecial 12 = .ok (.iconst 5, 1) := by decide +kernel
theorem dX11_constantSpecial_13 : decode cX11_constantSpecial 13 = .ok (.invokestatic 191, 3) := by decide +kernel
theorem dX11_constantSpecial_16 : decode cX11_constantSpecial 16 = .ok (.ifCond .ne 5, 3) := by decide +kernel
theorem dX11_constantSpecial_19 : decode cX11_constantSpecial 19 = .ok (.iconst 0, 1) := by decide +kernel
theorem dX11_constantSpecial_20 : decode cX11_constantSpecial 20 = .ok (.ireturn, 1) := by decide +kernel
theorem dX11_constantSpecial_21 : decode cX11_constantSpecial 21 = .ok (.aload_n 0, 1) := by decide +kernel
theorem dX11_constantSpecial_22 : decode cX11_constantSpecial 22 = .ok (.invokevirtual 212, 3) := by decide +kernel
theorem dX11_constantSpecial_25 : decode cX11_constantSpecial 25 = .ok (.aload_n 0, 1) := by decide +kernel
theorem dX11_constantSpecial_26 : decode cX11_constantSpecial 26 = .ok (.sipush 192, 3) := by decide +kernel
theorem dX11_constantSpecial_29 : decode cX11_constantSpecial 29 = .ok (.iload_n 1, 1) := by decide +kernel
theorem dX11_constantSpecial_30 : decode cX11_constantSpecial 30 = .ok (.iadd, 1) := by decide +kernel
theorem dX11_constantSpecial_31 : decode cX11_constantSpecial 31 = .ok (.iload_n 2, 1) := by decide +kernel
theorem dX11_constantSpecial_32 : decode cX11_constantSpecial 32 = .ok (.iconst 0, 1) := by decide +kernel
theorem dX11_constantSpecial_33 : decode cX11_constantSpecial 33 = .ok (.invokevirtual 222, 3) := by decide +kernel
theorem dX11_constantSpecial_36 : decode cX11_constantSpecial 36 = .ok (.aload_n 0, 1) := by decide +kernel
theorem dX11_constantSpecial_37 : decode cX11_constantSpecial 37 = .ok (.invokevirtual 218, 3) := by decide +kernel
theorem dX11_constantSpecial_40 : decode cX11_constantSpecial 40 = .ok (.ireturn, 1) := by decide +kernel
theorem dX11_formula_0 : decode cX11_formula 0 = .ok (.iload_n 1, 1) := by decide +kernel
theorem dX11_formula_1 : decode cX11_formula 1 = .ok (.iconst 0, 1) := by decide +kernel
theorem dX11_formula_2 : decode cX11_formula 2 = .ok (.bipush 11, 2) := by decide +kernel
theorem dX11_formula_4 : decode cX11_formula 4 = .ok (.invokestatic 191, 3) := by decide +kernel
theorem dX11_formula_7 : decode cX11_formula 7 = .ok (.ifCond .eq 63, 3) := by decide +kernel
theorem dX11_formula_10 : decode cX11_formula 10 = .ok (.iload_n 2, 1) := by decide +kernel
theorem dX11_formula_11 : decode cX11_formula 11 = .ok (.iconst 0, 1) := by decide +kernel
theorem dX11_formula_12 : decode cX11_formula 12 = .ok (.bipush 26, 2) := by decide +kernel
theorem dX11_formula_14 : decode cX11_formula 14 = .ok (.invokestatic 191, 3) := by decide +kernel
theorem dX11_formula_17 : decode cX11_formula 17 = .ok (.ifCond .eq 53, 3) := by decide +kernel
theorem dX11_formula_20 : decode cX11_formula 20 = .ok (.iload_n 3, 1) := by decide +kernel
theorem dX11_formula_21 : decode cX11_formula 21 = .ok (.iconst 0, 1) := by decide +kernel
theorem dX11_formula_22 : decode cX11_formula 22 = .ok (.iload_n 1, 1) := by decide +kernel
theorem dX11_formula_23 : decode cX11_formula 23 = .ok (.iconst 1, 1) := by decide +kernel
theorem dX11_formula_24 : decode cX11_formula 24 = .ok (.isub, 1) := by decide +kernel
theorem dX11_formula_25 : decode cX11_formula 25 = .ok (.invokestatic 191, 3) := by decide +kernel
theorem dX11_formula_28 : decode cX11_formula 28 = .ok (.ifCond .eq 42, 3) := by decide +kernel
theorem dX11_formula_31 : decode cX11_formula 31 = .ok (.iload 4, 2) := by decide +kernel
theorem dX11_formula_33 : decode cX11_formula 33 = .ok (.iconst 0, 1) := by decide +kernel
theorem dX11_formula_34 : decode cX11_formula 34 = .ok (.iload_n 1, 1) := by decide +kernel
theorem dX11_formula_35 : decode cX11_formula 35 = .ok (.iconst 1, 1) := by decide +kernel
theorem dX11_formula_36 : decode cX11_formula 36 = .ok (.isub, 1) := by decide +kernel
theorem dX11_formula_37 : decode cX11_formula 37 = .ok (.invokestatic 191, 3) := by decide +kernel
theorem dX11_formula_40 : decode cX11_formula 40 = .ok (.ifCond .ne 15, 3) := by decide +kernel
theorem dX11_formula_43 : decode cX11_formula 43 = .ok (.iload 4, 2) := by decide +kernel
theorem dX11_formula_45 : decode cX11_formula 45 = .ok (.bipush 16, 2) := by decide +kernel
theorem dX11_formula_47 : decode cX11_formula 47 = .ok (.bipush 23, 2) := by decide +kernel
theorem dX11_formula_49 : decode cX11_formula 49 = .ok (.invokestatic 191, 3) := by decide +kernel
theorem dX11_formula_52 : decode cX11_formula 52 = .ok (.ifCond .eq 18, 3) := by decide +kernel
theorem dX11_formula_55 : decode cX11_formula 55 = .ok (.iload 5, 2) := by decide +kernel
theorem dX11_formula_57 : decode cX11_formula 57 = .ok (.iconst 0, 1) := by decide +kernel
theorem dX11_formula_58 : decode cX11_formula 58 = .ok (.bipush 11, 2) := by decide +kernel
theorem dX11_formula_60 : decode cX11_formula 60 = .ok (.invokestatic 191, 3) := by decide +kernel
theorem dX11_formula_63 : decode cX11_formula 63 = .ok (.ifCond .eq 7, 3) := by decide +kernel
theorem dX11_formula_66 : decode cX11_formula 66 = .ok (.iconst 1, 1) := by decide +kernel
theorem dX11_formula_67 : decode cX11_formula 67 = .ok (.goto 4, 3) := by decide +kernel
theorem dX11_formula_70 : decode cX11_formula 70 = .ok (.iconst 0, 1) := by decide +kernel
theorem dX11_formula_71 : decode cX11_formula 71 = .ok (.istore 6, 2) := by decide +kernel
theorem dX11_formula_73 : decode cX11_formula 73 = .ok (.iload 6, 2) := by decide +kernel
theorem dX11_formula_75 : decode cX11_formula 75 = .ok (.ifCond .ne 5, 3) := by decide +kernel
theorem dX11_formula_78 : decode cX11_formula 78 = .ok (.iconst 0, 1) := by decide +kernel
theorem dX11_formula_79 : decode cX11_formula 79 = .ok (.ireturn, 1) := by decide +kernel
theorem dX11_formula_80 : decode cX11_formula 80 = .ok (.aload_n 0, 1) := by decide +kernel
theorem dX11_formula_81 : decode cX11_formula 81 = .ok (.invokevirtual 212, 3) := by decide +kernel
theorem dX11_formula_84 : decode cX11_formula 84 = .ok (.aload_n 0, 1) := by decide +kernel
theorem dX11_formula_85 : decode cX11_formula 85 = .ok (.getfield 22, 3) := by decide +kernel
theorem dX11_formula_88 : decode cX11_formula 88 = .ok (.iconst 4, 1) := by decide +kernel
theorem dX11_formula_89 : decode cX11_formula 89 = .ok (.iload_n 1, 1) := by decide +kernel
theorem dX11_formula_90 : decode cX11_formula 90 = .ok (.imul, 1) := by decide +kernel
theorem dX11_formula_91 : decode cX11_formula 91 = .ok (.iload_n 2, 1) := by decide +kernel
theorem dX11_formula_92 : decode cX11_formula 92 = .ok (.iastore, 1) := by decide +kernel
theorem dX11_formula_93 : decode cX11_formula 93 = .ok (.aload_n 0, 1) := by decide +kernel
theorem dX11_formula_94 : decode cX11_formula 94 = .ok (.getfield 22, 3) := by decide +kernel
theorem dX11_formula_97 : decode cX11_formula 97 = .ok (.iconst 4, 1) := by decide +kernel
theorem dX11_formula_98 : decode cX11_formula 98 = .ok (.iload_n 1, 1) := by decide +kernel
theorem dX11_formula_99 : decode cX11_formula 99 = .ok (.imul, 1) := by decide +kernel
theorem dX11_formula_100 : decode cX11_formula 100 = .ok (.iconst 1, 1) := by decide +kernel
theorem dX11_formula_101 : decode cX11_formula 101 = .ok (.iadd, 1) := by decide +kernel
theorem dX11_formula_102 : decode cX11_formula 102 = .ok (.iload_n 3, 1) := by decide +kernel
theorem dX11_formula_103 : decode cX11_formula 103 = .ok (.iastore, 1) := by decide +kernel
theorem dX11_formula_104 : decode cX11_formula 104 = .ok (.aload_n 0, 1) := by decide +kernel
theorem dX11_formula_105 : decode cX11_formula 105 = .ok (.getfield 22, 3) := by decide +kernel
theorem dX11_formula_108 : decode cX11_formula 108 = .ok (.iconst 4, 1) := by decide +kernel
theorem dX11_formula_109 : decode cX11_formula 109 = .ok (.iload_n 1, 1) := by decide +kernel
theorem dX11_formula_110 : decode cX11_formula 110 = .ok (.imul, 1) := by decide +kernel
theorem dX11_formula_111 : decode cX11_formula 111 = .ok (.iconst 2, 1) := by decide +kernel
theorem dX11_formula_112 : decode cX11_formula 112 = .ok (.iadd, 1) := by decide +kernel
theorem dX11_formula_113 : decode cX11_formula 113 = .ok (.iload 4, 2) := by decide +kernel
theorem dX11_formula_115 : decode cX11_formula 115 = .ok (.iastore, 1) := by decide +kernel
theorem dX11_formula_116 : decode cX11_formula 116 = .ok (.aload_n 0, 1) := by decide +kernel
theorem dX11_formula_117 : decode cX11_formula 117 = .ok (.getfield 22, 3) := by decide +kernel
theorem dX11_formula_120 : decode cX11_formula 120 = .ok (.iconst 4, 1) := by decide +kernel
theorem dX11_formula_121 : decode cX11_formula 121 = .ok (.iload_n 1, 1) := by decide +kernel
theorem dX11_formula_122 : decode cX11_formula 122 = .ok (.imul, 1) := by decide +kernel
theorem dX11_formula_123 : decode cX11_formula 123 = .ok (.iconst 3, 1) := by decide +kernel
theorem dX11_formula_124 : decode cX11_formula 124 = .ok (.iadd, 1) := by decide +kernel
theorem dX11_formula_125 : decode cX11_formula 125 = .ok (.iload 5, 2) := by decide +kernel
theorem dX11_formula_127 : decode cX11_formula 127 = .ok (.iastore, 1) := by decide +kernel
theorem dX11_formula_128 : decode cX11_formula 128 = .ok (.aload_n 0, 1) := by decide +kernel
theorem dX11_formula_129 : decode cX11_formula 129 = .ok (.invokevirtual 218, 3) := by decide +kernel
theorem dX11_formula_132 : decode cX11_formula 132 = .ok (.ireturn, 1) := by decide +kernel
theorem dX11_input_0 : decode cX11_input 0 = .ok (.iload_n 1, 1) := by decide +kernel
theorem dX11_input_1 : decode cX11_input 1 = .ok (.iconst 0, 1) := by decide +kernel
theorem dX11_input_2 : decode cX11_input 2 = .ok (.bipush 11, 2) := by decide +kernel
theorem dX11_input_4 : decode cX11_input 4 = .ok (.invokestatic 191, 3) := by decide +kernel
theorem dX11_input_7 : decode cX11_input 7 = .ok (.ifCond .eq 14, 3) := by decide +kernel
theorem dX11_input_10 : decode cX11_input 10 = .ok (.aload_n 0, 1) := by decide +kernel
theorem dX11_input_11 : decode cX11_input 11 = .ok (.getfield 22, 3) := by decide +kernel
theorem dX11_input_14 : decode cX11_input 14 = .ok (.iconst 4, 1) := by decide +kernel
theorem dX11_input_15 : decode cX11_input 15 = .ok (.iload_n 1, 1) := by decide +kernel
theorem dX11_input_16 : decode cX11_input 16 = .ok (.imul, 1) := by decide +kernel
theorem dX11_input_17 : decode cX11_input 17 = .ok (.iaload, 1) := by decide +kernel
theorem dX11_input_18 : decode cX11_input 18 = .ok (.ifCond .ge 5, 3) := by decide +kernel
theorem dX11_input_21 : decode cX11_input 21 = .ok (.iconst 0, 1) := by decide +kernel
theorem dX11_input_22 : decode cX11_input 22 = .ok (.ireturn, 1) := by decide +kernel
theorem dX11_input_23 : decode cX11_input 23 = .ok (.aload_n 0, 1) := by decide +kernel
theorem dX11_input_24 : decode cX11_input 24 = .ok (.invokevirtual 212, 3) := by decide +kernel
theorem dX11_input_27 : decode cX11_input 27 = .ok (.aload_n 0, 1) := by decide +kernel
theorem dX11_input_28 : decode cX11_input 28 = .ok (.invokevirtual 226, 3) := by decide +kernel
theorem dX11_input_31 : decode cX11_input 31 = .ok (.bipush 16, 2) := by decide +kernel
theorem dX11_input_33 : decode cX11_input 33 = .ok (.iload_n 1, 1) := by decide +kernel
theorem dX11_input_34 : decode cX11_input 34 = .ok (.imul, 1) := by decide +kernel
theorem dX11_input_35 : decode cX11_input 35 = .ok (.istore_n 2, 1) := by decide +kernel
theorem dX11_input_36 : decode cX11_input 36 = .ok (.iload_n 2, 1) := by decide +kernel
theorem dX11_input_37 : decode cX11_input 37 = .ok (.bipush 16, 2) := by decide +kernel
theorem dX11_input_39 : decode cX11_input 39 = .ok (.iload_n 1, 1) := by decide +kernel
theorem dX11_input_40 : decode cX11_input 40 = .ok (.imul, 1) := by decide +kernel
theorem dX11_input_41 : decode cX11_input 41 = .ok (.bipush 16, 2) := by decide +kernel
theorem dX11_input_43 : decode cX11_input 43 = .ok (.iadd, 1) := by decide +kernel
theorem dX11_input_44 : decode cX11_input 44 = .ok (.if_icmp .ge 33, 3) := by decide +kernel
theorem dX11_input_47 : decode cX11_input 47 = .ok (.aload_n 0, 1) := by decide +kernel
theorem dX11_input_48 : decode cX11_input 48 = .ok (.getfield 9, 3) := by decide +kernel
theorem dX11_input_51 : decode cX11_input 51 = .ok (.iload_n 2, 1) := by decide +kernel
theorem dX11_input_52 : decode cX11_input 52 = .ok (.aload_n 0, 1) := by decide +kernel
theorem dX11_input_53 : decode cX11_input 53 = .ok (.getfield 26, 3) := by decide +kernel
theorem dX11_input_56 : decode cX11_input 56 = .ok (.iload_n 2, 1) := by decide +kernel
theorem dX11_input_57 : decode cX11_input 57 = .ok (.daload, 1) := by decide +kernel
theorem dX11_input_58 : decode cX11_input 58 = .ok (.dastore, 1) := by decide +kernel
theorem dX11_input_59 : decode cX11_input 59 = .ok (.aload_n 0, 1) := by decide +kernel
theorem dX11_input_60 : decode cX11_input 60 = .ok (.getfield 15, 3) := by decide +kernel
theorem dX11_input_63 : decode cX11_input 63 = .ok (.iload_n 2, 1) := by decide +kernel
theorem dX11_input_64 : decode cX11_input 64 = .ok (.aload_n 0, 1) := by decide +kernel
theorem dX11_input_65 : decode cX11_input 65 = .ok (.getfield 29, 3) := by decide +kernel
theorem dX11_input_68 : decode cX11_input 68 = .ok (.iload_n 2, 1) := by decide +kernel
theorem dX11_input_69 : decode cX11_input 69 = .ok (.baload, 1) := by decide +kernel
theorem dX11_input_70 : decode cX11_input 70 = .ok (.bastore, 1) := by decide +kernel
theorem dX11_input_71 : decode cX11_input 71 = .ok (.iinc 2 1, 3) := by decide +kernel
theorem dX11_input_74 : decode cX11_input 74 = .ok (.goto (-38), 3) := by decide +kernel
theorem dX11_input_77 : decode cX11_input 77 = .ok (.aload_n 0, 1) := by decide +kernel
theorem dX11_input_78 : decode cX11_input 78 = .ok (.getfield 22, 3) := by decide +kernel
theorem dX11_input_81 : decode cX11_input 81 = .ok (.iconst 4, 1) := by decide +kernel
theorem dX11_input_82 : decode cX11_input 82 = .ok (.iload_n 1, 1) := by decide +kernel
theorem dX11_input_83 : decode cX11_input 83 = .ok (.imul, 1) := by decide +kernel
theorem dX11_input_84 : decode cX11_input 84 = .ok (.iconst (-1), 1) := by decide +kernel
theorem dX11_input_85 : decode cX11_input 85 = .ok (.iastore, 1) := by decide +kernel
theorem dX11_input_86 : decode cX11_input 86 = .ok (.aload_n 0, 1) := by decide +kernel
theorem dX11_input_87 : decode cX11_input 87 = .ok (.invokevirtual 218, 3) := by decide +kernel
theorem dX11_input_90 : decode cX11_input 90 = .ok (.ireturn, 1) := by decide +kernel
theorem dX11_width_0 : decode cX11_width 0 = .ok (.iload_n 1, 1) := by decide +kernel
theorem dX11_width_1 : decode cX11_width 1 = .ok (.iconst 0, 1) := by decide +kernel
theorem dX11_width_2 : decode cX11_width 2 = .ok (.bipush 11, 2) := by decide +kernel
theorem dX11_width_4 : decode cX11_width 4 = .ok (.invokestatic 191, 3) := by decide +kernel
theorem dX11_width_7 : decode cX11_width 7 = .ok (.ifCond .eq 13, 3) := by decide +kernel
theorem dX11_width_10 : decode cX11_width 10 = .ok (.aload_n 0, 1) := by decide +kernel
theorem dX11_width_11 : decode cX11_width 11 = .ok (.getfield 19, 3) := by decide +kernel
theorem dX11_width_14 : decode cX11_width 14 = .ok (.iload_n 1, 1) := by decide +kernel
theorem dX11_width_15 : decode cX11_width 15 = .ok (.baload, 1) := by decide +kernel
theorem dX11_width_16 : decode cX11_width 16 = .ok (.iload_n 2, 1) := by decide +kernel
theorem dX11_width_17 : decode cX11_width 17 = .ok (.if_icmp .ne 5, 3) := by decide +kernel
theorem dX11_width_20 : decode cX11_width 20 = .ok (.iconst 0, 1) := by decide +kernel
theorem dX11_width_21 : decode cX11_width 21 = .ok (.ireturn, 1) := by decide +kernel
theorem dX11_width_22 : decode cX11_width 22 = .ok (.aload_n 0, 1) := by decide +kernel
theorem dX11_width_23 : decode cX11_width 23 = .ok (.invokevirtual 212, 3) := by decide +kernel
theorem dX11_width_26 : decode cX11_width 26 = .ok (.aload_n 0, 1) := by decide +kernel
theorem dX11_width_27 : decode cX11_width 27 = .ok (.getfield 19, 3) := by decide +kernel
theorem dX11_width_30 : decode cX11_width 30 = .ok (.iload_n 1, 1) := by decide +kernel
theorem dX11_width_31 : decode cX11_width 31 = .ok (.iload_n 2, 1) := by decide +kernel
theorem dX11_width_32 : decode cX11_width 32 = .ok (.bastore, 1) := by decide +kernel
theorem dX11_width_33 : decode cX11_width 33 = .ok (.bipush 16, 2) := by decide +kernel
theorem dX11_width_35 : decode cX11_width 35 = .ok (.iload_n 1, 1) := by decide +kernel
theorem dX11_width_36 : decode cX11_width 36 = .ok (.imul, 1) := by decide +kernel
theorem dX11_width_37 : decode cX11_width 37 = .ok (.istore_n 3, 1) := by decide +kernel
theorem dX11_width_38 : decode cX11_width 38 = .ok (.iload_n 3, 1) := by decide +kernel
theorem dX11_width_39 : decode cX11_width 39 = .ok (.bipush 16, 2) := by decide +kernel
theorem dX11_width_41 : decode cX11_width 41 = .ok (.iload_n 1, 1) := by decide +kernel
theorem dX11_width_42 : decode cX11_width 42 = .ok (.imul, 1) := by decide +kernel
theorem dX11_width_43 : decode cX11_width 43 = .ok (.bipush 16, 2) := by decide +kernel
theorem dX11_width_45 : decode cX11_width 45 = .ok (.iadd, 1) := by decide +kernel
theorem dX11_width_46 : decode cX11_width 46 = .ok (.if_icmp .ge 25, 3) := by decide +kernel
theorem dX11_width_49 : decode cX11_width 49 = .ok (.aload_n 0, 1) := by decide +kernel
theorem dX11_width_50 : decode cX11_width 50 = .ok (.getfield 9, 3) := by decide +kernel
theorem dX11_width_53 : decode cX11_width 53 = .ok (.iload_n 3, 1) := by decide +kernel
theorem dX11_width_54 : decode cX11_width 54 = .ok (.aload_n 0, 1) := by decide +kernel
theorem dX11_width_55 : decode cX11_width 55 = .ok (.getfield 9, 3) := by decide +kernel
theorem dX11_width_58 : decode cX11_width 58 = .ok (.iload_n 3, 1) := by decide +kernel
theorem dX11_width_59 : decode cX11_width 59 = .ok (.daload, 1) := by decide +kernel
theorem dX11_width_60 : decode cX11_width 60 = .ok (.iload_n 2, 1) := by decide +kernel
theorem dX11_width_61 : decode cX11_width 61 = .ok (.invokestatic 132, 3) := by decide +kernel
theorem dX11_width_64 : decode cX11_width 64 = .ok (.dastore, 1) := by decide +kernel
theorem dX11_width_65 : decode cX11_width 65 = .ok (.iinc 3 1, 3) := by decide +kernel
theorem dX11_width_68 : decode cX11_width 68 = .ok (.goto (-30), 3) := by decide +kernel
theorem dX11_width_71 : decode cX11_width 71 = .ok (.aload_n 0, 1) := by decide +kernel
theorem dX11_width_72 : decode cX11_width 72 = .ok (.invokevirtual 218, 3) := by decide +kernel
theorem dX11_width_75 : decode cX11_width 75 = .ok (.ireturn, 1) := by decide +kernel
theorem dX11_alarm_0 : decode cX11_alarm 0 = .ok (.iload_n 1, 1) := by decide +kernel
theorem dX11_alarm_1 : decode cX11_alarm 1 = .ok (.iconst 0, 1) := by decide +kernel
theorem dX11_alarm_2 : decode cX11_alarm 2 = .ok (.bipush 11, 2) := by decide +kernel
theorem dX11_alarm_4 : decode cX11_alarm 4 = .ok (.invokestatic 191, 3) := by decide +kernel
theorem dX11_alarm_7 : decode cX11_alarm 7 = .ok (.ifCond .eq 43, 3) := by decide +kernel
theorem dX11_alarm_10 : decode cX11_alarm 10 = .ok (.iload_n 2, 1) := by decide +kernel
theorem dX11_alarm_11 : decode cX11_alarm 11 = .ok (.iconst 0, 1) := by decide +kernel
theorem dX11_alarm_12 : decode cX11_alarm 12 = .ok (.bipush 11, 2) := by decide +kernel
theorem dX11_alarm_14 : decode cX11_alarm 14 = .ok (.invokestatic 191, 3) := by decide +kernel
theorem dX11_alarm_17 : decode cX11_alarm 17 = .ok (.ifCond .eq 33, 3) := by decide +kernel
theorem dX11_alarm_20 : decode cX11_alarm 20 = .ok (.iload_n 3, 1) := by decide +kernel
theorem dX11_alarm_21 : decode cX11_alarm 21 = .ok (.iconst 0, 1) := by decide +kernel
theorem dX11_alarm_22 : decode cX11_alarm 22 = .ok (.bipush 11, 2) := by decide +kernel
theorem dX11_alarm_24 : decode cX11_alarm 24 = .ok (.invokestatic 191, 3) := by decide +kernel
theorem dX11_alarm_27 : decode cX11_alarm 27 = .ok (.ifCond .ne 14, 3) := by decide +kernel
theorem dX11_alarm_30 : decode cX11_alarm 30 = .ok (.iload_n 3, 1) := by decide +kernel
theorem dX11_alarm_31 : decode cX11_alarm 31 = .ok (.bipush 16, 2) := by decide +kernel
theorem dX11_alarm_33 : decode cX11_alarm 33 = .ok (.bipush 23, 2) := by decide +kernel
theorem dX11_alarm_35 : decode cX11_alarm 35 = .ok (.invokestatic 191, 3) := by decide +kernel
theorem dX11_alarm_38 : decode cX11_alarm 38 = .ok (.ifCond .eq 12, 3) := by decide +kernel
theorem dX11_alarm_41 : decode cX11_alarm 41 = .ok (.aload_n 0, 1) := by decide +kernel
theorem dX11_alarm_42 : decode cX11_alarm 42 = .ok (.getfield 229, 3) := by decide +kernel
theorem dX11_alarm_45 : decode cX11_alarm 45 = .ok (.bipush 10, 2) := by decide +kernel
theorem dX11_alarm_47 : decode cX11_alarm 47 = .ok (.if_icmp .ne 5, 3) := by decide +kernel
theorem dX11_alarm_50 : decode cX11_alarm 50 = .ok (.iconst (-1), 1) := by decide +kernel
theorem dX11_alarm_51 : decode cX11_alarm 51 = .ok (.ireturn, 1) := by decide +kernel
theorem dX11_alarm_52 : decode cX11_alarm 52 = .ok (.aload_n 0, 1) := by decide +kernel
theorem dX11_alarm_53 : decode cX11_alarm 53 = .ok (.getfield 45, 3) := by decide +kernel
theorem dX11_alarm_56 : decode cX11_alarm 56 = .ok (.iconst 3, 1) := by decide +kernel
theorem dX11_alarm_57 : decode cX11_alarm 57 = .ok (.aload_n 0, 1) := by decide +kernel
theorem dX11_alarm_58 : decode cX11_alarm 58 = .ok (.getfield 229, 3) := by decide +kernel
theorem dX11_alarm_61 : decode cX11_alarm 61 = .ok (.imul, 1) := by decide +kernel
theorem dX11_alarm_62 : decode cX11_alarm 62 = .ok (.iload_n 1, 1) := by decide +kernel
theorem dX11_alarm_63 : decode cX11_alarm 63 = .ok (.iastore, 1) := by decide +kernel
theorem dX11_alarm_64 : decode cX11_alarm 64 = .ok (.aload_n 0, 1) := by decide +kernel
theorem dX11_alarm_65 : decode cX11_alarm 65 = .ok (.getfield 45, 3) := by decide +kernel
theorem dX11_alarm_68 : decode cX11_alarm 68 = .ok (.iconst 3, 1) := by decide +kernel
theorem dX11_alarm_69 : decode cX11_alarm 69 = .ok (.aload_n 0, 1) := by decide +kernel
theorem dX11_alarm_70 : decode cX11_alarm 70 = .ok (.getfield 229, 3) := by decide +kernel
theorem dX11_alarm_73 : decode cX11_alarm 73 = .ok (.imul, 1) := by decide +kernel
theorem dX11_alarm_74 : decode cX11_alarm 74 = .ok (.iconst 1, 1) := by decide +kernel
theorem dX11_alarm_75 : decode cX11_alarm 75 = .ok (.iadd, 1) := by decide +kernel
theorem dX11_alarm_76 : decode cX11_alarm 76 = .ok (.iload_n 2, 1) := by decide +kernel
theorem dX11_alarm_77 : decode cX11_alarm 77 = .ok (.iastore, 1) := by decide +kernel
theorem dX11_alarm_78 : decode cX11_alarm 78 = .ok (.aload_n 0, 1) := by decide +kernel
theorem dX11_alarm_79 : decode cX11_alarm 79 = .ok (.getfield 45, 3) := by decide +kernel
theorem dX11_alarm_82 : decode cX11_alarm 82 = .ok (.iconst 3, 1) := by decide +kernel
theorem dX11_alarm_83 : decode cX11_alarm 83 = .ok (.aload_n 0, 1) := by decide +kernel
theorem dX11_alarm_84 : decode cX11_alarm 84 = .ok (.getfield 229, 3) := by decide +kernel
theorem dX11_alarm_87 : decode cX11_alarm 87 = .ok (.imul, 1) := by decide +kernel
theorem dX11_alarm_88 : decode cX11_alarm 88 = .ok (.iconst 2, 1) := by decide +kernel
theorem dX11_alarm_89 : decode cX11_alarm 89 = .ok (.iadd, 1) := by decide +kernel
theorem dX11_alarm_90 : decode cX11_alarm 90 = .ok (.iload_n 3, 1) := by decide +kernel
theorem dX11_alarm_91 : decode cX11_alarm 91 = .ok (.iastore, 1) := by decide +kernel
theorem dX11_alarm_92 : decode cX11_alarm 92 = .ok (.aload_n 0, 1) := by decide +kernel
theorem dX11_alarm_93 : decode cX11_alarm 93 = .ok (.dup, 1) := by decide +kernel
theorem dX11_alarm_94 : decode cX11_alarm 94 = .ok (.getfield 229, 3) := by decide +kernel
theorem dX11_alarm_97 : decode cX11_alarm 97 = .ok (.iconst 1, 1) := by decide +kernel
theorem dX11_alarm_98 : decode cX11_alarm 98 = .ok (.iadd, 1) := by decide +kernel
theorem dX11_alarm_99 : decode cX11_alarm 99 = .ok (.putfield 229, 3) := by decide +kernel
theorem dX11_alarm_102 : decode cX11_alarm 102 = .ok (.aload_n 0, 1) := by decide +kernel
theorem dX11_alarm_103 : decode cX11_alarm 103 = .ok (.getfield 229, 3) := by decide +kernel
theorem dX11_alarm_106 : decode cX11_alarm 106 = .ok (.iconst 1, 1) := by decide +kernel
theorem dX11_alarm_107 : decode cX11_alarm 107 = .ok (.isub, 1) := by decide +kernel
theorem dX11_alarm_108 : decode cX11_alarm 108 = .ok (.ireturn, 1) := by decide +kernel
theorem dX11_holds_0 : decode cX11_holds 0 = .ok (.aload_n 0, 1) := by decide +kernel
theorem dX11_holds_1 : decode cX11_holds 1 = .ok (.getfield 45, 3) := by decide +kernel
theorem dX11_holds_4 : decode cX11_holds 4 = .ok (.iconst 3, 1) := by decide +kernel
theorem dX11_holds_5 : decode cX11_holds 5 = .ok (.iload_n 1, 1) := by decide +kernel
theorem dX11_holds_6 : decode cX11_holds 6 = .ok (.imul, 1) := by decide +kernel
theorem dX11_holds_7 : decode cX11_holds 7 = .ok (.iaload, 1) := by decide +kernel
theorem dX11_holds_8 : decode cX11_holds 8 = .ok (.iload_n 2, 1) := by decide +kernel
theorem dX11_holds_9 : decode cX11_holds 9 = .ok (.invokestatic 128, 3) := by decide +kernel
theorem dX11_holds_12 : decode cX11_holds 12 = .ok (.istore_n 3, 1) := by decide +kernel
theorem dX11_holds_13 : decode cX11_holds 13 = .ok (.aload_n 0, 1) := by decide +kernel
theorem dX11_holds_14 : decode cX11_holds 14 = .ok (.getfield 45, 3) := by decide +kernel
theorem dX11_holds_17 : decode cX11_holds 17 = .ok (.iconst 3, 1) := by decide +kernel
theorem dX11_holds_18 : decode cX11_holds 18 = .ok (.iload_n 1, 1) := by decide +kernel
theorem dX11_holds_19 : decode cX11_holds 19 = .ok (.imul, 1) := by decide +kernel
theorem dX11_holds_20 : decode cX11_holds 20 = .ok (.iconst 2, 1) := by decide +kernel
theorem dX11_holds_21 : decode cX11_holds 21 = .ok (.iadd, 1) := by decide +kernel
theorem dX11_holds_22 : decode cX11_holds 22 = .ok (.iaload, 1) := by decide +kernel
theorem dX11_holds_23 : decode cX11_holds 23 = .ok (.iload_n 2, 1) := by decide +kernel
theorem dX11_holds_24 : decode cX11_holds 24 = .ok (.invokestatic 128, 3) := by decide +kernel
theorem dX11_holds_27 : decode cX11_holds 27 = .ok (.istore 4, 2) := by decide +kernel
theorem dX11_holds_29 : decode cX11_holds 29 = .ok (.aload_n 0, 1) := by decide +kernel
theorem dX11_holds_30 : decode cX11_holds 30 = .ok (.getfield 45, 3) := by decide +kernel
theorem dX11_holds_33 : decode cX11_holds 33 = .ok (.iconst 3, 1) := by decide +kernel
theorem dX11_holds_34 : decode cX11_holds 34 = .ok (.iload_n 1, 1) := by decide +kernel
theorem dX11_holds_35 : decode cX11_holds 35 = .ok (.imul, 1) := by decide +kernel
theorem dX11_holds_36 : decode cX11_holds 36 = .ok (.iconst 1, 1) := by decide +kernel
theorem dX11_holds_37 : decode cX11_holds 37 = .ok (.iadd, 1) := by decide +kernel
theorem dX11_holds_38 : decode cX11_holds 38 = .ok (.iaload, 1) := by decide +kernel
theorem dX11_holds_39 : decode cX11_holds 39 = .ok (.aload_n 0, 1) := by decide +kernel
theorem dX11_holds_40 : decode cX11_holds 40 = .ok (.getfield 26, 3) := by decide +kernel
theorem dX11_holds_43 : decode cX11_holds 43 = .ok (.iload_n 3, 1) := by decide +kernel
theorem dX11_holds_44 : decode cX11_holds 44 = .ok (.daload, 1) := by decide +kernel
theorem dX11_holds_45 : decode cX11_holds 45 = .ok (.aload_n 0, 1) := by decide +kernel
theorem dX11_holds_46 : decode cX11_holds 46 = .ok (.getfield 29, 3) := by decide +kernel
theorem dX11_holds_49 : decode cX11_holds 49 = .ok (.iload_n 3, 1) := by decide +kernel
theorem dX11_holds_50 : decode cX11_holds 50 = .ok (.baload, 1) := by decide +kernel
theorem dX11_holds_51 : decode cX11_holds 51 = .ok (.aload_n 0, 1) := by decide +kernel
theorem dX11_holds_52 : decode cX11_holds 52 = .ok (.getfield 26, 3) := by decide +kernel
theorem dX11_holds_55 : decode cX11_holds 55 = .ok (.iload 4, 2) := by decide +kernel
theorem dX11_holds_57 : decode cX11_holds 57 = .ok (.daload, 1) := by decide +kernel
theorem dX11_holds_58 : decode cX11_holds 58 = .ok (.aload_n 0, 1) := by decide +kernel
theorem dX11_holds_59 : decode cX11_holds 59 = .ok (.getfield 29, 3) := by decide +kernel
theorem dX11_holds_62 : decode cX11_holds 62 = .ok (.iload 4, 2) := by decide +kernel
theorem dX11_holds_64 : decode cX11_holds 64 = .ok (.baload, 1) := by decide +kernel
theorem dX11_holds_65 : decode cX11_holds 65 = .ok (.invokestatic 150, 3) := by decide +kernel
theorem dX11_holds_68 : decode cX11_holds 68 = .ok (.ireturn, 1) := by decide +kernel
theorem dX11_manyBits_0 : decode cX11_manyBits 0 = .ok (.iconst 0, 1) := by decide +kernel
theorem dX11_manyBits_1 : decode cX11_manyBits 1 = .ok (.istore_n 1, 1) := by decide +kernel
theorem dX11_manyBits_2 : decode cX11_manyBits 2 = .ok (.iconst 0, 1) := by decide +kernel
theorem dX11_manyBits_3 : decode cX11_manyBits 3 = .ok (.istore_n 2, 1) := by decide +kernel
theorem dX11_manyBits_4 : decode cX11_manyBits 4 = .ok (.iload_n 2, 1) := by decide +kernel
theorem dX11_manyBits_5 : decode cX11_manyBits 5 = .ok (.bipush 16, 2) := by decide +kernel
theorem dX11_manyBits_7 : decode cX11_manyBits 7 = .ok (.if_icmp .ge 17, 3) := by decide +kernel
theorem dX11_manyBits_10 : decode cX11_manyBits 10 = .ok (.iload_n 1, 1) := by decide +kernel
theorem dX11_manyBits_11 : decode cX11_manyBits 11 = .ok (.iload_n 0, 1) := by decide +kernel
theorem dX11_manyBits_12 : decode cX11_manyBits 12 = .ok (.iload_n 2, 1) := by decide +kernel
theorem dX11_manyBits_13 : decode cX11_manyBits 13 = .ok (.ishr, 1) := by decide +kernel
theorem dX11_manyBits_14 : decode cX11_manyBits 14 = .ok (.iconst 1, 1) := by decide +kernel
theorem dX11_manyBits_15 : decode cX11_manyBits 15 = .ok (.iand, 1) := by decide +kernel
theorem dX11_manyBits_16 : decode cX11_manyBits 16 = .ok (.iadd, 1) := by decide +kernel
theorem dX11_manyBits_17 : decode cX11_manyBits 17 = .ok (.istore_n 1, 1) := by decide +kernel
theorem dX11_manyBits_18 : decode cX11_manyBits 18 = .ok (.iinc 2 1, 3) := by decide +kernel
theorem dX11_manyBits_21 : decode cX11_manyBits 21 = .ok (.goto (-17), 3) := by decide +kernel
theorem dX11_manyBits_24 : decode cX11_manyBits 24 = .ok (.iload_n 1, 1) := by decide +kernel
theorem dX11_manyBits_25 : decode cX11_manyBits 25 = .ok (.ireturn, 1) := by decide +kernel
theorem dX11_ring_0 : decode cX11_ring 0 = .ok (.aload_n 0, 1) := by decide +kernel
theorem dX11_ring_1 : decode cX11_ring 1 = .ok (.invokevirtual 226, 3) := by decide +kernel
theorem dX11_ring_4 : decode cX11_ring 4 = .ok (.iconst 0, 1) := by decide +kernel
theorem dX11_ring_5 : decode cX11_ring 5 = .ok (.istore_n 1, 1) := by decide +kernel
theorem dX11_ring_6 : decode cX11_ring 6 = .ok (.iconst 0, 1) := by decide +kernel
theorem dX11_ring_7 : decode cX11_ring 7 = .ok (.istore_n 2, 1) := by decide +kernel
theorem dX11_ring_8 : decode cX11_ring 8 = .ok (.iload_n 2, 1) := by decide +kernel
theorem dX11_ring_9 : decode cX11_ring 9 = .ok (.aload_n 0, 1) := by decide +kernel
theorem dX11_ring_10 : decode cX11_ring 10 = .ok (.getfield 229, 3) := by decide +kernel
theorem dX11_ring_13 : decode cX11_ring 13 = .ok (.if_icmp .ge 90, 3) := by decide +kernel
theorem dX11_ring_16 : decode cX11_ring 16 = .ok (.iconst 0, 1) := by decide +kernel
theorem dX11_ring_17 : decode cX11_ring 17 = .ok (.istore_n 3, 1) := by decide +kernel
theorem dX11_ring_18 : decode cX11_ring 18 = .ok (.iconst 0, 1) := by decide +kernel
theorem dX11_ring_19 : decode cX11_ring 19 = .ok (.istore 4, 2) := by decide +kernel
theorem dX11_ring_21 : decode cX11_ring 21 = .ok (.iload 4, 2) := by decide +kernel
theorem dX11_ring_23 : decode cX11_ring 23 = .ok (.bipush 16, 2) := by decide +kernel
theorem dX11_ring_25 : decode cX11_ring 25 = .ok (.if_icmp .ge 30, 3) := by decide +kernel
theorem dX11_ring_28 : decode cX11_ring 28 = .ok (.iload_n 3, 1) := by decide +kernel
theorem dX11_ring_29 : decode cX11_ring 29 = .ok (.aload_n 0, 1) := by decide +kernel
theorem dX11_ring_30 : decode cX11_ring 30 = .ok (.iload_n 2, 1) := by decide +kernel
theorem dX11_ring_31 : decode cX11_ring 31 = .ok (.iload 4, 2) := by decide +kernel
theorem dX11_ring_33 : decode cX11_ring 33 = .ok (.invokevirtual 232, 3) := by decide +kernel
theorem dX11_ring_36 : decode cX11_ring 36 = .ok (.ifCond .eq 10, 3) := by decide +kernel
theorem dX11_ring_39 : decode cX11_ring 39 = .ok (.iconst 1, 1) := by decide +kernel
theorem dX11_ring_40 : decode cX11_ring 40 = .ok (.iload 4, 2) := by decide +kernel
theorem dX11_ring_42 : decode cX11_ring 42 = .ok (.ishl, 1) := by decide +kernel
theorem dX11_ring_43 : decode cX11_ring 43 = .ok (.goto 4, 3) := by decide +kernel
theorem dX11_ring_46 : decode cX11_ring 46 = .ok (.iconst 0, 1) := by decide +kernel
theorem dX11_ring_47 : decode cX11_ring 47 = .ok (.ior, 1) := by decide +kernel
theorem dX11_ring_48 : decode cX11_ring 48 = .ok (.istore_n 3, 1) := by decide +kernel
theorem dX11_ring_49 : decode cX11_ring 49 = .ok (.iinc 4 1, 3) := by decide +kernel
theorem dX11_ring_52 : decode cX11_ring 52 = .ok (.goto (-31), 3) := by decide +kernel
theorem dX11_ring_55 : decode cX11_ring 55 = .ok (.aload_n 0, 1) := by decide +kernel
theorem dX11_ring_56 : decode cX11_ring 56 = .ok (.getfield 51, 3) := by decide +kernel
theorem dX11_ring_59 : decode cX11_ring 59 = .ok (.iload_n 2, 1) := by decide +kernel
theorem dX11_ring_60 : decode cX11_ring 60 = .ok (.iload_n 3, 1) := by decide +kernel
theorem dX11_ring_61 : decode cX11_ring 61 = .ok (.aload_n 0, 1) := by decide +kernel
theorem dX11_ring_62 : decode cX11_ring 62 = .ok (.getfield 48, 3) := by decide +kernel
theorem dX11_ring_65 : decode cX11_ring 65 = .ok (.iload_n 2, 1) := by decide +kernel
theorem dX11_ring_66 : decode cX11_ring 66 = .ok (.iaload, 1) := by decide +kernel
theorem dX11_ring_67 : decode cX11_ring 67 = .ok (.iconst (-1), 1) := by decide +kernel
theorem dX11_ring_68 : decode cX11_ring 68 = .ok (.ixor, 1) := by decide +kernel
theorem dX11_ring_69 : decode cX11_ring 69 = .ok (.iand, 1) := by decide +kernel
theorem dX11_ring_70 : decode cX11_ring 70 = .ok (.iastore, 1) := by decide +kernel
theorem dX11_ring_71 : decode cX11_ring 71 = .ok (.aload_n 0, 1) := by decide +kernel
theorem dX11_ring_72 : decode cX11_ring 72 = .ok (.getfield 48, 3) := by decide +kernel
theorem dX11_ring_75 : decode cX11_ring 75 = .ok (.iload_n 2, 1) := by decide +kernel
theorem dX11_ring_76 : decode cX11_ring 76 = .ok (.iload_n 3, 1) := by decide +kernel
theorem dX11_ring_77 : decode cX11_ring 77 = .ok (.iastore, 1) := by decide +kernel
theorem dX11_ring_78 : decode cX11_ring 78 = .ok (.aload_n 0, 1) := by decide +kernel
theorem dX11_ring_79 : decode cX11_ring 79 = .ok (.getfield 54, 3) := by decide +kernel
theorem dX11_ring_82 : decode cX11_ring 82 = .ok (.iload_n 2, 1) := by decide +kernel
theorem dX11_ring_83 : decode cX11_ring 83 = .ok (.iconst 1, 1) := by decide +kernel
theorem dX11_ring_84 : decode cX11_ring 84 = .ok (.bastore, 1) := by decide +kernel
theorem dX11_ring_85 : decode cX11_ring 85 = .ok (.iload_n 1, 1) := by decide +kernel
theorem dX11_ring_86 : decode cX11_ring 86 = .ok (.aload_n 0, 1) := by decide +kernel
theorem dX11_ring_87 : decode cX11_ring 87 = .ok (.getfield 51, 3) := by decide +kernel
theorem dX11_ring_90 : decode cX11_ring 90 = .ok (.iload_n 2, 1) := by decide +kernel
end
section
theorem dX11_ring_91 : decode cX11_ring 91 = .ok (.iaload, 1) := by decide +kernel
theorem dX11_ring_92 : decode cX11_ring 92 = .ok (.invokestatic 235, 3) := by decide +kernel
theorem dX11_ring_95 : decode cX11_ring 95 = .ok (.iadd, 1) := by decide +kernel
theorem dX11_ring_96 : decode cX11_ring 96 = .ok (.istore_n 1, 1) := by decide +kernel
theorem dX11_ring_97 : decode cX11_ring 97 = .ok (.iinc 2 1, 3) := by decide +kernel
theorem dX11_ring_100 : decode cX11_ring 100 = .ok (.goto (-92), 3) := by decide +kernel
theorem dX11_ring_103 : decode cX11_ring 103 = .ok (.aload_n 0, 1) := by decide +kernel
theorem dX11_ring_104 : decode cX11_ring 104 = .ok (.dup, 1) := by decide +kernel
theorem dX11_ring_105 : decode cX11_ring 105 = .ok (.getfield 239, 3) := by decide +kernel
theorem dX11_ring_108 : decode cX11_ring 108 = .ok (.iconst 1, 1) := by decide +kernel
theorem dX11_ring_109 : decode cX11_ring 109 = .ok (.iadd, 1) := by decide +kernel
theorem dX11_ring_110 : decode cX11_ring 110 = .ok (.putfield 239, 3) := by decide +kernel
theorem dX11_ring_113 : decode cX11_ring 113 = .ok (.iload_n 1, 1) := by decide +kernel
theorem dX11_ring_114 : decode cX11_ring 114 = .ok (.ireturn, 1) := by decide +kernel
theorem dX11_alarmed_0 : decode cX11_alarmed 0 = .ok (.iload_n 1, 1) := by decide +kernel
theorem dX11_alarmed_1 : decode cX11_alarmed 1 = .ok (.iconst 0, 1) := by decide +kernel
theorem dX11_alarmed_2 : decode cX11_alarmed 2 = .ok (.aload_n 0, 1) := by decide +kernel
theorem dX11_alarmed_3 : decode cX11_alarmed 3 = .ok (.getfield 229, 3) := by decide +kernel
theorem dX11_alarmed_6 : decode cX11_alarmed 6 = .ok (.iconst 1, 1) := by decide +kernel
theorem dX11_alarmed_7 : decode cX11_alarmed 7 = .ok (.isub, 1) := by decide +kernel
theorem dX11_alarmed_8 : decode cX11_alarmed 8 = .ok (.invokestatic 191, 3) := by decide +kernel
theorem dX11_alarmed_11 : decode cX11_alarmed 11 = .ok (.ifCond .eq 21, 3) := by decide +kernel
theorem dX11_alarmed_14 : decode cX11_alarmed 14 = .ok (.aload_n 0, 1) := by decide +kernel
theorem dX11_alarmed_15 : decode cX11_alarmed 15 = .ok (.getfield 54, 3) := by decide +kernel
theorem dX11_alarmed_18 : decode cX11_alarmed 18 = .ok (.iload_n 1, 1) := by decide +kernel
theorem dX11_alarmed_19 : decode cX11_alarmed 19 = .ok (.baload, 1) := by decide +kernel
theorem dX11_alarmed_20 : decode cX11_alarmed 20 = .ok (.ifCond .eq 12, 3) := by decide +kernel
theorem dX11_alarmed_23 : decode cX11_alarmed 23 = .ok (.iload_n 2, 1) := by decide +kernel
theorem dX11_alarmed_24 : decode cX11_alarmed 24 = .ok (.iconst 0, 1) := by decide +kernel
theorem dX11_alarmed_25 : decode cX11_alarmed 25 = .ok (.iconst 2, 1) := by decide +kernel
theorem dX11_alarmed_26 : decode cX11_alarmed 26 = .ok (.invokestatic 191, 3) := by decide +kernel
theorem dX11_alarmed_29 : decode cX11_alarmed 29 = .ok (.ifCond .ne 5, 3) := by decide +kernel
theorem dX11_alarmed_32 : decode cX11_alarmed 32 = .ok (.iconst (-1), 1) := by decide +kernel
theorem dX11_alarmed_33 : decode cX11_alarmed 33 = .ok (.ireturn, 1) := by decide +kernel
theorem dX11_alarmed_34 : decode cX11_alarmed 34 = .ok (.iload_n 2, 1) := by decide +kernel
theorem dX11_alarmed_35 : decode cX11_alarmed 35 = .ok (.iconst 2, 1) := by decide +kernel
theorem dX11_alarmed_36 : decode cX11_alarmed 36 = .ok (.if_icmp .ge 26, 3) := by decide +kernel
theorem dX11_alarmed_39 : decode cX11_alarmed 39 = .ok (.iload_n 2, 1) := by decide +kernel
theorem dX11_alarmed_40 : decode cX11_alarmed 40 = .ok (.ifCond .ne 12, 3) := by decide +kernel
theorem dX11_alarmed_43 : decode cX11_alarmed 43 = .ok (.aload_n 0, 1) := by decide +kernel
theorem dX11_alarmed_44 : decode cX11_alarmed 44 = .ok (.getfield 48, 3) := by decide +kernel
theorem dX11_alarmed_47 : decode cX11_alarmed 47 = .ok (.iload_n 1, 1) := by decide +kernel
theorem dX11_alarmed_48 : decode cX11_alarmed 48 = .ok (.iaload, 1) := by decide +kernel
theorem dX11_alarmed_49 : decode cX11_alarmed 49 = .ok (.goto 9, 3) := by decide +kernel
theorem dX11_alarmed_52 : decode cX11_alarmed 52 = .ok (.aload_n 0, 1) := by decide +kernel
theorem dX11_alarmed_53 : decode cX11_alarmed 53 = .ok (.getfield 51, 3) := by decide +kernel
theorem dX11_alarmed_56 : decode cX11_alarmed 56 = .ok (.iload_n 1, 1) := by decide +kernel
theorem dX11_alarmed_57 : decode cX11_alarmed 57 = .ok (.iaload, 1) := by decide +kernel
theorem dX11_alarmed_58 : decode cX11_alarmed 58 = .ok (.invokestatic 235, 3) := by decide +kernel
theorem dX11_alarmed_61 : decode cX11_alarmed 61 = .ok (.ireturn, 1) := by decide +kernel
theorem dX11_alarmed_62 : decode cX11_alarmed 62 = .ok (.iconst 0, 1) := by decide +kernel
theorem dX11_alarmed_63 : decode cX11_alarmed 63 = .ok (.istore_n 3, 1) := by decide +kernel
theorem dX11_alarmed_64 : decode cX11_alarmed 64 = .ok (.iload_n 3, 1) := by decide +kernel
theorem dX11_alarmed_65 : decode cX11_alarmed 65 = .ok (.bipush 16, 2) := by decide +kernel
theorem dX11_alarmed_67 : decode cX11_alarmed 67 = .ok (.if_icmp .ge 22, 3) := by decide +kernel
theorem dX11_alarmed_70 : decode cX11_alarmed 70 = .ok (.aload_n 0, 1) := by decide +kernel
theorem dX11_alarmed_71 : decode cX11_alarmed 71 = .ok (.getfield 51, 3) := by decide +kernel
theorem dX11_alarmed_74 : decode cX11_alarmed 74 = .ok (.iload_n 1, 1) := by decide +kernel
theorem dX11_alarmed_75 : decode cX11_alarmed 75 = .ok (.iaload, 1) := by decide +kernel
theorem dX11_alarmed_76 : decode cX11_alarmed 76 = .ok (.iload_n 3, 1) := by decide +kernel
theorem dX11_alarmed_77 : decode cX11_alarmed 77 = .ok (.ishr, 1) := by decide +kernel
theorem dX11_alarmed_78 : decode cX11_alarmed 78 = .ok (.iconst 1, 1) := by decide +kernel
theorem dX11_alarmed_79 : decode cX11_alarmed 79 = .ok (.iand, 1) := by decide +kernel
theorem dX11_alarmed_80 : decode cX11_alarmed 80 = .ok (.ifCond .ne 9, 3) := by decide +kernel
theorem dX11_alarmed_83 : decode cX11_alarmed 83 = .ok (.iinc 3 1, 3) := by decide +kernel
theorem dX11_alarmed_86 : decode cX11_alarmed 86 = .ok (.goto (-22), 3) := by decide +kernel
theorem dX11_alarmed_89 : decode cX11_alarmed 89 = .ok (.iload_n 3, 1) := by decide +kernel
theorem dX11_alarmed_90 : decode cX11_alarmed 90 = .ok (.bipush 16, 2) := by decide +kernel
theorem dX11_alarmed_92 : decode cX11_alarmed 92 = .ok (.if_icmp .ge 7, 3) := by decide +kernel
theorem dX11_alarmed_95 : decode cX11_alarmed 95 = .ok (.iload_n 3, 1) := by decide +kernel
theorem dX11_alarmed_96 : decode cX11_alarmed 96 = .ok (.goto 4, 3) := by decide +kernel
theorem dX11_alarmed_99 : decode cX11_alarmed 99 = .ok (.iconst (-1), 1) := by decide +kernel
theorem dX11_alarmed_100 : decode cX11_alarmed 100 = .ok (.ireturn, 1) := by decide +kernel
theorem dX11_isThere_0 : decode cX11_isThere 0 = .ok (.iload_n 1, 1) := by decide +kernel
theorem dX11_isThere_1 : decode cX11_isThere 1 = .ok (.iconst 0, 1) := by decide +kernel
theorem dX11_isThere_2 : decode cX11_isThere 2 = .ok (.bipush 11, 2) := by decide +kernel
theorem dX11_isThere_4 : decode cX11_isThere 4 = .ok (.invokestatic 191, 3) := by decide +kernel
theorem dX11_isThere_7 : decode cX11_isThere 7 = .ok (.ifCond .eq 13, 3) := by decide +kernel
theorem dX11_isThere_10 : decode cX11_isThere 10 = .ok (.iload_n 2, 1) := by decide +kernel
theorem dX11_isThere_11 : decode cX11_isThere 11 = .ok (.iconst 0, 1) := by decide +kernel
theorem dX11_isThere_12 : decode cX11_isThere 12 = .ok (.bipush 15, 2) := by decide +kernel
theorem dX11_isThere_14 : decode cX11_isThere 14 = .ok (.invokestatic 191, 3) := by decide +kernel
theorem dX11_isThere_17 : decode cX11_isThere 17 = .ok (.ifCond .ne 5, 3) := by decide +kernel
theorem dX11_isThere_20 : decode cX11_isThere 20 = .ok (.iconst 0, 1) := by decide +kernel
theorem dX11_isThere_21 : decode cX11_isThere 21 = .ok (.ireturn, 1) := by decide +kernel
theorem dX11_isThere_22 : decode cX11_isThere 22 = .ok (.aload_n 0, 1) := by decide +kernel
theorem dX11_isThere_23 : decode cX11_isThere 23 = .ok (.invokevirtual 226, 3) := by decide +kernel
theorem dX11_isThere_26 : decode cX11_isThere 26 = .ok (.iconst 1, 1) := by decide +kernel
theorem dX11_isThere_27 : decode cX11_isThere 27 = .ok (.ireturn, 1) := by decide +kernel
theorem dX11_reading_0 : decode cX11_reading 0 = .ok (.aload_n 0, 1) := by decide +kernel
theorem dX11_reading_1 : decode cX11_reading 1 = .ok (.iload_n 1, 1) := by decide +kernel
theorem dX11_reading_2 : decode cX11_reading 2 = .ok (.iload_n 2, 1) := by decide +kernel
theorem dX11_reading_3 : decode cX11_reading 3 = .ok (.invokevirtual 242, 3) := by decide +kernel
theorem dX11_reading_6 : decode cX11_reading 6 = .ok (.ifCond .eq 31, 3) := by decide +kernel
theorem dX11_reading_9 : decode cX11_reading 9 = .ok (.aload_n 0, 1) := by decide +kernel
theorem dX11_reading_10 : decode cX11_reading 10 = .ok (.getfield 29, 3) := by decide +kernel
theorem dX11_reading_13 : decode cX11_reading 13 = .ok (.bipush 16, 2) := by decide +kernel
theorem dX11_reading_15 : decode cX11_reading 15 = .ok (.iload_n 1, 1) := by decide +kernel
theorem dX11_reading_16 : decode cX11_reading 16 = .ok (.imul, 1) := by decide +kernel
theorem dX11_reading_17 : decode cX11_reading 17 = .ok (.iload_n 2, 1) := by decide +kernel
theorem dX11_reading_18 : decode cX11_reading 18 = .ok (.iadd, 1) := by decide +kernel
theorem dX11_reading_19 : decode cX11_reading 19 = .ok (.baload, 1) := by decide +kernel
theorem dX11_reading_20 : decode cX11_reading 20 = .ok (.ifCond .ne 17, 3) := by decide +kernel
theorem dX11_reading_23 : decode cX11_reading 23 = .ok (.aload_n 0, 1) := by decide +kernel
theorem dX11_reading_24 : decode cX11_reading 24 = .ok (.getfield 26, 3) := by decide +kernel
theorem dX11_reading_27 : decode cX11_reading 27 = .ok (.bipush 16, 2) := by decide +kernel
theorem dX11_reading_29 : decode cX11_reading 29 = .ok (.iload_n 1, 1) := by decide +kernel
theorem dX11_reading_30 : decode cX11_reading 30 = .ok (.imul, 1) := by decide +kernel
theorem dX11_reading_31 : decode cX11_reading 31 = .ok (.iload_n 2, 1) := by decide +kernel
theorem dX11_reading_32 : decode cX11_reading 32 = .ok (.iadd, 1) := by decide +kernel
theorem dX11_reading_33 : decode cX11_reading 33 = .ok (.daload, 1) := by decide +kernel
theorem dX11_reading_34 : decode cX11_reading 34 = .ok (.goto 4, 3) := by decide +kernel
theorem dX11_reading_37 : decode cX11_reading 37 = .ok (.dconst 0, 1) := by decide +kernel
theorem dX11_reading_38 : decode cX11_reading 38 = .ok (.dreturn, 1) := by decide +kernel
theorem dX11_isBlank_0 : decode cX11_isBlank 0 = .ok (.aload_n 0, 1) := by decide +kernel
theorem dX11_isBlank_1 : decode cX11_isBlank 1 = .ok (.iload_n 1, 1) := by decide +kernel
theorem dX11_isBlank_2 : decode cX11_isBlank 2 = .ok (.iload_n 2, 1) := by decide +kernel
theorem dX11_isBlank_3 : decode cX11_isBlank 3 = .ok (.invokevirtual 242, 3) := by decide +kernel
theorem dX11_isBlank_6 : decode cX11_isBlank 6 = .ok (.ifCond .eq 21, 3) := by decide +kernel
theorem dX11_isBlank_9 : decode cX11_isBlank 9 = .ok (.aload_n 0, 1) := by decide +kernel
theorem dX11_isBlank_10 : decode cX11_isBlank 10 = .ok (.getfield 29, 3) := by decide +kernel
theorem dX11_isBlank_13 : decode cX11_isBlank 13 = .ok (.bipush 16, 2) := by decide +kernel
theorem dX11_isBlank_15 : decode cX11_isBlank 15 = .ok (.iload_n 1, 1) := by decide +kernel
theorem dX11_isBlank_16 : decode cX11_isBlank 16 = .ok (.imul, 1) := by decide +kernel
theorem dX11_isBlank_17 : decode cX11_isBlank 17 = .ok (.iload_n 2, 1) := by decide +kernel
theorem dX11_isBlank_18 : decode cX11_isBlank 18 = .ok (.iadd, 1) := by decide +kernel
theorem dX11_isBlank_19 : decode cX11_isBlank 19 = .ok (.baload, 1) := by decide +kernel
theorem dX11_isBlank_20 : decode cX11_isBlank 20 = .ok (.ifCond .eq 7, 3) := by decide +kernel
theorem dX11_isBlank_23 : decode cX11_isBlank 23 = .ok (.iconst 1, 1) := by decide +kernel
theorem dX11_isBlank_24 : decode cX11_isBlank 24 = .ok (.goto 4, 3) := by decide +kernel
theorem dX11_isBlank_27 : decode cX11_isBlank 27 = .ok (.iconst 0, 1) := by decide +kernel
theorem dX11_isBlank_28 : decode cX11_isBlank 28 = .ok (.ireturn, 1) := by decide +kernel
theorem dX11_isMinus_0 : decode cX11_isMinus 0 = .ok (.aload_n 0, 1) := by decide +kernel
theorem dX11_isMinus_1 : decode cX11_isMinus 1 = .ok (.iload_n 1, 1) := by decide +kernel
theorem dX11_isMinus_2 : decode cX11_isMinus 2 = .ok (.iload_n 2, 1) := by decide +kernel
theorem dX11_isMinus_3 : decode cX11_isMinus 3 = .ok (.invokevirtual 242, 3) := by decide +kernel
theorem dX11_isMinus_6 : decode cX11_isMinus 6 = .ok (.ifCond .eq 38, 3) := by decide +kernel
theorem dX11_isMinus_9 : decode cX11_isMinus 9 = .ok (.aload_n 0, 1) := by decide +kernel
theorem dX11_isMinus_10 : decode cX11_isMinus 10 = .ok (.getfield 29, 3) := by decide +kernel
theorem dX11_isMinus_13 : decode cX11_isMinus 13 = .ok (.bipush 16, 2) := by decide +kernel
theorem dX11_isMinus_15 : decode cX11_isMinus 15 = .ok (.iload_n 1, 1) := by decide +kernel
theorem dX11_isMinus_16 : decode cX11_isMinus 16 = .ok (.imul, 1) := by decide +kernel
theorem dX11_isMinus_17 : decode cX11_isMinus 17 = .ok (.iload_n 2, 1) := by decide +kernel
theorem dX11_isMinus_18 : decode cX11_isMinus 18 = .ok (.iadd, 1) := by decide +kernel
theorem dX11_isMinus_19 : decode cX11_isMinus 19 = .ok (.baload, 1) := by decide +kernel
theorem dX11_isMinus_20 : decode cX11_isMinus 20 = .ok (.ifCond .ne 24, 3) := by decide +kernel
theorem dX11_isMinus_23 : decode cX11_isMinus 23 = .ok (.aload_n 0, 1) := by decide +kernel
theorem dX11_isMinus_24 : decode cX11_isMinus 24 = .ok (.getfield 26, 3) := by decide +kernel
theorem dX11_isMinus_27 : decode cX11_isMinus 27 = .ok (.bipush 16, 2) := by decide +kernel
theorem dX11_isMinus_29 : decode cX11_isMinus 29 = .ok (.iload_n 1, 1) := by decide +kernel
theorem dX11_isMinus_30 : decode cX11_isMinus 30 = .ok (.imul, 1) := by decide +kernel
theorem dX11_isMinus_31 : decode cX11_isMinus 31 = .ok (.iload_n 2, 1) := by decide +kernel
theorem dX11_isMinus_32 : decode cX11_isMinus 32 = .ok (.iadd, 1) := by decide +kernel
theorem dX11_isMinus_33 : decode cX11_isMinus 33 = .ok (.daload, 1) := by decide +kernel
theorem dX11_isMinus_34 : decode cX11_isMinus 34 = .ok (.invokestatic 67, 3) := by decide +kernel
theorem dX11_isMinus_37 : decode cX11_isMinus 37 = .ok (.ifCond .eq 7, 3) := by decide +kernel
theorem dX11_isMinus_40 : decode cX11_isMinus 40 = .ok (.iconst 1, 1) := by decide +kernel
theorem dX11_isMinus_41 : decode cX11_isMinus 41 = .ok (.goto 4, 3) := by decide +kernel
theorem dX11_isMinus_44 : decode cX11_isMinus 44 = .ok (.iconst 0, 1) := by decide +kernel
theorem dX11_isMinus_45 : decode cX11_isMinus 45 = .ok (.ireturn, 1) := by decide +kernel
theorem dX11_digits_0 : decode cX11_digits 0 = .ok (.dload_n 0, 1) := by decide +kernel
theorem dX11_digits_1 : decode cX11_digits 1 = .ok (.invokestatic 61, 3) := by decide +kernel
theorem dX11_digits_4 : decode cX11_digits 4 = .ok (.ifCond .eq 5, 3) := by decide +kernel
theorem dX11_digits_7 : decode cX11_digits 7 = .ok (.lconst 0, 1) := by decide +kernel
theorem dX11_digits_8 : decode cX11_digits 8 = .ok (.lreturn, 1) := by decide +kernel
theorem dX11_digits_9 : decode cX11_digits 9 = .ok (.dload_n 0, 1) := by decide +kernel
theorem dX11_digits_10 : decode cX11_digits 10 = .ok (.invokestatic 111, 3) := by decide +kernel
theorem dX11_digits_13 : decode cX11_digits 13 = .ok (.ifCond .eq 15, 3) := by decide +kernel
theorem dX11_digits_16 : decode cX11_digits 16 = .ok (.ldc2_w 245, 3) := by decide +kernel
theorem dX11_digits_19 : decode cX11_digits 19 = .ok (.iload 4, 2) := by decide +kernel
theorem dX11_digits_21 : decode cX11_digits 21 = .ok (.i2l, 1) := by decide +kernel
theorem dX11_digits_22 : decode cX11_digits 22 = .ok (.lmul, 1) := by decide +kernel
theorem dX11_digits_23 : decode cX11_digits 23 = .ok (.lconst 1, 1) := by decide +kernel
theorem dX11_digits_24 : decode cX11_digits 24 = .ok (.ladd, 1) := by decide +kernel
theorem dX11_digits_25 : decode cX11_digits 25 = .ok (.iload_n 2, 1) := by decide +kernel
theorem dX11_digits_26 : decode cX11_digits 26 = .ok (.lshl, 1) := by decide +kernel
theorem dX11_digits_27 : decode cX11_digits 27 = .ok (.lreturn, 1) := by decide +kernel
theorem dX11_digits_28 : decode cX11_digits 28 = .ok (.dload_n 0, 1) := by decide +kernel
theorem dX11_digits_29 : decode cX11_digits 29 = .ok (.dstore 5, 2) := by decide +kernel
theorem dX11_digits_31 : decode cX11_digits 31 = .ok (.iconst 0, 1) := by decide +kernel
theorem dX11_digits_32 : decode cX11_digits 32 = .ok (.istore 7, 2) := by decide +kernel
theorem dX11_digits_34 : decode cX11_digits 34 = .ok (.dload 5, 2) := by decide +kernel
theorem dX11_digits_36 : decode cX11_digits 36 = .ok (.ldc2_w 84, 3) := by decide +kernel
theorem dX11_digits_39 : decode cX11_digits 39 = .ok (.dcmp .l, 1) := by decide +kernel
theorem dX11_digits_40 : decode cX11_digits 40 = .ok (.ifCond .lt 17, 3) := by decide +kernel
theorem dX11_digits_43 : decode cX11_digits 43 = .ok (.dload 5, 2) := by decide +kernel
theorem dX11_digits_45 : decode cX11_digits 45 = .ok (.ldc2_w 84, 3) := by decide +kernel
theorem dX11_digits_48 : decode cX11_digits 48 = .ok (.ddiv, 1) := by decide +kernel
theorem dX11_digits_49 : decode cX11_digits 49 = .ok (.dstore 5, 2) := by decide +kernel
theorem dX11_digits_51 : decode cX11_digits 51 = .ok (.iinc 7 1, 3) := by decide +kernel
theorem dX11_digits_54 : decode cX11_digits 54 = .ok (.goto (-20), 3) := by decide +kernel
theorem dX11_digits_57 : decode cX11_digits 57 = .ok (.dload 5, 2) := by decide +kernel
theorem dX11_digits_59 : decode cX11_digits 59 = .ok (.dconst 1, 1) := by decide +kernel
theorem dX11_digits_60 : decode cX11_digits 60 = .ok (.dcmp .g, 1) := by decide +kernel
theorem dX11_digits_61 : decode cX11_digits 61 = .ok (.ifCond .ge 23, 3) := by decide +kernel
theorem dX11_digits_64 : decode cX11_digits 64 = .ok (.iload 7, 2) := by decide +kernel
theorem dX11_digits_66 : decode cX11_digits 66 = .ok (.iload_n 3, 1) := by decide +kernel
theorem dX11_digits_67 : decode cX11_digits 67 = .ok (.if_icmp .le 17, 3) := by decide +kernel
theorem dX11_digits_70 : decode cX11_digits 70 = .ok (.dload 5, 2) := by decide +kernel
theorem dX11_digits_72 : decode cX11_digits 72 = .ok (.ldc2_w 84, 3) := by decide +kernel
theorem dX11_digits_75 : decode cX11_digits 75 = .ok (.dmul, 1) := by decide +kernel
theorem dX11_digits_76 : decode cX11_digits 76 = .ok (.dstore 5, 2) := by decide +kernel
theorem dX11_digits_78 : decode cX11_digits 78 = .ok (.iinc 7 (-1), 3) := by decide +kernel
theorem dX11_digits_81 : decode cX11_digits 81 = .ok (.goto (-24), 3) := by decide +kernel
theorem dX11_digits_84 : decode cX11_digits 84 = .ok (.lconst 1, 1) := by decide +kernel
theorem dX11_digits_85 : decode cX11_digits 85 = .ok (.iload_n 2, 1) := by decide +kernel
theorem dX11_digits_86 : decode cX11_digits 86 = .ok (.lshl, 1) := by decide +kernel
theorem dX11_digits_87 : decode cX11_digits 87 = .ok (.l2d, 1) := by decide +kernel
theorem dX11_digits_88 : decode cX11_digits 88 = .ok (.dstore 8, 2) := by decide +kernel
theorem dX11_digits_90 : decode cX11_digits 90 = .ok (.dload 5, 2) := by decide +kernel
theorem dX11_digits_92 : decode cX11_digits 92 = .ok (.dconst 1, 1) := by decide +kernel
theorem dX11_digits_93 : decode cX11_digits 93 = .ok (.dcmp .g, 1) := by decide +kernel
theorem dX11_digits_94 : decode cX11_digits 94 = .ok (.ifCond .ge 10, 3) := by decide +kernel
theorem dX11_digits_97 : decode cX11_digits 97 = .ok (.dload 5, 2) := by decide +kernel
theorem dX11_digits_99 : decode cX11_digits 99 = .ok (.dload 8, 2) := by decide +kernel
theorem dX11_digits_101 : decode cX11_digits 101 = .ok (.dmul, 1) := by decide +kernel
theorem dX11_digits_102 : decode cX11_digits 102 = .ok (.d2l, 1) := by decide +kernel
theorem dX11_digits_103 : decode cX11_digits 103 = .ok (.lreturn, 1) := by decide +kernel
theorem dX11_digits_104 : decode cX11_digits 104 = .ok (.iload 7, 2) := by decide +kernel
theorem dX11_digits_106 : decode cX11_digits 106 = .ok (.iload 4, 2) := by decide +kernel
theorem dX11_digits_108 : decode cX11_digits 108 = .ok (.iadd, 1) := by decide +kernel
theorem dX11_digits_109 : decode cX11_digits 109 = .ok (.i2l, 1) := by decide +kernel
theorem dX11_digits_110 : decode cX11_digits 110 = .ok (.iload_n 2, 1) := by decide +kernel
theorem dX11_digits_111 : decode cX11_digits 111 = .ok (.lshl, 1) := by decide +kernel
theorem dX11_digits_112 : decode cX11_digits 112 = .ok (.dload 5, 2) := by decide +kernel
theorem dX11_digits_114 : decode cX11_digits 114 = .ok (.dconst 1, 1) := by decide +kernel
theorem dX11_digits_115 : decode cX11_digits 115 = .ok (.dsub, 1) := by decide +kernel
theorem dX11_digits_116 : decode cX11_digits 116 = .ok (.dload 8, 2) := by decide +kernel
theorem dX11_digits_118 : decode cX11_digits 118 = .ok (.dmul, 1) := by decide +kernel
theorem dX11_digits_119 : decode cX11_digits 119 = .ok (.d2l, 1) := by decide +kernel
theorem dX11_digits_120 : decode cX11_digits 120 = .ok (.lor, 1) := by decide +kernel
theorem dX11_digits_121 : decode cX11_digits 121 = .ok (.lreturn, 1) := by decide +kernel
theorem dX11_bits_0 : decode cX11_bits 0 = .ok (.aload_n 0, 1) := by decide +kernel
theorem dX11_bits_1 : decode cX11_bits 1 = .ok (.iload_n 1, 1) := by decide +kernel
theorem dX11_bits_2 : decode cX11_bits 2 = .ok (.iload_n 2, 1) := by decide +kernel
theorem dX11_bits_3 : decode cX11_bits 3 = .ok (.invokevirtual 242, 3) := by decide +kernel
theorem dX11_bits_6 : decode cX11_bits 6 = .ok (.ifCond .eq 17, 3) := by decide +kernel
theorem dX11_bits_9 : decode cX11_bits 9 = .ok (.aload_n 0, 1) := by decide +kernel
theorem dX11_bits_10 : decode cX11_bits 10 = .ok (.getfield 29, 3) := by decide +kernel
theorem dX11_bits_13 : decode cX11_bits 13 = .ok (.bipush 16, 2) := by decide +kernel
theorem dX11_bits_15 : decode cX11_bits 15 = .ok (.iload_n 1, 1) := by decide +kernel
theorem dX11_bits_16 : decode cX11_bits 16 = .ok (.imul, 1) := by decide +kernel
theorem dX11_bits_17 : decode cX11_bits 17 = .ok (.iload_n 2, 1) := by decide +kernel
theorem dX11_bits_18 : decode cX11_bits 18 = .ok (.iadd, 1) := by decide +kernel
theorem dX11_bits_19 : decode cX11_bits 19 = .ok (.baload, 1) := by decide +kernel
theorem dX11_bits_20 : decode cX11_bits 20 = .ok (.ifCond .eq 5, 3) := by decide +kernel
theorem dX11_bits_23 : decode cX11_bits 23 = .ok (.lconst 0, 1) := by decide +kernel
theorem dX11_bits_24 : decode cX11_bits 24 = .ok (.lreturn, 1) := by decide +kernel
theorem dX11_bits_25 : decode cX11_bits 25 = .ok (.aload_n 0, 1) := by decide +kernel
theorem dX11_bits_26 : decode cX11_bits 26 = .ok (.getfield 26, 3) := by decide +kernel
theorem dX11_bits_29 : decode cX11_bits 29 = .ok (.bipush 16, 2) := by decide +kernel
theorem dX11_bits_31 : decode cX11_bits 31 = .ok (.iload_n 1, 1) := by decide +kernel
theorem dX11_bits_32 : decode cX11_bits 32 = .ok (.imul, 1) := by decide +kernel
theorem dX11_bits_33 : decode cX11_bits 33 = .ok (.iload_n 2, 1) := by decide +kernel
theorem dX11_bits_34 : decode cX11_bits 34 = .ok (.iadd, 1) := by decide +kernel
theorem dX11_bits_35 : decode cX11_bits 35 = .ok (.daload, 1) := by decide +kernel
theorem dX11_bits_36 : decode cX11_bits 36 = .ok (.dstore_n 3, 1) := by decide +kernel
theorem dX11_bits_37 : decode cX11_bits 37 = .ok (.dload_n 3, 1) := by decide +kernel
theorem dX11_bits_38 : decode cX11_bits 38 = .ok (.invokestatic 67, 3) := by decide +kernel
theorem dX11_bits_41 : decode cX11_bits 41 = .ok (.ifCond .eq 8, 3) := by decide +kernel
theorem dX11_bits_44 : decode cX11_bits 44 = .ok (.dload_n 3, 1) := by decide +kernel
theorem dX11_bits_45 : decode cX11_bits 45 = .ok (.dneg, 1) := by decide +kernel
theorem dX11_bits_46 : decode cX11_bits 46 = .ok (.goto 4, 3) := by decide +kernel
theorem dX11_bits_49 : decode cX11_bits 49 = .ok (.dload_n 3, 1) := by decide +kernel
theorem dX11_bits_50 : decode cX11_bits 50 = .ok (.dstore 5, 2) := by decide +kernel
theorem dX11_bits_52 : decode cX11_bits 52 = .ok (.aload_n 0, 1) := by decide +kernel
theorem dX11_bits_53 : decode cX11_bits 53 = .ok (.getfield 19, 3) := by decide +kernel
theorem dX11_bits_56 : decode cX11_bits 56 = .ok (.iload_n 1, 1) := by decide +kernel
theorem dX11_bits_57 : decode cX11_bits 57 = .ok (.baload, 1) := by decide +kernel
theorem dX11_bits_58 : decode cX11_bits 58 = .ok (.ifCond .eq 37, 3) := by decide +kernel
theorem dX11_bits_61 : decode cX11_bits 61 = .ok (.dload 5, 2) := by decide +kernel
theorem dX11_bits_63 : decode cX11_bits 63 = .ok (.bipush 23, 2) := by decide +kernel
theorem dX11_bits_65 : decode cX11_bits 65 = .ok (.bipush (-126), 2) := by decide +kernel
theorem dX11_bits_67 : decode cX11_bits 67 = .ok (.bipush 127, 2) := by decide +kernel
theorem dX11_bits_69 : decode cX11_bits 69 = .ok (.invokestatic 247, 3) := by decide +kernel
theorem dX11_bits_72 : decode cX11_bits 72 = .ok (.l2i, 1) := by decide +kernel
theorem dX11_bits_73 : decode cX11_bits 73 = .ok (.istore 7, 2) := by decide +kernel
theorem dX11_bits_75 : decode cX11_bits 75 = .ok (.dload_n 3, 1) := by decide +kernel
theorem dX11_bits_76 : decode cX11_bits 76 = .ok (.invokestatic 67, 3) := by decide +kernel
theorem dX11_bits_79 : decode cX11_bits 79 = .ok (.ifCond .eq 12, 3) := by decide +kernel
theorem dX11_bits_82 : decode cX11_bits 82 = .ok (.iload 7, 2) := by decide +kernel
theorem dX11_bits_84 : decode cX11_bits 84 = .ok (.ldc 251, 2) := by decide +kernel
theorem dX11_bits_86 : decode cX11_bits 86 = .ok (.ior, 1) := by decide +kernel
theorem dX11_bits_87 : decode cX11_bits 87 = .ok (.i2l, 1) := by decide +kernel
theorem dX11_bits_88 : decode cX11_bits 88 = .ok (.goto 6, 3) := by decide +kernel
theorem dX11_bits_91 : decode cX11_bits 91 = .ok (.iload 7, 2) := by decide +kernel
theorem dX11_bits_93 : decode cX11_bits 93 = .ok (.i2l, 1) := by decide +kernel
theorem dX11_bits_94 : decode cX11_bits 94 = .ok (.lreturn, 1) := by decide +kernel
theorem dX11_bits_95 : decode cX11_bits 95 = .ok (.dload 5, 2) := by decide +kernel
theorem dX11_bits_97 : decode cX11_bits 97 = .ok (.bipush 52, 2) := by decide +kernel
theorem dX11_bits_99 : decode cX11_bits 99 = .ok (.sipush (-1022), 3) := by decide +kernel
theorem dX11_bits_102 : decode cX11_bits 102 = .ok (.sipush 1023, 3) := by decide +kernel
theorem dX11_bits_105 : decode cX11_bits 105 = .ok (.invokestatic 247, 3) := by decide +kernel
theorem dX11_bits_108 : decode cX11_bits 108 = .ok (.lstore 7, 2) := by decide +kernel
theorem dX11_bits_110 : decode cX11_bits 110 = .ok (.dload_n 3, 1) := by decide +kernel
theorem dX11_bits_111 : decode cX11_bits 111 = .ok (.invokestatic 67, 3) := by decide +kernel
theorem dX11_bits_114 : decode cX11_bits 114 = .ok (.ifCond .eq 12, 3) := by decide +kernel
theorem dX11_bits_117 : decode cX11_bits 117 = .ok (.lload 7, 2) := by decide +kernel
theorem dX11_bits_119 : decode cX11_bits 119 = .ok (.ldc2_w 252, 3) := by decide +kernel
theorem dX11_bits_122 : decode cX11_bits 122 = .ok (.lor, 1) := by decide +kernel
theorem dX11_bits_123 : decode cX11_bits 123 = .ok (.goto 5, 3) := by decide +kernel
theorem dX11_bits_126 : decode cX11_bits 126 = .ok (.lload 7, 2) := by decide +kernel
theorem dX11_bits_128 : decode cX11_bits 128 = .ok (.lreturn, 1) := by decide +kernel
theorem dX11_compared_0 : decode cX11_compared 0 = .ok (.iload_n 1, 1) := by decide +kernel
theorem dX11_compared_1 : decode cX11_compared 1 = .ok (.iconst 0, 1) := by decide +kernel
theorem dX11_compared_2 : decode cX11_compared 2 = .ok (.bipush 11, 2) := by decide +kernel
theorem dX11_compared_4 : decode cX11_compared 4 = .ok (.invokestatic 191, 3) := by decide +kernel
theorem dX11_compared_7 : decode cX11_compared 7 = .ok (.ifCond .eq 23, 3) := by decide +kernel
theorem dX11_compared_10 : decode cX11_compared 10 = .ok (.iload_n 3, 1) := by decide +kernel
theorem dX11_compared_11 : decode cX11_compared 11 = .ok (.iconst 0, 1) := by decide +kernel
theorem dX11_compared_12 : decode cX11_compared 12 = .ok (.bipush 11, 2) := by decide +kernel
theorem dX11_compared_14 : decode cX11_compared 14 = .ok (.invokestatic 191, 3) := by decide +kernel
theorem dX11_compared_17 : decode cX11_compared 17 = .ok (.ifCond .eq 13, 3) := by decide +kernel
theorem dX11_compared_20 : decode cX11_compared 20 = .ok (.iload_n 2, 1) := by decide +kernel
theorem dX11_compared_21 : decode cX11_compared 21 = .ok (.iconst 0, 1) := by decide +kernel
theorem dX11_compared_22 : decode cX11_compared 22 = .ok (.bipush 11, 2) := by decide +kernel
theorem dX11_compared_24 : decode cX11_compared 24 = .ok (.invokestatic 191, 3) := by decide +kernel
theorem dX11_compared_27 : decode cX11_compared 27 = .ok (.ifCond .ne 5, 3) := by decide +kernel
theorem dX11_compared_30 : decode cX11_compared 30 = .ok (.iconst (-1), 1) := by decide +kernel
theorem dX11_compared_31 : decode cX11_compared 31 = .ok (.ireturn, 1) := by decide +kernel
theorem dX11_compared_32 : decode cX11_compared 32 = .ok (.aload_n 0, 1) := by decide +kernel
theorem dX11_compared_33 : decode cX11_compared 33 = .ok (.invokevirtual 226, 3) := by decide +kernel
theorem dX11_compared_36 : decode cX11_compared 36 = .ok (.iconst 0, 1) := by decide +kernel
theorem dX11_compared_37 : decode cX11_compared 37 = .ok (.istore 4, 2) := by decide +kernel
theorem dX11_compared_39 : decode cX11_compared 39 = .ok (.iconst 0, 1) := by decide +kernel
theorem dX11_compared_40 : decode cX11_compared 40 = .ok (.istore 5, 2) := by decide +kernel
theorem dX11_compared_42 : decode cX11_compared 42 = .ok (.iload 5, 2) := by decide +kernel
theorem dX11_compared_44 : decode cX11_compared 44 = .ok (.bipush 16, 2) := by decide +kernel
theorem dX11_compared_46 : decode cX11_compared 46 = .ok (.if_icmp .ge 72, 3) := by decide +kernel
theorem dX11_compared_49 : decode cX11_compared 49 = .ok (.bipush 16, 2) := by decide +kernel
theorem dX11_compared_51 : decode cX11_compared 51 = .ok (.iload_n 1, 1) := by decide +kernel
theorem dX11_compared_52 : decode cX11_compared 52 = .ok (.imul, 1) := by decide +kernel
theorem dX11_compared_53 : decode cX11_compared 53 = .ok (.iload 5, 2) := by decide +kernel
theorem dX11_compared_55 : decode cX11_compared 55 = .ok (.iadd, 1) := by decide +kernel
theorem dX11_compared_56 : decode cX11_compared 56 = .ok (.istore 6, 2) := by decide +kernel
theorem dX11_compared_58 : decode cX11_compared 58 = .ok (.bipush 16, 2) := by decide +kernel
theorem dX11_compared_60 : decode cX11_compared 60 = .ok (.iload_n 3, 1) := by decide +kernel
theorem dX11_compared_61 : decode cX11_compared 61 = .ok (.imul, 1) := by decide +kernel
theorem dX11_compared_62 : decode cX11_compared 62 = .ok (.iload 5, 2) := by decide +kernel
theorem dX11_compared_64 : decode cX11_compared 64 = .ok (.iadd, 1) := by decide +kernel
theorem dX11_compared_65 : decode cX11_compared 65 = .ok (.istore 7, 2) := by decide +kernel
theorem dX11_compared_67 : decode cX11_compared 67 = .ok (.iload 4, 2) := by decide +kernel
theorem dX11_compared_69 : decode cX11_compared 69 = .ok (.iload_n 2, 1) := by decide +kernel
theorem dX11_compared_70 : decode cX11_compared 70 = .ok (.aload_n 0, 1) := by decide +kernel
theorem dX11_compared_71 : decode cX11_compared 71 = .ok (.getfield 26, 3) := by decide +kernel
theorem dX11_compared_74 : decode cX11_compared 74 = .ok (.iload 6, 2) := by decide +kernel
theorem dX11_compared_76 : decode cX11_compared 76 = .ok (.daload, 1) := by decide +kernel
theorem dX11_compared_77 : decode cX11_compared 77 = .ok (.aload_n 0, 1) := by decide +kernel
theorem dX11_compared_78 : decode cX11_compared 78 = .ok (.getfield 29, 3) := by decide +kernel
theorem dX11_compared_81 : decode cX11_compared 81 = .ok (.iload 6, 2) := by decide +kernel
theorem dX11_compared_83 : decode cX11_compared 83 = .ok (.baload, 1) := by decide +kernel
theorem dX11_compared_84 : decode cX11_compared 84 = .ok (.aload_n 0, 1) := by decide +kernel
theorem dX11_compared_85 : decode cX11_compared 85 = .ok (.getfield 26, 3) := by decide +kernel
theorem dX11_compared_88 : decode cX11_compared 88 = .ok (.iload 7, 2) := by decide +kernel
theorem dX11_compared_90 : decode cX11_compared 90 = .ok (.daload, 1) := by decide +kernel
theorem dX11_compared_91 : decode cX11_compared 91 = .ok (.aload_n 0, 1) := by decide +kernel
theorem dX11_compared_92 : decode cX11_compared 92 = .ok (.getfield 29, 3) := by decide +kernel
theorem dX11_compared_95 : decode cX11_compared 95 = .ok (.iload 7, 2) := by decide +kernel
theorem dX11_compared_97 : decode cX11_compared 97 = .ok (.baload, 1) := by decide +kernel
theorem dX11_compared_98 : decode cX11_compared 98 = .ok (.invokestatic 150, 3) := by decide +kernel
theorem dX11_compared_101 : decode cX11_compared 101 = .ok (.ifCond .eq 7, 3) := by decide +kernel
theorem dX11_compared_104 : decode cX11_compared 104 = .ok (.iconst 1, 1) := by decide +kernel
theorem dX11_compared_105 : decode cX11_compared 105 = .ok (.goto 4, 3) := by decide +kernel
theorem dX11_compared_108 : decode cX11_compared 108 = .ok (.iconst 0, 1) := by decide +kernel
theorem dX11_compared_109 : decode cX11_compared 109 = .ok (.iadd, 1) := by decide +kernel
theorem dX11_compared_110 : decode cX11_compared 110 = .ok (.istore 4, 2) := by decide +kernel
theorem dX11_compared_112 : decode cX11_compared 112 = .ok (.iinc 5 1, 3) := by decide +kernel
theorem dX11_compared_115 : decode cX11_compared 115 = .ok (.goto (-73), 3) := by decide +kernel
theorem dX11_compared_118 : decode cX11_compared 118 = .ok (.iload 4, 2) := by decide +kernel
theorem dX11_compared_120 : decode cX11_compared 120 = .ok (.ireturn, 1) := by decide +kernel
theorem dX11_told_0 : decode cX11_told 0 = .ok (.iload_n 1, 1) := by decide +kernel
theorem dX11_told_1 : decode cX11_told 1 = .ok (.bipush 12, 2) := by decide +kernel
theorem dX11_told_3 : decode cX11_told 3 = .ok (.if_icmp .ne 40, 3) := by decide +kernel
theorem dX11_told_6 : decode cX11_told 6 = .ok (.iload_n 2, 1) := by decide +kernel
theorem dX11_told_7 : decode cX11_told 7 = .ok (.ifCond .ne 10, 3) := by decide +kernel
theorem dX11_told_10 : decode cX11_told 10 = .ok (.aload_n 0, 1) := by decide +kernel
theorem dX11_told_11 : decode cX11_told 11 = .ok (.getfield 187, 3) := by decide +kernel
theorem dX11_told_14 : decode cX11_told 14 = .ok (.goto 28, 3) := by decide +kernel
theorem dX11_told_17 : decode cX11_told 17 = .ok (.iload_n 2, 1) := by decide +kernel
theorem dX11_told_18 : decode cX11_told 18 = .ok (.iconst 1, 1) := by decide +kernel
theorem dX11_told_19 : decode cX11_told 19 = .ok (.if_icmp .ne 10, 3) := by decide +kernel
theorem dX11_told_22 : decode cX11_told 22 = .ok (.aload_n 0, 1) := by decide +kernel
theorem dX11_told_23 : decode cX11_told 23 = .ok (.getfield 229, 3) := by decide +kernel
theorem dX11_told_26 : decode cX11_told 26 = .ok (.goto 16, 3) := by decide +kernel
theorem dX11_told_29 : decode cX11_told 29 = .ok (.iload_n 2, 1) := by decide +kernel
theorem dX11_told_30 : decode cX11_told 30 = .ok (.iconst 2, 1) := by decide +kernel
theorem dX11_told_31 : decode cX11_told 31 = .ok (.if_icmp .ne 10, 3) := by decide +kernel
theorem dX11_told_34 : decode cX11_told 34 = .ok (.aload_n 0, 1) := by decide +kernel
theorem dX11_told_35 : decode cX11_told 35 = .ok (.getfield 239, 3) := by decide +kernel
theorem dX11_told_38 : decode cX11_told 38 = .ok (.goto 4, 3) := by decide +kernel
theorem dX11_told_41 : decode cX11_told 41 = .ok (.iconst (-1), 1) := by decide +kernel
theorem dX11_told_42 : decode cX11_told 42 = .ok (.ireturn, 1) := by decide +kernel
theorem dX11_told_43 : decode cX11_told 43 = .ok (.iload_n 1, 1) := by decide +kernel
theorem dX11_told_44 : decode cX11_told 44 = .ok (.iconst 0, 1) := by decide +kernel
theorem dX11_told_45 : decode cX11_told 45 = .ok (.bipush 11, 2) := by decide +kernel
theorem dX11_told_47 : decode cX11_told 47 = .ok (.invokestatic 191, 3) := by decide +kernel
theorem dX11_told_50 : decode cX11_told 50 = .ok (.ifCond .ne 5, 3) := by decide +kernel
theorem dX11_told_53 : decode cX11_told 53 = .ok (.iconst (-1), 1) := by decide +kernel
theorem dX11_told_54 : decode cX11_told 54 = .ok (.ireturn, 1) := by decide +kernel
theorem dX11_told_55 : decode cX11_told 55 = .ok (.iload_n 2, 1) := by decide +kernel
theorem dX11_told_56 : decode cX11_told 56 = .ok (.tableswitch 111 0 3 #[32, 49, 64, 102], 32) := by decide +kernel
theorem dX11_told_88 : decode cX11_told 88 = .ok (.aload_n 0, 1) := by decide +kernel
theorem dX11_told_89 : decode cX11_told 89 = .ok (.getfield 22, 3) := by decide +kernel
theorem dX11_told_92 : decode cX11_told 92 = .ok (.iconst 4, 1) := by decide +kernel
theorem dX11_told_93 : decode cX11_told 93 = .ok (.iload_n 1, 1) := by decide +kernel
theorem dX11_told_94 : decode cX11_told 94 = .ok (.imul, 1) := by decide +kernel
theorem dX11_told_95 : decode cX11_told 95 = .ok (.iaload, 1) := by decide +kernel
theorem dX11_told_96 : decode cX11_told 96 = .ok (.ifCond .ge 7, 3) := by decide +kernel
theorem dX11_told_99 : decode cX11_told 99 = .ok (.iconst 0, 1) := by decide +kernel
theorem dX11_told_100 : decode cX11_told 100 = .ok (.goto 4, 3) := by decide +kernel
theorem dX11_told_103 : decode cX11_told 103 = .ok (.iconst 1, 1) := by decide +kernel
theorem dX11_told_104 : decode cX11_told 104 = .ok (.ireturn, 1) := by decide +kernel
theorem dX11_told_105 : decode cX11_told 105 = .ok (.aload_n 0, 1) := by decide +kernel
theorem dX11_told_106 : decode cX11_told 106 = .ok (.getfield 19, 3) := by decide +kernel
theorem dX11_told_109 : decode cX11_told 109 = .ok (.iload_n 1, 1) := by decide +kernel
theorem dX11_told_110 : decode cX11_told 110 = .ok (.baload, 1) := by decide +kernel
theorem dX11_told_111 : decode cX11_told 111 = .ok (.ifCond .eq 7, 3) := by decide +kernel
theorem dX11_told_114 : decode cX11_told 114 = .ok (.iconst 1, 1) := by decide +kernel
theorem dX11_told_115 : decode cX11_told 115 = .ok (.goto 4, 3) := by decide +kernel
theorem dX11_told_118 : decode cX11_told 118 = .ok (.iconst 0, 1) := by decide +kernel
theorem dX11_told_119 : decode cX11_told 119 = .ok (.ireturn, 1) := by decide +kernel
theorem dX11_told_120 : decode cX11_told 120 = .ok (.iconst 0, 1) := by decide +kernel
theorem dX11_told_121 : decode cX11_told 121 = .ok (.istore_n 3, 1) := by decide +kernel
theorem dX11_told_122 : decode cX11_told 122 = .ok (.iconst 0, 1) := by decide +kernel
theorem dX11_told_123 : decode cX11_told 123 = .ok (.istore 4, 2) := by decide +kernel
theorem dX11_told_125 : decode cX11_told 125 = .ok (.iload 4, 2) := by decide +kernel
theorem dX11_told_127 : decode cX11_told 127 = .ok (.bipush 16, 2) := by decide +kernel
theorem dX11_told_129 : decode cX11_told 129 = .ok (.if_icmp .ge 27, 3) := by decide +kernel
theorem dX11_told_132 : decode cX11_told 132 = .ok (.iload_n 3, 1) := by decide +kernel
theorem dX11_told_133 : decode cX11_told 133 = .ok (.aload_n 0, 1) := by decide +kernel
theorem dX11_told_134 : decode cX11_told 134 = .ok (.iload_n 1, 1) := by decide +kernel
theorem dX11_told_135 : decode cX11_told 135 = .ok (.iload 4, 2) := by decide +kernel
theorem dX11_told_137 : decode cX11_told 137 = .ok (.invokevirtual 254, 3) := by decide +kernel
theorem dX11_told_140 : decode cX11_told 140 = .ok (.ifCond .eq 7, 3) := by decide +kernel
theorem dX11_told_143 : decode cX11_told 143 = .ok (.iconst 1, 1) := by decide +kernel
theorem dX11_told_144 : decode cX11_told 144 = .ok (.goto 4, 3) := by decide +kernel
theorem dX11_told_147 : decode cX11_told 147 = .ok (.iconst 0, 1) := by decide +kernel
theorem dX11_told_148 : decode cX11_told 148 = .ok (.iadd, 1) := by decide +kernel
theorem dX11_told_149 : decode cX11_told 149 = .ok (.istore_n 3, 1) := by decide +kernel
theorem dX11_told_150 : decode cX11_told 150 = .ok (.iinc 4 1, 3) := by decide +kernel
theorem dX11_told_153 : decode cX11_told 153 = .ok (.goto (-28), 3) := by decide +kernel
theorem dX11_told_156 : decode cX11_told 156 = .ok (.iload_n 3, 1) := by decide +kernel
theorem dX11_told_157 : decode cX11_told 157 = .ok (.ireturn, 1) := by decide +kernel
theorem dX11_told_158 : decode cX11_told 158 = .ok (.aload_n 0, 1) := by decide +kernel
theorem dX11_told_159 : decode cX11_told 159 = .ok (.getfield 22, 3) := by decide +kernel
theorem dX11_told_162 : decode cX11_told 162 = .ok (.iconst 4, 1) := by decide +kernel
theorem dX11_told_163 : decode cX11_told 163 = .ok (.iload_n 1, 1) := by decide +kernel
theorem dX11_told_164 : decode cX11_told 164 = .ok (.imul, 1) := by decide +kernel
theorem dX11_told_165 : decode cX11_told 165 = .ok (.iaload, 1) := by decide +kernel
theorem dX11_told_166 : decode cX11_told 166 = .ok (.ireturn, 1) := by decide +kernel
theorem dX11_told_167 : decode cX11_told 167 = .ok (.iconst (-1), 1) := by decide +kernel
theorem dX11_told_168 : decode cX11_told 168 = .ok (.ireturn, 1) := by decide +kernel
theorem dJ6_bitCount_0f7a4_0 : decode cJ6_bitCount_0f7a4 0 = .ok (.iload_n 0, 1) := by decide +kernel
theorem dJ6_bitCount_0f7a4_1 : decode cJ6_bitCount_0f7a4 1 = .ok (.iload_n 0, 1) := by decide +kernel
theorem dJ6_bitCount_0f7a4_2 : decode cJ6_bitCount_0f7a4 2 = .ok (.iconst 1, 1) := by decide +kernel
theorem dJ6_bitCount_0f7a4_3 : decode cJ6_bitCount_0f7a4 3 = .ok (.iushr, 1) := by decide +kernel
theorem dJ6_bitCount_0f7a4_4 : decode cJ6_bitCount_0f7a4 4 = .ok (.ldc_w 265, 3) := by decide +kernel
theorem dJ6_bitCount_0f7a4_7 : decode cJ6_bitCount_0f7a4 7 = .ok (.iand, 1) := by decide +kernel
theorem dJ6_bitCount_0f7a4_8 : decode cJ6_bitCount_0f7a4 8 = .ok (.isub, 1) := by decide +kernel
theorem dJ6_bitCount_0f7a4_9 : decode cJ6_bitCount_0f7a4 9 = .ok (.istore_n 0, 1) := by decide +kernel
theorem dJ6_bitCount_0f7a4_10 : decode cJ6_bitCount_0f7a4 10 = .ok (.iload_n 0, 1) := by decide +kernel
theorem dJ6_bitCount_0f7a4_11 : decode cJ6_bitCount_0f7a4 11 = .ok (.ldc_w 266, 3) := by decide +kernel
theorem dJ6_bitCount_0f7a4_14 : decode cJ6_bitCount_0f7a4 14 = .ok (.iand, 1) := by decide +kernel
theorem dJ6_bitCount_0f7a4_15 : decode cJ6_bitCount_0f7a4 15 = .ok (.iload_n 0, 1) := by decide +kernel
theorem dJ6_bitCount_0f7a4_16 : decode cJ6_bitCount_0f7a4 16 = .ok (.iconst 2, 1) := by decide +kernel
theorem dJ6_bitCount_0f7a4_17 : decode cJ6_bitCount_0f7a4 17 = .ok (.iushr, 1) := by decide +kernel
theorem dJ6_bitCount_0f7a4_18 : decode cJ6_bitCount_0f7a4 18 = .ok (.ldc_w 266, 3) := by decide +kernel
theorem dJ6_bitCount_0f7a4_21 : decode cJ6_bitCount_0f7a4 21 = .ok (.iand, 1) := by decide +kernel
theorem dJ6_bitCount_0f7a4_22 : decode cJ6_bitCount_0f7a4 22 = .ok (.iadd, 1) := by decide +kernel
theorem dJ6_bitCount_0f7a4_23 : decode cJ6_bitCount_0f7a4 23 = .ok (.istore_n 0, 1) := by decide +kernel
theorem dJ6_bitCount_0f7a4_24 : decode cJ6_bitCount_0f7a4 24 = .ok (.iload_n 0, 1) := by decide +kernel
theorem dJ6_bitCount_0f7a4_25 : decode cJ6_bitCount_0f7a4 25 = .ok (.iload_n 0, 1) := by decide +kernel
theorem dJ6_bitCount_0f7a4_26 : decode cJ6_bitCount_0f7a4 26 = .ok (.iconst 4, 1) := by decide +kernel
theorem dJ6_bitCount_0f7a4_27 : decode cJ6_bitCount_0f7a4 27 = .ok (.iushr, 1) := by decide +kernel
theorem dJ6_bitCount_0f7a4_28 : decode cJ6_bitCount_0f7a4 28 = .ok (.iadd, 1) := by decide +kernel
theorem dJ6_bitCount_0f7a4_29 : decode cJ6_bitCount_0f7a4 29 = .ok (.ldc_w 267, 3) := by decide +kernel
theorem dJ6_bitCount_0f7a4_32 : decode cJ6_bitCount_0f7a4 32 = .ok (.iand, 1) := by decide +kernel
theorem dJ6_bitCount_0f7a4_33 : decode cJ6_bitCount_0f7a4 33 = .ok (.istore_n 0, 1) := by decide +kernel
theorem dJ6_bitCount_0f7a4_34 : decode cJ6_bitCount_0f7a4 34 = .ok (.iload_n 0, 1) := by decide +kernel
theorem dJ6_bitCount_0f7a4_35 : decode cJ6_bitCount_0f7a4 35 = .ok (.iload_n 0, 1) := by decide +kernel
theorem dJ6_bitCount_0f7a4_36 : decode cJ6_bitCount_0f7a4 36 = .ok (.bipush 8, 2) := by decide +kernel
theorem dJ6_bitCount_0f7a4_38 : decode cJ6_bitCount_0f7a4 38 = .ok (.iushr, 1) := by decide +kernel
theorem dJ6_bitCount_0f7a4_39 : decode cJ6_bitCount_0f7a4 39 = .ok (.iadd, 1) := by decide +kernel
theorem dJ6_bitCount_0f7a4_40 : decode cJ6_bitCount_0f7a4 40 = .ok (.istore_n 0, 1) := by decide +kernel
theorem dJ6_bitCount_0f7a4_41 : decode cJ6_bitCount_0f7a4 41 = .ok (.iload_n 0, 1) := by decide +kernel
theorem dJ6_bitCount_0f7a4_42 : decode cJ6_bitCount_0f7a4 42 = .ok (.iload_n 0, 1) := by decide +kernel
theorem dJ6_bitCount_0f7a4_43 : decode cJ6_bitCount_0f7a4 43 = .ok (.bipush 16, 2) := by decide +kernel
theorem dJ6_bitCount_0f7a4_45 : decode cJ6_bitCount_0f7a4 45 = .ok (.iushr, 1) := by decide +kernel
theorem dJ6_bitCount_0f7a4_46 : decode cJ6_bitCount_0f7a4 46 = .ok (.iadd, 1) := by decide +kernel
theorem dJ6_bitCount_0f7a4_47 : decode cJ6_bitCount_0f7a4 47 = .ok (.istore_n 0, 1) := by decide +kernel
theorem dJ6_bitCount_0f7a4_48 : decode cJ6_bitCount_0f7a4 48 = .ok (.iload_n 0, 1) := by decide +kernel
theorem dJ6_bitCount_0f7a4_49 : decode cJ6_bitCount_0f7a4 49 = .ok (.bipush 63, 2) := by decide +kernel
theorem dJ6_bitCount_0f7a4_51 : decode cJ6_bitCount_0f7a4 51 = .ok (.iand, 1) := by decide +kernel
theorem dJ6_bitCount_0f7a4_52 : decode cJ6_bitCount_0f7a4 52 = .ok (.ireturn, 1) := by decide +kernel
theorem dJ9_max_7cf53_0 : decode cJ9_max_7cf53 0 = .ok (.iload_n 0, 1) := by decide +kernel
theorem dJ9_max_7cf53_1 : decode cJ9_max_7cf53 1 = .ok (.iload_n 1, 1) := by decide +kernel
theorem dJ9_max_7cf53_2 : decode cJ9_max_7cf53 2 = .ok (.if_icmp .lt 7, 3) := by decide +kernel
theorem dJ9_max_7cf53_5 : decode cJ9_max_7cf53 5 = .ok (.iload_n 0, 1) := by decide +kernel
theorem dJ9_max_7cf53_6 : decode cJ9_max_7cf53 6 = .ok (.goto 4, 3) := by decide +kernel
theorem dJ9_max_7cf53_9 : decode cJ9_max_7cf53 9 = .ok (.iload_n 1, 1) := by decide +kernel
theorem dJ9_max_7cf53_10 : decode cJ9_max_7cf53 10 = .ok (.ireturn, 1) := by decide +kernel
theorem dJ9_min_7cf53_0 : decode cJ9_min_7cf53 0 = .ok (.iload_n 0, 1) := by decide +kernel
theorem dJ9_min_7cf53_1 : decode cJ9_min_7cf53 1 = .ok (.iload_n 1, 1) := by decide +kernel
theorem dJ9_min_7cf53_2 : decode cJ9_min_7cf53 2 = .ok (.if_icmp .gt 7, 3) := by decide +kernel
theorem dJ9_min_7cf53_5 : decode cJ9_min_7cf53 5 = .ok (.iload_n 0, 1) := by decide +kernel
theorem dJ9_min_7cf53_6 : decode cJ9_min_7cf53 6 = .ok (.goto 4, 3) := by decide +kernel
theorem dJ9_min_7cf53_9 : decode cJ9_min_7cf53 9 = .ok (.iload_n 1, 1) := by decide +kernel
theorem dJ9_min_7cf53_10 : decode cJ9_min_7cf53 10 = .ok (.ireturn, 1) := by decide +kernel
theorem dL_law_0 : decode cL_law 0 = .ok (.new 7, 3) := by decide +kernel
theorem dL_law_3 : decode cL_law 3 = .ok (.dup, 1) := by decide +kernel
theorem dL_law_4 : decode cL_law 4 = .ok (.invokespecial 9, 3) := by decide +kernel
theorem dL_law_7 : decode cL_law 7 = .ok (.astore_n 1, 1) := by decide +kernel
theorem dL_law_8 : decode cL_law 8 = .ok (.new 10, 3) := by decide +kernel
theorem dL_law_11 : decode cL_law 11 = .ok (.dup, 1) := by decide +kernel
theorem dL_law_12 : decode cL_law 12 = .ok (.invokespecial 12, 3) := by decide +kernel
theorem dL_law_15 : decode cL_law 15 = .ok (.astore_n 2, 1) := by decide +kernel
theorem dL_law_16 : decode cL_law 16 = .ok (.iconst 0, 1) := by decide +kernel
theorem dL_law_17 : decode cL_law 17 = .ok (.istore_n 3, 1) := by decide +kernel
theorem dL_law_18 : decode cL_law 18 = .ok (.iload_n 3, 1) := by decide +kernel
theorem dL_law_19 : decode cL_law 19 = .ok (.aload_n 0, 1) := by decide +kernel
theorem dL_law_20 : decode cL_law 20 = .ok (.arraylength, 1) := by decide +kernel
theorem dL_law_21 : decode cL_law 21 = .ok (.bipush 6, 2) := by decide +kernel
theorem dL_law_23 : decode cL_law 23 = .ok (.isub, 1) := by decide +kernel
theorem dL_law_24 : decode cL_law 24 = .ok (.if_icmp .gt 744, 3) := by decide +kernel
theorem dL_law_27 : decode cL_law 27 = .ok (.aload_n 0, 1) := by decide +kernel
theorem dL_law_28 : decode cL_law 28 = .ok (.iload_n 3, 1) := by decide +kernel
theorem dL_law_29 : decode cL_law 29 = .ok (.iaload, 1) := by decide +kernel
theorem dL_law_30 : decode cL_law 30 = .ok (.bipush 31, 2) := by decide +kernel
theorem dL_law_32 : decode cL_law 32 = .ok (.iand, 1) := by decide +kernel
theorem dL_law_33 : decode cL_law 33 = .ok (.tableswitch 729 0 16 #[83, 136, 179, 222, 255, 318, 341, 390, 403, 446, 459, 520, 553, 586, 620, 663, 696], 83) := by decide +kernel
theorem dL_law_116 : decode cL_law 116 = .ok (.aload_n 1, 1) := by decide +kernel
theorem dL_law_117 : decode cL_law 117 = .ok (.aload_n 0, 1) := by decide +kernel
theorem dL_law_118 : decode cL_law 118 = .ok (.iload_n 3, 1) := by decide +kernel
theorem dL_law_119 : decode cL_law 119 = .ok (.iconst 1, 1) := by decide +kernel
theorem dL_law_120 : decode cL_law 120 = .ok (.iadd, 1) := by decide +kernel
theorem dL_law_121 : decode cL_law 121 = .ok (.iaload, 1) := by decide +kernel
theorem dL_law_122 : decode cL_law 122 = .ok (.aload_n 0, 1) := by decide +kernel
theorem dL_law_123 : decode cL_law 123 = .ok (.iload_n 3, 1) := by decide +kernel
theorem dL_law_124 : decode cL_law 124 = .ok (.iconst 2, 1) := by decide +kernel
theorem dL_law_125 : decode cL_law 125 = .ok (.iadd, 1) := by decide +kernel
theorem dL_law_126 : decode cL_law 126 = .ok (.iaload, 1) := by decide +kernel
theorem dL_law_127 : decode cL_law 127 = .ok (.aload_n 0, 1) := by decide +kernel
theorem dL_law_128 : decode cL_law 128 = .ok (.iload_n 3, 1) := by decide +kernel
theorem dL_law_129 : decode cL_law 129 = .ok (.iconst 3, 1) := by decide +kernel
theorem dL_law_130 : decode cL_law 130 = .ok (.iadd, 1) := by decide +kernel
theorem dL_law_131 : decode cL_law 131 = .ok (.iaload, 1) := by decide +kernel
theorem dL_law_132 : decode cL_law 132 = .ok (.aload_n 0, 1) := by decide +kernel
theorem dL_law_133 : decode cL_law 133 = .ok (.iload_n 3, 1) := by decide +kernel
theorem dL_law_134 : decode cL_law 134 = .ok (.iconst 4, 1) := by decide +kernel
theorem dL_law_135 : decode cL_law 135 = .ok (.iadd, 1) := by decide +kernel
theorem dL_law_136 : decode cL_law 136 = .ok (.iaload, 1) := by decide +kernel
theorem dL_law_137 : decode cL_law 137 = .ok (.invokevirtual 13, 3) := by decide +kernel
theorem dL_law_140 : decode cL_law 140 = .ok (.aload_n 2, 1) := by decide +kernel
theorem dL_law_141 : decode cL_law 141 = .ok (.aload_n 0, 1) := by decide +kernel
theorem dL_law_142 : decode cL_law 142 = .ok (.iload_n 3, 1) := by decide +kernel
theorem dL_law_143 : decode cL_law 143 = .ok (.iconst 1, 1) := by decide +kernel
theorem dL_law_144 : decode cL_law 144 = .ok (.iadd, 1) := by decide +kernel
theorem dL_law_145 : decode cL_law 145 = .ok (.iaload, 1) := by decide +kernel
theorem dL_law_146 : decode cL_law 146 = .ok (.aload_n 0, 1) := by decide +kernel
theorem dL_law_147 : decode cL_law 147 = .ok (.iload_n 3, 1) := by decide +kernel
theorem dL_law_148 : decode cL_law 148 = .ok (.iconst 2, 1) := by decide +kernel
theorem dL_law_149 : decode cL_law 149 = .ok (.iadd, 1) := by decide +kernel
theorem dL_law_150 : decode cL_law 150 = .ok (.iaload, 1) := by decide +kernel
theorem dL_law_151 : decode cL_law 151 = .ok (.aload_n 0, 1) := by decide +kernel
theorem dL_law_152 : decode cL_law 152 = .ok (.iload_n 3, 1) := by decide +kernel
theorem dL_law_153 : decode cL_law 153 = .ok (.iconst 3, 1) := by decide +kernel
theorem dL_law_154 : decode cL_law 154 = .ok (.iadd, 1) := by decide +kernel
theorem dL_law_155 : decode cL_law 155 = .ok (.iaload, 1) := by decide +kernel
theorem dL_law_156 : decode cL_law 156 = .ok (.aload_n 0, 1) := by decide +kernel
theorem dL_law_157 : decode cL_law 157 = .ok (.iload_n 3, 1) := by decide +kernel
theorem dL_law_158 : decode cL_law 158 = .ok (.iconst 4, 1) := by decide +kernel
theorem dL_law_159 : decode cL_law 159 = .ok (.iadd, 1) := by decide +kernel
theorem dL_law_160 : decode cL_law 160 = .ok (.iaload, 1) := by decide +kernel
theorem dL_law_161 : decode cL_law 161 = .ok (.invokevirtual 17, 3) := by decide +kernel
theorem dL_law_164 : decode cL_law 164 = .ok (.if_icmp .eq 598, 3) := by decide +kernel
theorem dL_law_167 : decode cL_law 167 = .ok (.iconst 0, 1) := by decide +kernel
theorem dL_law_168 : decode cL_law 168 = .ok (.ireturn, 1) := by decide +kernel
theorem dL_law_169 : decode cL_law 169 = .ok (.aload_n 1, 1) := by decide +kernel
theorem dL_law_170 : decode cL_law 170 = .ok (.aload_n 0, 1) := by decide +kernel
theorem dL_law_171 : decode cL_law 171 = .ok (.iload_n 3, 1) := by decide +kernel
theorem dL_law_172 : decode cL_law 172 = .ok (.iconst 1, 1) := by decide +kernel
theorem dL_law_173 : decode cL_law 173 = .ok (.iadd, 1) := by decide +kernel
theorem dL_law_174 : decode cL_law 174 = .ok (.iaload, 1) := by decide +kernel
theorem dL_law_175 : decode cL_law 175 = .ok (.aload_n 0, 1) := by decide +kernel
theorem dL_law_176 : decode cL_law 176 = .ok (.iload_n 3, 1) := by decide +kernel
theorem dL_law_177 : decode cL_law 177 = .ok (.iconst 2, 1) := by decide +kernel
theorem dL_law_178 : decode cL_law 178 = .ok (.iadd, 1) := by decide +kernel
theorem dL_law_179 : decode cL_law 179 = .ok (.iaload, 1) := by decide +kernel
theorem dL_law_180 : decode cL_law 180 = .ok (.aload_n 0, 1) := by decide +kernel
theorem dL_law_181 : decode cL_law 181 = .ok (.iload_n 3, 1) := by decide +kernel
theorem dL_law_182 : decode cL_law 182 = .ok (.iconst 3, 1) := by decide +kernel
theorem dL_law_183 : decode cL_law 183 = .ok (.iadd, 1) := by decide +kernel
theorem dL_law_184 : decode cL_law 184 = .ok (.iaload, 1) := by decide +kernel
theorem dL_law_185 : decode cL_law 185 = .ok (.invokevirtual 18, 3) := by decide +kernel
theorem dL_law_188 : decode cL_law 188 = .ok (.aload_n 2, 1) := by decide +kernel
theorem dL_law_189 : decode cL_law 189 = .ok (.aload_n 0, 1) := by decide +kernel
theorem dL_law_190 : decode cL_law 190 = .ok (.iload_n 3, 1) := by decide +kernel
theorem dL_law_191 : decode cL_law 191 = .ok (.iconst 1, 1) := by decide +kernel
theorem dL_law_192 : decode cL_law 192 = .ok (.iadd, 1) := by decide +kernel
theorem dL_law_193 : decode cL_law 193 = .ok (.iaload, 1) := by decide +kernel
theorem dL_law_194 : decode cL_law 194 = .ok (.aload_n 0, 1) := by decide +kernel
theorem dL_law_195 : decode cL_law 195 = .ok (.iload_n 3, 1) := by decide +kernel
theorem dL_law_196 : decode cL_law 196 = .ok (.iconst 2, 1) := by decide +kernel
theorem dL_law_197 : decode cL_law 197 = .ok (.iadd, 1) := by decide +kernel
theorem dL_law_198 : decode cL_law 198 = .ok (.iaload, 1) := by decide +kernel
theorem dL_law_199 : decode cL_law 199 = .ok (.aload_n 0, 1) := by decide +kernel
theorem dL_law_200 : decode cL_law 200 = .ok (.iload_n 3, 1) := by decide +kernel
theorem dL_law_201 : decode cL_law 201 = .ok (.iconst 3, 1) := by decide +kernel
theorem dL_law_202 : decode cL_law 202 = .ok (.iadd, 1) := by decide +kernel
theorem dL_law_203 : decode cL_law 203 = .ok (.iaload, 1) := by decide +kernel
theorem dL_law_204 : decode cL_law 204 = .ok (.invokevirtual 22, 3) := by decide +kernel
theorem dL_law_207 : decode cL_law 207 = .ok (.if_icmp .eq 555, 3) := by decide +kernel
theorem dL_law_210 : decode cL_law 210 = .ok (.iconst 0, 1) := by decide +kernel
theorem dL_law_211 : decode cL_law 211 = .ok (.ireturn, 1) := by decide +kernel
theorem dL_law_212 : decode cL_law 212 = .ok (.aload_n 1, 1) := by decide +kernel
theorem dL_law_213 : decode cL_law 213 = .ok (.aload_n 0, 1) := by decide +kernel
theorem dL_law_214 : decode cL_law 214 = .ok (.iload_n 3, 1) := by decide +kernel
theorem dL_law_215 : decode cL_law 215 = .ok (.iconst 1, 1) := by decide +kernel
theorem dL_law_216 : decode cL_law 216 = .ok (.iadd, 1) := by decide +kernel
theorem dL_law_217 : decode cL_law 217 = .ok (.iaload, 1) := by decide +kernel
theorem dL_law_218 : decode cL_law 218 = .ok (.aload_n 0, 1) := by decide +kernel
theorem dL_law_219 : decode cL_law 219 = .ok (.iload_n 3, 1) := by decide +kernel
theorem dL_law_220 : decode cL_law 220 = .ok (.iconst 2, 1) := by decide +kernel
theorem dL_law_221 : decode cL_law 221 = .ok (.iadd, 1) := by decide +kernel
theorem dL_law_222 : decode cL_law 222 = .ok (.iaload, 1) := by decide +kernel
theorem dL_law_223 : decode cL_law 223 = .ok (.aload_n 0, 1) := by decide +kernel
theorem dL_law_224 : decode cL_law 224 = .ok (.iload_n 3, 1) := by decide +kernel
theorem dL_law_225 : decode cL_law 225 = .ok (.iconst 3, 1) := by decide +kernel
theorem dL_law_226 : decode cL_law 226 = .ok (.iadd, 1) := by decide +kernel
theorem dL_law_227 : decode cL_law 227 = .ok (.iaload, 1) := by decide +kernel
theorem dL_law_228 : decode cL_law 228 = .ok (.invokevirtual 23, 3) := by decide +kernel
theorem dL_law_231 : decode cL_law 231 = .ok (.aload_n 2, 1) := by decide +kernel
theorem dL_law_232 : decode cL_law 232 = .ok (.aload_n 0, 1) := by decide +kernel
theorem dL_law_233 : decode cL_law 233 = .ok (.iload_n 3, 1) := by decide +kernel
theorem dL_law_234 : decode cL_law 234 = .ok (.iconst 1, 1) := by decide +kernel
theorem dL_law_235 : decode cL_law 235 = .ok (.iadd, 1) := by decide +kernel
theorem dL_law_236 : decode cL_law 236 = .ok (.iaload, 1) := by decide +kernel
theorem dL_law_237 : decode cL_law 237 = .ok (.aload_n 0, 1) := by decide +kernel
theorem dL_law_238 : decode cL_law 238 = .ok (.iload_n 3, 1) := by decide +kernel
theorem dL_law_239 : decode cL_law 239 = .ok (.iconst 2, 1) := by decide +kernel
theorem dL_law_240 : decode cL_law 240 = .ok (.iadd, 1) := by decide +kernel
theorem dL_law_241 : decode cL_law 241 = .ok (.iaload, 1) := by decide +kernel
theorem dL_law_242 : decode cL_law 242 = .ok (.aload_n 0, 1) := by decide +kernel
theorem dL_law_243 : decode cL_law 243 = .ok (.iload_n 3, 1) := by decide +kernel
theorem dL_law_244 : decode cL_law 244 = .ok (.iconst 3, 1) := by decide +kernel
theorem dL_law_245 : decode cL_law 245 = .ok (.iadd, 1) := by decide +kernel
theorem dL_law_246 : decode cL_law 246 = .ok (.iaload, 1) := by decide +kernel
theorem dL_law_247 : decode cL_law 247 = .ok (.invokevirtual 26, 3) := by decide +kernel
theorem dL_law_250 : decode cL_law 250 = .ok (.if_icmp .eq 512, 3) := by decide +kernel
theorem dL_law_253 : decode cL_law 253 = .ok (.iconst 0, 1) := by decide +kernel
theorem dL_law_254 : decode cL_law 254 = .ok (.ireturn, 1) := by decide +kernel
theorem dL_law_255 : decode cL_law 255 = .ok (.aload_n 1, 1) := by decide +kernel
theorem dL_law_256 : decode cL_law 256 = .ok (.aload_n 0, 1) := by decide +kernel
theorem dL_law_257 : decode cL_law 257 = .ok (.iload_n 3, 1) := by decide +kernel
theorem dL_law_258 : decode cL_law 258 = .ok (.iconst 1, 1) := by decide +kernel
theorem dL_law_259 : decode cL_law 259 = .ok (.iadd, 1) := by decide +kernel
theorem dL_law_260 : decode cL_law 260 = .ok (.iaload, 1) := by decide +kernel
theorem dL_law_261 : decode cL_law 261 = .ok (.aload_n 0, 1) := by decide +kernel
theorem dL_law_262 : decode cL_law 262 = .ok (.iload_n 3, 1) := by decide +kernel
theorem dL_law_263 : decode cL_law 263 = .ok (.iconst 2, 1) := by decide +kernel
theorem dL_law_264 : decode cL_law 264 = .ok (.iadd, 1) := by decide +kernel
theorem dL_law_265 : decode cL_law 265 = .ok (.iaload, 1) := by decide +kernel
theorem dL_law_266 : decode cL_law 266 = .ok (.invokevirtual 27, 3) := by decide +kernel
theorem dL_law_269 : decode cL_law 269 = .ok (.aload_n 2, 1) := by decide +kernel
theorem dL_law_270 : decode cL_law 270 = .ok (.aload_n 0, 1) := by decide +kernel
theorem dL_law_271 : decode cL_law 271 = .ok (.iload_n 3, 1) := by decide +kernel
theorem dL_law_272 : decode cL_law 272 = .ok (.iconst 1, 1) := by decide +kernel
theorem dL_law_273 : decode cL_law 273 = .ok (.iadd, 1) := by decide +kernel
theorem dL_law_274 : decode cL_law 274 = .ok (.iaload, 1) := by decide +kernel
theorem dL_law_275 : decode cL_law 275 = .ok (.aload_n 0, 1) := by decide +kernel
theorem dL_law_276 : decode cL_law 276 = .ok (.iload_n 3, 1) := by decide +kernel
theorem dL_law_277 : decode cL_law 277 = .ok (.iconst 2, 1) := by decide +kernel
theorem dL_law_278 : decode cL_law 278 = .ok (.iadd, 1) := by decide +kernel
theorem dL_law_279 : decode cL_law 279 = .ok (.iaload, 1) := by decide +kernel
theorem dL_law_280 : decode cL_law 280 = .ok (.invokevirtual 31, 3) := by decide +kernel
theorem dL_law_283 : decode cL_law 283 = .ok (.if_icmp .eq 479, 3) := by decide +kernel
theorem dL_law_286 : decode cL_law 286 = .ok (.iconst 0, 1) := by decide +kernel
theorem dL_law_287 : decode cL_law 287 = .ok (.ireturn, 1) := by decide +kernel
theorem dL_law_288 : decode cL_law 288 = .ok (.aload_n 1, 1) := by decide +kernel
theorem dL_law_289 : decode cL_law 289 = .ok (.aload_n 0, 1) := by decide +kernel
theorem dL_law_290 : decode cL_law 290 = .ok (.iload_n 3, 1) := by decide +kernel
theorem dL_law_291 : decode cL_law 291 = .ok (.iconst 1, 1) := by decide +kernel
theorem dL_law_292 : decode cL_law 292 = .ok (.iadd, 1) := by decide +kernel
theorem dL_law_293 : decode cL_law 293 = .ok (.iaload, 1) := by decide +kernel
theorem dL_law_294 : decode cL_law 294 = .ok (.aload_n 0, 1) := by decide +kernel
theorem dL_law_295 : decode cL_law 295 = .ok (.iload_n 3, 1) := by decide +kernel
theorem dL_law_296 : decode cL_law 296 = .ok (.iconst 2, 1) := by decide +kernel
theorem dL_law_297 : decode cL_law 297 = .ok (.iadd, 1) := by decide +kernel
theorem dL_law_298 : decode cL_law 298 = .ok (.iaload, 1) := by decide +kernel
theorem dL_law_299 : decode cL_law 299 = .ok (.aload_n 0, 1) := by decide +kernel
theorem dL_law_300 : decode cL_law 300 = .ok (.iload_n 3, 1) := by decide +kernel
theorem dL_law_301 : decode cL_law 301 = .ok (.iconst 3, 1) := by decide +kernel
theorem dL_law_302 : decode cL_law 302 = .ok (.iadd, 1) := by decide +kernel
theorem dL_law_303 : decode cL_law 303 = .ok (.iaload, 1) := by decide +kernel
theorem dL_law_304 : decode cL_law 304 = .ok (.aload_n 0, 1) := by decide +kernel
theorem dL_law_305 : decode cL_law 305 = .ok (.iload_n 3, 1) := by decide +kernel
theorem dL_law_306 : decode cL_law 306 = .ok (.iconst 4, 1) := by decide +kernel
theorem dL_law_307 : decode cL_law 307 = .ok (.iadd, 1) := by decide +kernel
theorem dL_law_308 : decode cL_law 308 = .ok (.iaload, 1) := by decide +kernel
theorem dL_law_309 : decode cL_law 309 = .ok (.aload_n 0, 1) := by decide +kernel
theorem dL_law_310 : decode cL_law 310 = .ok (.iload_n 3, 1) := by decide +kernel
theorem dL_law_311 : decode cL_law 311 = .ok (.iconst 5, 1) := by decide +kernel
theorem dL_law_312 : decode cL_law 312 = .ok (.iadd, 1) := by decide +kernel
theorem dL_law_313 : decode cL_law 313 = .ok (.iaload, 1) := by decide +kernel
theorem dL_law_314 : decode cL_law 314 = .ok (.invokevirtual 32, 3) := by decide +kernel
theorem dL_law_317 : decode cL_law 317 = .ok (.aload_n 2, 1) := by decide +kernel
theorem dL_law_318 : decode cL_law 318 = .ok (.aload_n 0, 1) := by decide +kernel
theorem dL_law_319 : decode cL_law 319 = .ok (.iload_n 3, 1) := by decide +kernel
theorem dL_law_320 : decode cL_law 320 = .ok (.iconst 1, 1) := by decide +kernel
theorem dL_law_321 : decode cL_law 321 = .ok (.iadd, 1) := by decide +kernel
theorem dL_law_322 : decode cL_law 322 = .ok (.iaload, 1) := by decide +kernel
theorem dL_law_323 : decode cL_law 323 = .ok (.aload_n 0, 1) := by decide +kernel
theorem dL_law_324 : decode cL_law 324 = .ok (.iload_n 3, 1) := by decide +kernel
theorem dL_law_325 : decode cL_law 325 = .ok (.iconst 2, 1) := by decide +kernel
theorem dL_law_326 : decode cL_law 326 = .ok (.iadd, 1) := by decide +kernel
theorem dL_law_327 : decode cL_law 327 = .ok (.iaload, 1) := by decide +kernel
theorem dL_law_328 : decode cL_law 328 = .ok (.aload_n 0, 1) := by decide +kernel
theorem dL_law_329 : decode cL_law 329 = .ok (.iload_n 3, 1) := by decide +kernel
theorem dL_law_330 : decode cL_law 330 = .ok (.iconst 3, 1) := by decide +kernel
theorem dL_law_331 : decode cL_law 331 = .ok (.iadd, 1) := by decide +kernel
theorem dL_law_332 : decode cL_law 332 = .ok (.iaload, 1) := by decide +kernel
theorem dL_law_333 : decode cL_law 333 = .ok (.aload_n 0, 1) := by decide +kernel
theorem dL_law_334 : decode cL_law 334 = .ok (.iload_n 3, 1) := by decide +kernel
theorem dL_law_335 : decode cL_law 335 = .ok (.iconst 4, 1) := by decide +kernel
theorem dL_law_336 : decode cL_law 336 = .ok (.iadd, 1) := by decide +kernel
theorem dL_law_337 : decode cL_law 337 = .ok (.iaload, 1) := by decide +kernel
theorem dL_law_338 : decode cL_law 338 = .ok (.aload_n 0, 1) := by decide +kernel
theorem dL_law_339 : decode cL_law 339 = .ok (.iload_n 3, 1) := by decide +kernel
theorem dL_law_340 : decode cL_law 340 = .ok (.iconst 5, 1) := by decide +kernel
theorem dL_law_341 : decode cL_law 341 = .ok (.iadd, 1) := by decide +kernel
theorem dL_law_342 : decode cL_law 342 = .ok (.iaload, 1) := by decide +kernel
theorem dL_law_343 : decode cL_law 343 = .ok (.invokevirtual 36, 3) := by decide +kernel
theorem dL_law_346 : decode cL_law 346 = .ok (.if_icmp .eq 416, 3) := by decide +kernel
theorem dL_law_349 : decode cL_law 349 = .ok (.iconst 0, 1) := by decide +kernel
theorem dL_law_350 : decode cL_law 350 = .ok (.ireturn, 1) := by decide +kernel
theorem dL_law_351 : decode cL_law 351 = .ok (.aload_n 1, 1) := by decide +kernel
theorem dL_law_352 : decode cL_law 352 = .ok (.aload_n 0, 1) := by decide +kernel
theorem dL_law_353 : decode cL_law 353 = .ok (.iload_n 3, 1) := by decide +kernel
theorem dL_law_354 : decode cL_law 354 = .ok (.iconst 1, 1) := by decide +kernel
theorem dL_law_355 : decode cL_law 355 = .ok (.iadd, 1) := by decide +kernel
theorem dL_law_356 : decode cL_law 356 = .ok (.iaload, 1) := by decide +kernel
theorem dL_law_357 : decode cL_law 357 = .ok (.invokevirtual 37, 3) := by decide +kernel
theorem dL_law_360 : decode cL_law 360 = .ok (.aload_n 2, 1) := by decide +kernel
theorem dL_law_361 : decode cL_law 361 = .ok (.aload_n 0, 1) := by decide +kernel
theorem dL_law_362 : decode cL_law 362 = .ok (.iload_n 3, 1) := by decide +kernel
theorem dL_law_363 : decode cL_law 363 = .ok (.iconst 1, 1) := by decide +kernel
theorem dL_law_364 : decode cL_law 364 = .ok (.iadd, 1) := by decide +kernel
theorem dL_law_365 : decode cL_law 365 = .ok (.iaload, 1) := by decide +kernel
theorem dL_law_366 : decode cL_law 366 = .ok (.invokevirtual 41, 3) := by decide +kernel
theorem dL_law_369 : decode cL_law 369 = .ok (.if_icmp .eq 393, 3) := by decide +kernel
theorem dL_law_372 : decode cL_law 372 = .ok (.iconst 0, 1) := by decide +kernel
theorem dL_law_373 : decode cL_law 373 = .ok (.ireturn, 1) := by decide +kernel
theorem dL_law_374 : decode cL_law 374 = .ok (.aload_n 1, 1) := by decide +kernel
theorem dL_law_375 : decode cL_law 375 = .ok (.aload_n 0, 1) := by decide +kernel
theorem dL_law_376 : decode cL_law 376 = .ok (.iload_n 3, 1) := by decide +kernel
theorem dL_law_377 : decode cL_law 377 = .ok (.iconst 1, 1) := by decide +kernel
theorem dL_law_378 : decode cL_law 378 = .ok (.iadd, 1) := by decide +kernel
theorem dL_law_379 : decode cL_law 379 = .ok (.iaload, 1) := by decide +kernel
theorem dL_law_380 : decode cL_law 380 = .ok (.aload_n 0, 1) := by decide +kernel
theorem dL_law_381 : decode cL_law 381 = .ok (.iload_n 3, 1) := by decide +kernel
theorem dL_law_382 : decode cL_law 382 = .ok (.iconst 2, 1) := by decide +kernel
theorem dL_law_383 : decode cL_law 383 = .ok (.iadd, 1) := by decide +kernel
theorem dL_law_384 : decode cL_law 384 = .ok (.iaload, 1) := by decide +kernel
theorem dL_law_385 : decode cL_law 385 = .ok (.ifCond .eq 7, 3) := by decide +kernel
theorem dL_law_388 : decode cL_law 388 = .ok (.iconst 1, 1) := by decide +kernel
theorem dL_law_389 : decode cL_law 389 = .ok (.goto 4, 3) := by decide +kernel
theorem dL_law_392 : decode cL_law 392 = .ok (.iconst 0, 1) := by decide +kernel
theorem dL_law_393 : decode cL_law 393 = .ok (.invokevirtual 42, 3) := by decide +kernel
theorem dL_law_396 : decode cL_law 396 = .ok (.aload_n 2, 1) := by decide +kernel
theorem dL_law_397 : decode cL_law 397 = .ok (.aload_n 0, 1) := by decide +kernel
theorem dL_law_398 : decode cL_law 398 = .ok (.iload_n 3, 1) := by decide +kernel
theorem dL_law_399 : decode cL_law 399 = .ok (.iconst 1, 1) := by decide +kernel
theorem dL_law_400 : decode cL_law 400 = .ok (.iadd, 1) := by decide +kernel
theorem dL_law_401 : decode cL_law 401 = .ok (.iaload, 1) := by decide +kernel
theorem dL_law_402 : decode cL_law 402 = .ok (.aload_n 0, 1) := by decide +kernel
theorem dL_law_403 : decode cL_law 403 = .ok (.iload_n 3, 1) := by decide +kernel
theorem dL_law_404 : decode cL_law 404 = .ok (.iconst 2, 1) := by decide +kernel
theorem dL_law_405 : decode cL_law 405 = .ok (.iadd, 1) := by decide +kernel
theorem dL_law_406 : decode cL_law 406 = .ok (.iaload, 1) := by decide +kernel
theorem dL_law_407 : decode cL_law 407 = .ok (.ifCond .eq 7, 3) := by decide +kernel
theorem dL_law_410 : decode cL_law 410 = .ok (.iconst 1, 1) := by decide +kernel
theorem dL_law_411 : decode cL_law 411 = .ok (.goto 4, 3) := by decide +kernel
theorem dL_law_414 : decode cL_law 414 = .ok (.iconst 0, 1) := by decide +kernel
theorem dL_law_415 : decode cL_law 415 = .ok (.invokevirtual 46, 3) := by decide +kernel
theorem dL_law_418 : decode cL_law 418 = .ok (.if_icmp .eq 344, 3) := by decide +kernel
theorem dL_law_421 : decode cL_law 421 = .ok (.iconst 0, 1) := by decide +kernel
theorem dL_law_422 : decode cL_law 422 = .ok (.ireturn, 1) := by decide +kernel
theorem dL_law_423 : decode cL_law 423 = .ok (.aload_n 1, 1) := by decide +kernel
theorem dL_law_424 : decode cL_law 424 = .ok (.invokevirtual 47, 3) := by decide +kernel
theorem dL_law_427 : decode cL_law 427 = .ok (.aload_n 2, 1) := by decide +kernel
theorem dL_law_428 : decode cL_law 428 = .ok (.invokevirtual 51, 3) := by decide +kernel
theorem dL_law_431 : decode cL_law 431 = .ok (.if_icmp .eq 331, 3) := by decide +kernel
theorem dL_law_434 : decode cL_law 434 = .ok (.iconst 0, 1) := by decide +kernel
theorem dL_law_435 : decode cL_law 435 = .ok (.ireturn, 1) := by decide +kernel
theorem dL_law_436 : decode cL_law 436 = .ok (.aload_n 1, 1) := by decide +kernel
theorem dL_law_437 : decode cL_law 437 = .ok (.aload_n 0, 1) := by decide +kernel
theorem dL_law_438 : decode cL_law 438 = .ok (.iload_n 3, 1) := by decide +kernel
theorem dL_law_439 : decode cL_law 439 = .ok (.iconst 1, 1) := by decide +kernel
theorem dL_law_440 : decode cL_law 440 = .ok (.iadd, 1) := by decide +kernel
theorem dL_law_441 : decode cL_law 441 = .ok (.iaload, 1) := by decide +kernel
theorem dL_law_442 : decode cL_law 442 = .ok (.aload_n 0, 1) := by decide +kernel
theorem dL_law_443 : decode cL_law 443 = .ok (.iload_n 3, 1) := by decide +kernel
theorem dL_law_444 : decode cL_law 444 = .ok (.iconst 2, 1) := by decide +kernel
theorem dL_law_445 : decode cL_law 445 = .ok (.iadd, 1) := by decide +kernel
theorem dL_law_446 : decode cL_law 446 = .ok (.iaload, 1) := by decide +kernel
theorem dL_law_447 : decode cL_law 447 = .ok (.aload_n 0, 1) := by decide +kernel
theorem dL_law_448 : decode cL_law 448 = .ok (.iload_n 3, 1) := by decide +kernel
theorem dL_law_449 : decode cL_law 449 = .ok (.iconst 3, 1) := by decide +kernel
theorem dL_law_450 : decode cL_law 450 = .ok (.iadd, 1) := by decide +kernel
theorem dL_law_451 : decode cL_law 451 = .ok (.iaload, 1) := by decide +kernel
theorem dL_law_452 : decode cL_law 452 = .ok (.invokevirtual 52, 3) := by decide +kernel
theorem dL_law_455 : decode cL_law 455 = .ok (.aload_n 2, 1) := by decide +kernel
theorem dL_law_456 : decode cL_law 456 = .ok (.aload_n 0, 1) := by decide +kernel
theorem dL_law_457 : decode cL_law 457 = .ok (.iload_n 3, 1) := by decide +kernel
theorem dL_law_458 : decode cL_law 458 = .ok (.iconst 1, 1) := by decide +kernel
theorem dL_law_459 : decode cL_law 459 = .ok (.iadd, 1) := by decide +kernel
theorem dL_law_460 : decode cL_law 460 = .ok (.iaload, 1) := by decide +kernel
theorem dL_law_461 : decode cL_law 461 = .ok (.aload_n 0, 1) := by decide +kernel
theorem dL_law_462 : decode cL_law 462 = .ok (.iload_n 3, 1) := by decide +kernel
theorem dL_law_463 : decode cL_law 463 = .ok (.iconst 2, 1) := by decide +kernel
theorem dL_law_464 : decode cL_law 464 = .ok (.iadd, 1) := by decide +kernel
theorem dL_law_465 : decode cL_law 465 = .ok (.iaload, 1) := by decide +kernel
theorem dL_law_466 : decode cL_law 466 = .ok (.aload_n 0, 1) := by decide +kernel
theorem dL_law_467 : decode cL_law 467 = .ok (.iload_n 3, 1) := by decide +kernel
theorem dL_law_468 : decode cL_law 468 = .ok (.iconst 3, 1) := by decide +kernel
theorem dL_law_469 : decode cL_law 469 = .ok (.iadd, 1) := by decide +kernel
theorem dL_law_470 : decode cL_law 470 = .ok (.iaload, 1) := by decide +kernel
theorem dL_law_471 : decode cL_law 471 = .ok (.invokevirtual 55, 3) := by decide +kernel
theorem dL_law_474 : decode cL_law 474 = .ok (.if_icmp .eq 288, 3) := by decide +kernel
theorem dL_law_477 : decode cL_law 477 = .ok (.iconst 0, 1) := by decide +kernel
theorem dL_law_478 : decode cL_law 478 = .ok (.ireturn, 1) := by decide +kernel
theorem dL_law_479 : decode cL_law 479 = .ok (.aload_n 1, 1) := by decide +kernel
theorem dL_law_480 : decode cL_law 480 = .ok (.invokevirtual 56, 3) := by decide +kernel
theorem dL_law_483 : decode cL_law 483 = .ok (.aload_n 2, 1) := by decide +kernel
theorem dL_law_484 : decode cL_law 484 = .ok (.invokevirtual 59, 3) := by decide +kernel
theorem dL_law_487 : decode cL_law 487 = .ok (.if_icmp .eq 275, 3) := by decide +kernel
theorem dL_law_490 : decode cL_law 490 = .ok (.iconst 0, 1) := by decide +kernel
theorem dL_law_491 : decode cL_law 491 = .ok (.ireturn, 1) := by decide +kernel
theorem dL_law_492 : decode cL_law 492 = .ok (.aload_n 1, 1) := by decide +kernel
theorem dL_law_493 : decode cL_law 493 = .ok (.aload_n 0, 1) := by decide +kernel
theorem dL_law_494 : decode cL_law 494 = .ok (.iload_n 3, 1) := by decide +kernel
theorem dL_law_495 : decode cL_law 495 = .ok (.iconst 1, 1) := by decide +kernel
theorem dL_law_496 : decode cL_law 496 = .ok (.iadd, 1) := by decide +kernel
theorem dL_law_497 : decode cL_law 497 = .ok (.iaload, 1) := by decide +kernel
theorem dL_law_498 : decode cL_law 498 = .ok (.aload_n 0, 1) := by decide +kernel
theorem dL_law_499 : decode cL_law 499 = .ok (.iload_n 3, 1) := by decide +kernel
theorem dL_law_500 : decode cL_law 500 = .ok (.iconst 2, 1) := by decide +kernel
theorem dL_law_501 : decode cL_law 501 = .ok (.iadd, 1) := by decide +kernel
theorem dL_law_502 : decode cL_law 502 = .ok (.iaload, 1) := by decide +kernel
theorem dL_law_503 : decode cL_law 503 = .ok (.invokevirtual 60, 3) := by decide +kernel
theorem dL_law_506 : decode cL_law 506 = .ok (.dstore 4, 2) := by decide +kernel
theorem dL_law_508 : decode cL_law 508 = .ok (.aload_n 2, 1) := by decide +kernel
theorem dL_law_509 : decode cL_law 509 = .ok (.aload_n 0, 1) := by decide +kernel
theorem dL_law_510 : decode cL_law 510 = .ok (.iload_n 3, 1) := by decide +kernel
theorem dL_law_511 : decode cL_law 511 = .ok (.iconst 1, 1) := by decide +kernel
theorem dL_law_512 : decode cL_law 512 = .ok (.iadd, 1) := by decide +kernel
theorem dL_law_513 : decode cL_law 513 = .ok (.iaload, 1) := by decide +kernel
theorem dL_law_514 : decode cL_law 514 = .ok (.aload_n 0, 1) := by decide +kernel
theorem dL_law_515 : decode cL_law 515 = .ok (.iload_n 3, 1) := by decide +kernel
theorem dL_law_516 : decode cL_law 516 = .ok (.iconst 2, 1) := by decide +kernel
theorem dL_law_517 : decode cL_law 517 = .ok (.iadd, 1) := by decide +kernel
theorem dL_law_518 : decode cL_law 518 = .ok (.iaload, 1) := by decide +kernel
theorem dL_law_519 : decode cL_law 519 = .ok (.invokevirtual 64, 3) := by decide +kernel
theorem dL_law_522 : decode cL_law 522 = .ok (.dstore 6, 2) := by decide +kernel
theorem dL_law_524 : decode cL_law 524 = .ok (.dload 4, 2) := by decide +kernel
theorem dL_law_526 : decode cL_law 526 = .ok (.dload 6, 2) := by decide +kernel
theorem dL_law_528 : decode cL_law 528 = .ok (.dcmp .l, 1) := by decide +kernel
theorem dL_law_529 : decode cL_law 529 = .ok (.ifCond .eq 21, 3) := by decide +kernel
theorem dL_law_532 : decode cL_law 532 = .ok (.dload 4, 2) := by decide +kernel
theorem dL_law_534 : decode cL_law 534 = .ok (.dload 4, 2) := by decide +kernel
theorem dL_law_536 : decode cL_law 536 = .ok (.dcmp .l, 1) := by decide +kernel
theorem dL_law_537 : decode cL_law 537 = .ok (.ifCond .eq 11, 3) := by decide +kernel
theorem dL_law_540 : decode cL_law 540 = .ok (.dload 6, 2) := by decide +kernel
theorem dL_law_542 : decode cL_law 542 = .ok (.dload 6, 2) := by decide +kernel
theorem dL_law_544 : decode cL_law 544 = .ok (.dcmp .l, 1) := by decide +kernel
theorem dL_law_545 : decode cL_law 545 = .ok (.ifCond .ne 5, 3) := by decide +kernel
theorem dL_law_548 : decode cL_law 548 = .ok (.iconst 0, 1) := by decide +kernel
theorem dL_law_549 : decode cL_law 549 = .ok (.ireturn, 1) := by decide +kernel
theorem dL_law_550 : decode cL_law 550 = .ok (.goto 212, 3) := by decide +kernel
theorem dL_law_553 : decode cL_law 553 = .ok (.aload_n 1, 1) := by decide +kernel
theorem dL_law_554 : decode cL_law 554 = .ok (.aload_n 0, 1) := by decide +kernel
theorem dL_law_555 : decode cL_law 555 = .ok (.iload_n 3, 1) := by decide +kernel
theorem dL_law_556 : decode cL_law 556 = .ok (.iconst 1, 1) := by decide +kernel
theorem dL_law_557 : decode cL_law 557 = .ok (.iadd, 1) := by decide +kernel
theorem dL_law_558 : decode cL_law 558 = .ok (.iaload, 1) := by decide +kernel
theorem dL_law_559 : decode cL_law 559 = .ok (.aload_n 0, 1) := by decide +kernel
theorem dL_law_560 : decode cL_law 560 = .ok (.iload_n 3, 1) := by decide +kernel
theorem dL_law_561 : decode cL_law 561 = .ok (.iconst 2, 1) := by decide +kernel
theorem dL_law_562 : decode cL_law 562 = .ok (.iadd, 1) := by decide +kernel
theorem dL_law_563 : decode cL_law 563 = .ok (.iaload, 1) := by decide +kernel
theorem dL_law_564 : decode cL_law 564 = .ok (.invokevirtual 65, 3) := by decide +kernel
theorem dL_law_567 : decode cL_law 567 = .ok (.aload_n 2, 1) := by decide +kernel
theorem dL_law_568 : decode cL_law 568 = .ok (.aload_n 0, 1) := by decide +kernel
theorem dL_law_569 : decode cL_law 569 = .ok (.iload_n 3, 1) := by decide +kernel
theorem dL_law_570 : decode cL_law 570 = .ok (.iconst 1, 1) := by decide +kernel
theorem dL_law_571 : decode cL_law 571 = .ok (.iadd, 1) := by decide +kernel
theorem dL_law_572 : decode cL_law 572 = .ok (.iaload, 1) := by decide +kernel
theorem dL_law_573 : decode cL_law 573 = .ok (.aload_n 0, 1) := by decide +kernel
theorem dL_law_574 : decode cL_law 574 = .ok (.iload_n 3, 1) := by decide +kernel
theorem dL_law_575 : decode cL_law 575 = .ok (.iconst 2, 1) := by decide +kernel
theorem dL_law_576 : decode cL_law 576 = .ok (.iadd, 1) := by decide +kernel
theorem dL_law_577 : decode cL_law 577 = .ok (.iaload, 1) := by decide +kernel
theorem dL_law_578 : decode cL_law 578 = .ok (.invokevirtual 69, 3) := by decide +kernel
theorem dL_law_581 : decode cL_law 581 = .ok (.if_icmp .eq 181, 3) := by decide +kernel
theorem dL_law_584 : decode cL_law 584 = .ok (.iconst 0, 1) := by decide +kernel
theorem dL_law_585 : decode cL_law 585 = .ok (.ireturn, 1) := by decide +kernel
theorem dL_law_586 : decode cL_law 586 = .ok (.aload_n 1, 1) := by decide +kernel
theorem dL_law_587 : decode cL_law 587 = .ok (.aload_n 0, 1) := by decide +kernel
theorem dL_law_588 : decode cL_law 588 = .ok (.iload_n 3, 1) := by decide +kernel
theorem dL_law_589 : decode cL_law 589 = .ok (.iconst 1, 1) := by decide +kernel
theorem dL_law_590 : decode cL_law 590 = .ok (.iadd, 1) := by decide +kernel
theorem dL_law_591 : decode cL_law 591 = .ok (.iaload, 1) := by decide +kernel
theorem dL_law_592 : decode cL_law 592 = .ok (.aload_n 0, 1) := by decide +kernel
theorem dL_law_593 : decode cL_law 593 = .ok (.iload_n 3, 1) := by decide +kernel
theorem dL_law_594 : decode cL_law 594 = .ok (.iconst 2, 1) := by decide +kernel
theorem dL_law_595 : decode cL_law 595 = .ok (.iadd, 1) := by decide +kernel
theorem dL_law_596 : decode cL_law 596 = .ok (.iaload, 1) := by decide +kernel
theorem dL_law_597 : decode cL_law 597 = .ok (.invokevirtual 70, 3) := by decide +kernel
theorem dL_law_600 : decode cL_law 600 = .ok (.aload_n 2, 1) := by decide +kernel
theorem dL_law_601 : decode cL_law 601 = .ok (.aload_n 0, 1) := by decide +kernel
theorem dL_law_602 : decode cL_law 602 = .ok (.iload_n 3, 1) := by decide +kernel
theorem dL_law_603 : decode cL_law 603 = .ok (.iconst 1, 1) := by decide +kernel
theorem dL_law_604 : decode cL_law 604 = .ok (.iadd, 1) := by decide +kernel
theorem dL_law_605 : decode cL_law 605 = .ok (.iaload, 1) := by decide +kernel
theorem dL_law_606 : decode cL_law 606 = .ok (.aload_n 0, 1) := by decide +kernel
theorem dL_law_607 : decode cL_law 607 = .ok (.iload_n 3, 1) := by decide +kernel
theorem dL_law_608 : decode cL_law 608 = .ok (.iconst 2, 1) := by decide +kernel
theorem dL_law_609 : decode cL_law 609 = .ok (.iadd, 1) := by decide +kernel
theorem dL_law_610 : decode cL_law 610 = .ok (.iaload, 1) := by decide +kernel
theorem dL_law_611 : decode cL_law 611 = .ok (.invokevirtual 73, 3) := by decide +kernel
theorem dL_law_614 : decode cL_law 614 = .ok (.if_icmp .eq 148, 3) := by decide +kernel
theorem dL_law_617 : decode cL_law 617 = .ok (.iconst 0, 1) := by decide +kernel
theorem dL_law_618 : decode cL_law 618 = .ok (.ireturn, 1) := by decide +kernel
theorem dL_law_619 : decode cL_law 619 = .ok (.aload_n 1, 1) := by decide +kernel
theorem dL_law_620 : decode cL_law 620 = .ok (.aload_n 0, 1) := by decide +kernel
theorem dL_law_621 : decode cL_law 621 = .ok (.iload_n 3, 1) := by decide +kernel
theorem dL_law_622 : decode cL_law 622 = .ok (.iconst 1, 1) := by decide +kernel
theorem dL_law_623 : decode cL_law 623 = .ok (.iadd, 1) := by decide +kernel
theorem dL_law_624 : decode cL_law 624 = .ok (.iaload, 1) := by decide +kernel
theorem dL_law_625 : decode cL_law 625 = .ok (.aload_n 0, 1) := by decide +kernel
theorem dL_law_626 : decode cL_law 626 = .ok (.iload_n 3, 1) := by decide +kernel
theorem dL_law_627 : decode cL_law 627 = .ok (.iconst 2, 1) := by decide +kernel
theorem dL_law_628 : decode cL_law 628 = .ok (.iadd, 1) := by decide +kernel
theorem dL_law_629 : decode cL_law 629 = .ok (.iaload, 1) := by decide +kernel
theorem dL_law_630 : decode cL_law 630 = .ok (.invokevirtual 74, 3) := by decide +kernel
theorem dL_law_633 : decode cL_law 633 = .ok (.aload_n 2, 1) := by decide +kernel
theorem dL_law_634 : decode cL_law 634 = .ok (.aload_n 0, 1) := by decide +kernel
theorem dL_law_635 : decode cL_law 635 = .ok (.iload_n 3, 1) := by decide +kernel
theorem dL_law_636 : decode cL_law 636 = .ok (.iconst 1, 1) := by decide +kernel
theorem dL_law_637 : decode cL_law 637 = .ok (.iadd, 1) := by decide +kernel
theorem dL_law_638 : decode cL_law 638 = .ok (.iaload, 1) := by decide +kernel
theorem dL_law_639 : decode cL_law 639 = .ok (.aload_n 0, 1) := by decide +kernel
theorem dL_law_640 : decode cL_law 640 = .ok (.iload_n 3, 1) := by decide +kernel
theorem dL_law_641 : decode cL_law 641 = .ok (.iconst 2, 1) := by decide +kernel
theorem dL_law_642 : decode cL_law 642 = .ok (.iadd, 1) := by decide +kernel
theorem dL_law_643 : decode cL_law 643 = .ok (.iaload, 1) := by decide +kernel
theorem dL_law_644 : decode cL_law 644 = .ok (.invokevirtual 78, 3) := by decide +kernel
theorem dL_law_647 : decode cL_law 647 = .ok (.lcmp, 1) := by decide +kernel
theorem dL_law_648 : decode cL_law 648 = .ok (.ifCond .eq 114, 3) := by decide +kernel
theorem dL_law_651 : decode cL_law 651 = .ok (.iconst 0, 1) := by decide +kernel
theorem dL_law_652 : decode cL_law 652 = .ok (.ireturn, 1) := by decide +kernel
theorem dL_law_653 : decode cL_law 653 = .ok (.aload_n 1, 1) := by decide +kernel
theorem dL_law_654 : decode cL_law 654 = .ok (.aload_n 0, 1) := by decide +kernel
theorem dL_law_655 : decode cL_law 655 = .ok (.iload_n 3, 1) := by decide +kernel
theorem dL_law_656 : decode cL_law 656 = .ok (.iconst 1, 1) := by decide +kernel
theorem dL_law_657 : decode cL_law 657 = .ok (.iadd, 1) := by decide +kernel
theorem dL_law_658 : decode cL_law 658 = .ok (.iaload, 1) := by decide +kernel
theorem dL_law_659 : decode cL_law 659 = .ok (.aload_n 0, 1) := by decide +kernel
theorem dL_law_660 : decode cL_law 660 = .ok (.iload_n 3, 1) := by decide +kernel
theorem dL_law_661 : decode cL_law 661 = .ok (.iconst 2, 1) := by decide +kernel
theorem dL_law_662 : decode cL_law 662 = .ok (.iadd, 1) := by decide +kernel
theorem dL_law_663 : decode cL_law 663 = .ok (.iaload, 1) := by decide +kernel
theorem dL_law_664 : decode cL_law 664 = .ok (.aload_n 0, 1) := by decide +kernel
theorem dL_law_665 : decode cL_law 665 = .ok (.iload_n 3, 1) := by decide +kernel
theorem dL_law_666 : decode cL_law 666 = .ok (.iconst 3, 1) := by decide +kernel
theorem dL_law_667 : decode cL_law 667 = .ok (.iadd, 1) := by decide +kernel
theorem dL_law_668 : decode cL_law 668 = .ok (.iaload, 1) := by decide +kernel
theorem dL_law_669 : decode cL_law 669 = .ok (.invokevirtual 79, 3) := by decide +kernel
theorem dL_law_672 : decode cL_law 672 = .ok (.aload_n 2, 1) := by decide +kernel
theorem dL_law_673 : decode cL_law 673 = .ok (.aload_n 0, 1) := by decide +kernel
theorem dL_law_674 : decode cL_law 674 = .ok (.iload_n 3, 1) := by decide +kernel
theorem dL_law_675 : decode cL_law 675 = .ok (.iconst 1, 1) := by decide +kernel
theorem dL_law_676 : decode cL_law 676 = .ok (.iadd, 1) := by decide +kernel
theorem dL_law_677 : decode cL_law 677 = .ok (.iaload, 1) := by decide +kernel
theorem dL_law_678 : decode cL_law 678 = .ok (.aload_n 0, 1) := by decide +kernel
theorem dL_law_679 : decode cL_law 679 = .ok (.iload_n 3, 1) := by decide +kernel
theorem dL_law_680 : decode cL_law 680 = .ok (.iconst 2, 1) := by decide +kernel
theorem dL_law_681 : decode cL_law 681 = .ok (.iadd, 1) := by decide +kernel
theorem dL_law_682 : decode cL_law 682 = .ok (.iaload, 1) := by decide +kernel
theorem dL_law_683 : decode cL_law 683 = .ok (.aload_n 0, 1) := by decide +kernel
theorem dL_law_684 : decode cL_law 684 = .ok (.iload_n 3, 1) := by decide +kernel
theorem dL_law_685 : decode cL_law 685 = .ok (.iconst 3, 1) := by decide +kernel
theorem dL_law_686 : decode cL_law 686 = .ok (.iadd, 1) := by decide +kernel
theorem dL_law_687 : decode cL_law 687 = .ok (.iaload, 1) := by decide +kernel
theorem dL_law_688 : decode cL_law 688 = .ok (.invokevirtual 82, 3) := by decide +kernel
theorem dL_law_691 : decode cL_law 691 = .ok (.if_icmp .eq 71, 3) := by decide +kernel
theorem dL_law_694 : decode cL_law 694 = .ok (.iconst 0, 1) := by decide +kernel
theorem dL_law_695 : decode cL_law 695 = .ok (.ireturn, 1) := by decide +kernel
theorem dL_law_696 : decode cL_law 696 = .ok (.aload_n 1, 1) := by decide +kernel
theorem dL_law_697 : decode cL_law 697 = .ok (.aload_n 0, 1) := by decide +kernel
theorem dL_law_698 : decode cL_law 698 = .ok (.iload_n 3, 1) := by decide +kernel
theorem dL_law_699 : decode cL_law 699 = .ok (.iconst 1, 1) := by decide +kernel
theorem dL_law_700 : decode cL_law 700 = .ok (.iadd, 1) := by decide +kernel
theorem dL_law_701 : decode cL_law 701 = .ok (.iaload, 1) := by decide +kernel
theorem dL_law_702 : decode cL_law 702 = .ok (.aload_n 0, 1) := by decide +kernel
theorem dL_law_703 : decode cL_law 703 = .ok (.iload_n 3, 1) := by decide +kernel
theorem dL_law_704 : decode cL_law 704 = .ok (.iconst 2, 1) := by decide +kernel
theorem dL_law_705 : decode cL_law 705 = .ok (.iadd, 1) := by decide +kernel
theorem dL_law_706 : decode cL_law 706 = .ok (.iaload, 1) := by decide +kernel
theorem dL_law_707 : decode cL_law 707 = .ok (.invokevirtual 83, 3) := by decide +kernel
theorem dL_law_710 : decode cL_law 710 = .ok (.aload_n 2, 1) := by decide +kernel
theorem dL_law_711 : decode cL_law 711 = .ok (.aload_n 0, 1) := by decide +kernel
theorem dL_law_712 : decode cL_law 712 = .ok (.iload_n 3, 1) := by decide +kernel
theorem dL_law_713 : decode cL_law 713 = .ok (.iconst 1, 1) := by decide +kernel
theorem dL_law_714 : decode cL_law 714 = .ok (.iadd, 1) := by decide +kernel
theorem dL_law_715 : decode cL_law 715 = .ok (.iaload, 1) := by decide +kernel
theorem dL_law_716 : decode cL_law 716 = .ok (.aload_n 0, 1) := by decide +kernel
theorem dL_law_717 : decode cL_law 717 = .ok (.iload_n 3, 1) := by decide +kernel
theorem dL_law_718 : decode cL_law 718 = .ok (.iconst 2, 1) := by decide +kernel
theorem dL_law_719 : decode cL_law 719 = .ok (.iadd, 1) := by decide +kernel
theorem dL_law_720 : decode cL_law 720 = .ok (.iaload, 1) := by decide +kernel
theorem dL_law_721 : decode cL_law 721 = .ok (.invokevirtual 86, 3) := by decide +kernel
theorem dL_law_724 : decode cL_law 724 = .ok (.if_icmp .eq 38, 3) := by decide +kernel
theorem dL_law_727 : decode cL_law 727 = .ok (.iconst 0, 1) := by decide +kernel
theorem dL_law_728 : decode cL_law 728 = .ok (.ireturn, 1) := by decide +kernel
theorem dL_law_729 : decode cL_law 729 = .ok (.aload_n 1, 1) := by decide +kernel
theorem dL_law_730 : decode cL_law 730 = .ok (.aload_n 0, 1) := by decide +kernel
theorem dL_law_731 : decode cL_law 731 = .ok (.iload_n 3, 1) := by decide +kernel
theorem dL_law_732 : decode cL_law 732 = .ok (.iconst 1, 1) := by decide +kernel
theorem dL_law_733 : decode cL_law 733 = .ok (.iadd, 1) := by decide +kernel
theorem dL_law_734 : decode cL_law 734 = .ok (.iaload, 1) := by decide +kernel
theorem dL_law_735 : decode cL_law 735 = .ok (.aload_n 0, 1) := by decide +kernel
theorem dL_law_736 : decode cL_law 736 = .ok (.iload_n 3, 1) := by decide +kernel
theorem dL_law_737 : decode cL_law 737 = .ok (.iconst 2, 1) := by decide +kernel
theorem dL_law_738 : decode cL_law 738 = .ok (.iadd, 1) := by decide +kernel
theorem dL_law_739 : decode cL_law 739 = .ok (.iaload, 1) := by decide +kernel
theorem dL_law_740 : decode cL_law 740 = .ok (.invokevirtual 87, 3) := by decide +kernel
theorem dL_law_743 : decode cL_law 743 = .ok (.aload_n 2, 1) := by decide +kernel
theorem dL_law_744 : decode cL_law 744 = .ok (.aload_n 0, 1) := by decide +kernel
theorem dL_law_745 : decode cL_law 745 = .ok (.iload_n 3, 1) := by decide +kernel
theorem dL_law_746 : decode cL_law 746 = .ok (.iconst 1, 1) := by decide +kernel
theorem dL_law_747 : decode cL_law 747 = .ok (.iadd, 1) := by decide +kernel
theorem dL_law_748 : decode cL_law 748 = .ok (.iaload, 1) := by decide +kernel
theorem dL_law_749 : decode cL_law 749 = .ok (.aload_n 0, 1) := by decide +kernel
theorem dL_law_750 : decode cL_law 750 = .ok (.iload_n 3, 1) := by decide +kernel
theorem dL_law_751 : decode cL_law 751 = .ok (.iconst 2, 1) := by decide +kernel
theorem dL_law_752 : decode cL_law 752 = .ok (.iadd, 1) := by decide +kernel
theorem dL_law_753 : decode cL_law 753 = .ok (.iaload, 1) := by decide +kernel
theorem dL_law_754 : decode cL_law 754 = .ok (.invokevirtual 90, 3) := by decide +kernel
theorem dL_law_757 : decode cL_law 757 = .ok (.if_icmp .eq 5, 3) := by decide +kernel
theorem dL_law_760 : decode cL_law 760 = .ok (.iconst 0, 1) := by decide +kernel
theorem dL_law_761 : decode cL_law 761 = .ok (.ireturn, 1) := by decide +kernel
theorem dL_law_762 : decode cL_law 762 = .ok (.iinc 3 6, 3) := by decide +kernel
theorem dL_law_765 : decode cL_law 765 = .ok (.goto (-747), 3) := by decide +kernel
theorem dL_law_768 : decode cL_law 768 = .ok (.iconst 1, 1) := by decide +kernel
theorem dL_law_769 : decode cL_law 769 = .ok (.ireturn, 1) := by decide +kernel
end
section
/-! the framework: a judgement over a heap that is a function of codes -/
abbrev GG : Type := va_G × ClassId × ClassId × ClassId × ClassId × ClassId
abbrev gty (G : GG) : List (ClassId × FieldType) := [(G.2.1, .double), (G.2.2.1, .int), (G.2.2.2.1, .boolean), (G.2.2.2.2.1, .object RX0), (G.2.2.2.2.2, .object RX3)]
abbrev cD (G : GG) (n : Nat) (f : Nat → UInt64) : va_E := .inl (G.2.1, n, .inr (.inr (.inr (.inl f))))
abbrev cI (G : GG) (n : Nat) (f : Nat → Int32) : va_E := .inl (G.2.2.1, n, .inl f)
abbrev cZ (G : GG) (n : Nat) (f : Nat → Int32) : va_E := .inl (G.2.2.2.1, n, .inl f)
abbrev cQA (G : GG) (n : Nat) (f : Nat → Option Nat) : va_E := .inl (G.2.2.2.2.1, n, .inr (.inr (.inr (.inr f))))
abbrev cQC (G : GG) (n : Nat) (f : Nat → Option Nat) : va_E := .inl (G.2.2.2.2.2, n, .inr (.inr (.inr (.inr f))))
abbrev cO (ci : Nat) (fs : List Value) : va_E := .inr (ci, fs)
def XW (U : State) : Prop := ∀ w ∈ lw_ex, w.before #[] U = true
theorem XW.same {u U : State} (h : u.vm = U.vm) (hX : XW u) : XW U := by
  intro w hw
  have h1 := hX w hw
  simp only [lw_ex, List.mem_cons, List.not_mem_nil, or_false] at hw
  rcases hw with rfl | rfl | rfl | rfl | rfl | rfl | rfl <;> first | exact va_Nw.same rfl h h1 | exact va_AO.moved (by rw [h]; exact Vm.Alike.refl _) h1
theorem XW.warm {s U : State} (hW : s.WarmedH U.vm) (hX : XW s) : XW U := by
  intro w hw
  have h1 := hX w hw
  simp only [lw_ex, List.mem_cons, List.not_mem_nil, or_false] at hw
  rcases hw with rfl | rfl | rfl | rfl | rfl | rfl | rfl <;> first | exact va_Nw.warmM hW h1 | exact va_Nw.warmD hW h1 | exact va_AO.moved hW.alike h1
def KW (G : GG) (U : State) : Prop := va_K G.1 vwCl (gty G) U ∧ XW U
theorem KW.warm {G : GG} {s U : State} (hW : s.WarmedH U.vm) (h : KW G s) : KW G U := ⟨va_K.moved hW.alike h.1, XW.warm hW h.2⟩
theorem KW.calling {G : GG} {U : State} {g : JFrame} {mk : MethodId} {a : Array Value} (h : KW G U) : KW G (U.calling g mk a) := ⟨va_K.moved (u := U) (U := U.calling g mk a) (Vm.Alike.refl U.vm) h.1, XW.same (u := U) (U := U.calling g mk a) rfl h.2⟩
def PW (D : va_G) (z : Nat) (ct : Nat → va_E) (N : Nat) (H : Heap) : Prop := H.size = z + N ∧ ∀ k, k < N → va_at D vwCl (z + k, ct k) H
theorem PW.one {D : va_G} {z N k : Nat} {ct : Nat → va_E} {H : Heap} {e : va_E} (h : PW D z ct N H) (hk : k < N) (he : ct k = e) : va_P D vwCl [(z + k, e)] H := by
  intro i q hq
  match i, hq with
  | 0, hq => cases hq; rw [← he]; exact h.2 k hk
  | i + 1, hq => simp at hq
theorem PW.set {D : va_G} {z N k : Nat} {ct : Nat → va_E} {H H1 : Heap} {e : va_E} (h : PW D z ct N H) (he : va_at D vwCl (z + k, e) H1) (hz : H1.size = H.size) (oq : ∀ q : Nat, q ≠ z + k → H1[q]? = H[q]?) : PW D z (va_up ct k e) N H1 := by
  refine ⟨by rw [hz]; exact h.1, fun j hj => ?_⟩
  by_cases hjk : j = k
  · subst hjk; rw [va_up_self]; exact he
  · rw [va_up_ne _ _ hjk]
    exact (h.2 j hj).kept (oq _ (show z + j ≠ z + k by omega))
theorem PW.push {D : va_G} {z N : Nat} {ct : Nat → va_E} {H H1 : Heap} {e : va_E} (h : PW D z ct N H) (he : va_at D vwCl (z + N, e) H1) (hz : H1.size = H.size + 1) (oq : ∀ q : Nat, q < H.size → H1[q]? = H[q]?) : PW D z (va_up ct N e) (N + 1) H1 := by
  have h1 := h.1
  refine ⟨by rw [hz, h1]; omega, fun j hj => ?_⟩
  by_cases hjk : j = N
  · subst hjk; rw [va_up_self]; exact he
  · rw [va_up_ne _ _ hjk]
    exact (h.2 j (by omega)).kept (oq _ (show z + j < H.size by rw [h1]; omega))
def zA (z : Nat) : Nat → Prop := fun q => z ≤ q
/-- the end of a method: its answer, the heap behind it, what lies below z untouched -/
def Qd (G : GG) (z : Nat) (rv : Option Value) (ct : Nat → va_E) (N : Nat) : Array Value → State → Outcome → State → Prop := fun _ st oc t => oc = .returned rv ∧ PW G.1 z ct N t.heap ∧ va_F (zA z) st t
abbrev ws_ (y : MethodName) (cc : ByteArray) (maxL : Nat) (ret : Option FieldType) : List Cond := .code y cc maxL ret :: lw_good
theorem good_ws {y : MethodName} {cc : ByteArray} {maxL : Nat} {ret : Option FieldType} (h : Cond.code y cc maxL ret ∈ lw_good) : GoodIn lw_good (ws_ y cc maxL ret) := by
  intro w hw
  rcases List.mem_cons.mp hw with rfl | hw
  · exact ⟨h, Or.inl rfl⟩
  · exact ⟨hw, good_of_word (List.mem_filter.mp hw).2⟩
def Ct (G : GG) (l : Launch) (y : MethodName) (cc : ByteArray) (maxL : Nat) (ret : Option FieldType) (rm : Room) (av : List Value) (z : Nat) (ct : Nat → va_E) (N : Nat) (rv : Option Value) (ct' : Nat → va_E) (N' : Nat) : Prop :=
  Met l y (ws_ y cc maxL ret) rm (va_Pc av (fun U => PW G.1 z ct N U.heap ∧ KW G U)) (Qd G z rv ct' N') rm.cells rm.slots (zA z)
theorem Ct.blind {G : GG} {av : List Value} {z N : Nat} {ct : Nat → va_E} : FrameBlind (va_Pc av (fun U => PW G.1 z ct N U.heap ∧ KW G U)) := fun a U g mk h => ⟨h.1, h.2.1, KW.calling h.2.2⟩
/-- what holds throughout a method's body -/
def Cx (G : GG) (p : Program) (s : State) (m : MethodId) (args : Array Value) (meth : Method) (c : Code) (cc : ByteArray) (nL : Nat) (own : String) (z : Nat) (ret : Option FieldType) (nme : String) : Prop :=
  p.tables.exec = Jvm.exec ∧ c.code = cc ∧ c.maxLocals = nL ∧ s.vm.findClass own = some m.cls ∧ (∀ w ∈ lw_good, w.before args s = true) ∧ KW G s ∧ z ≤ s.heap.size ∧ meth.locks = false ∧ meth.sig.returnType = ret ∧ meth.name = nme
section JJ
variable {G : GG} {p : Program} {l : Launch} {e : Env} {R : Room} {s : State} {m : MethodId} {args : Array Value} {below : List Frame} {meth : Method} {c : Code} {cc : ByteArray} {nL : Nat} {own : String} {z : Nat} {ret : Option FieldType} {nme : String} {Q : State → Prop}
theorem Cx.x (C : Cx G p s m args meth c cc nL own z ret nme) : p.tables.exec = Jvm.exec := C.1
theorem Cx.b (C : Cx G p s m args meth c cc nL own z ret nme) : c.code = cc := C.2.1
theorem Cx.lL (C : Cx G p s m args meth c cc nL own z ret nme) : c.maxLocals = nL := C.2.2.1
theorem Cx.o (C : Cx G p s m args meth c cc nL own z ret nme) : s.vm.findClass own = some m.cls := C.2.2.2.1
theorem Cx.w (C : Cx G p s m args meth c cc nL own z ret nme) : ∀ w ∈ lw_good, w.before args s = true := C.2.2.2.2.1
theorem Cx.k (C : Cx G p s m args meth c cc nL own z ret nme) : KW G s := C.2.2.2.2.2.1
theorem Cx.zz (C : Cx G p s m args meth c cc nL own z ret nme) : z ≤ s.heap.size := C.2.2.2.2.2.2.1
theorem Cx.n (C : Cx G p s m args meth c cc nL own z ret nme) : meth.locks = false := C.2.2.2.2.2.2.2.1
theorem Cx.r (C : Cx G p s m args meth c cc nL own z ret nme) : meth.sig.returnType = ret := C.2.2.2.2.2.2.2.2.1
theorem Cx.i (C : Cx G p s m args meth c cc nL own z ret nme) : meth.name = nme := C.2.2.2.2.2.2.2.2.2
theorem Cx.f (C : Cx G p s m args meth c cc nL own z ret nme) : CallFix p m c cc nL s args lw_good own := ⟨C.x, C.b, C.lL, C.o, C.w⟩
def J (G : GG) (p : Program) (l : Launch) (e : Env) (R : Room) (s : State) (m : MethodId) (args : Array Value) (below : List Frame) (meth : Method) (c : Code) (z nL : Nat) (Q : State → Prop) (ct : Nat → va_E) (N cells slots pc : Nat) (lv : List (Nat × Value)) (st : List Value) : Prop :=
  ∀ (H : Heap) (locs : List Loc) (ls : Array Slot), PW G.1 z ct N H → va_S (zA z) s.heap H locs → lv_has ls nL lv → W p l e R s m args below meth c H locs cells slots Q (F0 m pc ls st)
variable {ct : Nat → va_E} {N cells slots pc : Nat} {lv : List (Nat × Value)} {st rest : List Value}
theorem j_ct {ct' : Nat → va_E} (h : ct = ct') (k : J G p l e R s m args below meth c z nL Q ct' N cells slots pc lv st) : J G p l e R s m args below meth c z nL Q ct N cells slots pc lv st := h ▸ k
theorem j_re {lv' : List (Nat × Value)} (ks : List Nat) (h : lv_pick lv ks = lv') (k : J G p l e R s m args below meth c z nL Q ct N cells slots pc lv' st) : J G p l e R s m args below meth c z nL Q ct N cells slots pc lv st := fun H locs ls hP hS hl => k H locs ls hP hS (lv_sub hl ks h)
theorem j_wide {k n : Nat} (h1 : cells ≤ k) (h2 : slots ≤ n) (kk : J G p l e R s m args below meth c z nL Q ct N k n pc lv st) : J G p l e R s m args below meth c z nL Q ct N cells slots pc lv st := fun H locs ls hP hS hl => W.widen h1 h2 (kk H locs ls hP hS hl)
theorem Ct.of {y : MethodName} {rm : Room} {av : List Value} {ct' : Nat → va_E} {N' : Nat} {rv : Option Value} (hy : plainName y.cls = true) (hlen : (lg_sl av).length ≤ nL) (hlv : lv_args 0 av = lv)
    (h : ∀ (p : Program) (e : Env) (s : State) (m : MethodId) (args : Array Value) (below : List Frame) (meth : Method) (c : Code), Cx G p s m args meth c cc nL y.cls z ret y.name → J G p l e rm s m args below meth c z nL (MQ below (Qd G z rv ct' N') args s rm.cells rm.slots (zA z)) ct N 0 0 0 lv []) : Ct G l y cc nL ret rm av z ct N rv ct' N' := by
  refine Met.ofW (cc := cc) (maxL := nL) (ret := ret) hy rfl ?_
  intro p e s m args below meth c s₁ B hml hv
  obtain ⟨rfl, hP, hK⟩ := hv
  have hts := atoms_spec (ws := ws_ y cc nL ret) B.pre
  have hown : s.vm.findClass y.cls = some m.cls := findClass_of_methodNamed B.named
  have hnm : meth.name = y.name := (name_of_methodNamed B.named B.method).1
  have hl := lv_entry av (n := nL) hlen
  rw [hlv] at hl
  rw [lg_entry_eq]
  refine h p e s m _ below meth c ⟨B.exec, B.bytes, hml, hown, fun w hw => hts w (List.mem_cons_of_mem _ hw), hK, by rw [hP.1]; omega, B.notSynchronized, B.returns, hnm⟩ s.heap [] _ hP va_S.rf hl
theorem j_run {H : Heap} {locs : List Loc} {ls : Array Slot} {mc ms : Nat} {rv : Option Value} {ct' : Nat → va_E} {N' : Nat} {a : Array Value} (hr : va_Run p l e R s m args below meth c H locs cells slots mc ms (F0 m pc ls st) rest (Qd G z rv ct' N' a) (zA z)) (hS : va_S (zA z) s.heap H locs) (hl : lv_has ls nL lv)
    (k : J G p l e R s m args below meth c z nL Q ct' N' (cells + mc) (slots + ms) (pc + 3) lv (rv.toList ++ rest)) : W p l e R s m args below meth c H locs cells slots Q (F0 m pc ls st) := by
  intro T hT X
  obtain ⟨v, st₀, t, T', L, h0, X', hL, e1, e2, ⟨hv, hPW, hF1, hF2⟩, st⟩ := hr T hT X
  cases hv
  rw [h0] at hF1 hF2
  obtain ⟨t2, a1, b1⟩ := k T'.heap (locs ++ L) ls (by rw [e1]; exact hPW) ⟨Nat.le_trans hS.1 (by rw [e1]; exact hF1), fun q h1 h2 => by rw [e1, hF2 q (Nat.lt_of_lt_of_le h1 hS.1) h2]; exact hS.2.1 q h1 h2, fun q hq => by
      rcases List.mem_append.mp hq with h | h
      · exact hS.2.2 q h
      · exact hL q h⟩ hl T' rfl X'
  exact ⟨t2, st t2 a1, b1⟩
theorem j_pre {H : Heap} {av : List Value} (C : Cx G p s m args meth c cc nL own z ret nme) (hP : PW G.1 z ct N H) : PreS s H (va_Pc av (fun U => PW G.1 z ct N U.heap ∧ KW G U)) av := ⟨Ct.blind, fun U hU hW => ⟨rfl, by rw [hU]; exact hP, C.k.warm hW⟩⟩
theorem j_recv {H : Heap} {b ci : Nat} {q : vw_C} {fs : List Value} (C : Cx G p s m args meth c cc nL own z ret nme) (hP : PW G.1 z ct N H) (hb : b < N) (he : ct b = .inr (ci, fs)) (hc : vwCl[ci]? = some q) : ∃ cell : Cell, H[z + b]? = some cell ∧ cell.vm.isStatics = false ∧ s.vm.findClass q.1 = some cell.cls := va_recv C.k.1 (hP.one hb he) hc (q0 := 0) rfl
/-- a static call -/
theorem j_callS {index n : Nat} {y : MethodName} {bytes : ByteArray} {maxL : Nat} {rt : Option FieldType} {rm : Room} {rv : Option Value} {ct' : Nat → va_E} {N' : Nat} (C : Cx G p s m args meth c cc nL own z ret nme) (As : List Value) (hM : Ct G l y bytes maxL rt rm As z ct N rv ct' N')
    (hcode : Cond.code y bytes maxL rt ∈ lw_good) (hini : Cond.initialized y.cls ∈ lw_good) (hstat : Cond.static y ∈ lw_good) (hlink : Cond.methodLink own index y ∈ lw_good) (hd : y.cls ≠ "java/lang/invoke/MethodHandle" ∧ y.cls ≠ "java/lang/invoke/VarHandle" ∧ (parseMethodDescriptor y.desc).map (fun d => d.parameters.length) = some n)
    (hn : As.length = n) (d : decode cc pc = .ok (.invokestatic index, 3)) (hst : As.reverse ++ rest = st) (hW : (rest.map fun v => v.category).sum ≤ 8) (hR : rm.frames + 1 ≤ R.frames ∧ 8 + (maxL + 11) + rm.locals ≤ R.locals) (hf : cells + rm.cells ≤ R.cells ∧ slots + rm.slots ≤ R.slots)
    (k : J G p l e R s m args below meth c z nL Q ct' N' (cells + rm.cells) (slots + rm.slots) (pc + 3) lv (rv.toList ++ rest)) : J G p l e R s m args below meth c z nL Q ct N cells slots pc lv st := by
  intro H locs ls hP hS hl
  subst hst
  exact j_run (va_runS (As := As) (rest := rest) C.f hM ⟨callB_of n C.w (good_ws hcode) rfl rfl rfl (C.w _ hini) (C.w _ hlink) hd hR, C.w _ hstat⟩ (j_pre C hP) rfl hn hl.1 rfl (lv_room hW) d hf) hS hl k
/-- a call of an instance method of a known class -/
theorem j_callV {index n b ci : Nat} {q : vw_C} {fs : List Value} {y : MethodName} {bytes : ByteArray} {maxL : Nat} {rt : Option FieldType} {rm : Room} {rv : Option Value} {ct' : Nat → va_E} {N' : Nat} (C : Cx G p s m args meth c cc nL own z ret nme) (As : List Value) (hM : Ct G l y bytes maxL rt rm (.ref (z + b) :: As) z ct N rv ct' N')
    (hb : b < N) (he : ct b = .inr (ci, fs)) (hc : vwCl[ci]? = some q)
    (hcode : Cond.code y bytes maxL rt ∈ lw_good) (hini : Cond.initialized y.cls ∈ lw_good) (hinst : Cond.instanceMethod y ∈ lw_good) (hsel : Cond.selects q.1 y y ∈ lw_good) (hlink : Cond.methodLink own index y ∈ lw_good) (hd : y.cls ≠ "java/lang/invoke/MethodHandle" ∧ y.cls ≠ "java/lang/invoke/VarHandle" ∧ (parseMethodDescriptor y.desc).map (fun d => d.parameters.length) = some n)
    (hn : As.length = n) (d : decode cc pc = .ok (.invokevirtual index, 3)) (hst : As.reverse ++ .ref (z + b) :: rest = st) (hW : (rest.map fun v => v.category).sum ≤ 8) (hR : rm.frames + 1 ≤ R.frames ∧ 8 + (maxL + 11) + rm.locals ≤ R.locals) (hf : cells + rm.cells ≤ R.cells ∧ slots + rm.slots ≤ R.slots)
    (k : J G p l e R s m args below meth c z nL Q ct' N' (cells + rm.cells) (slots + rm.slots) (pc + 3) lv (rv.toList ++ rest)) : J G p l e R s m args below meth c z nL Q ct N cells slots pc lv st := by
  intro H locs ls hP hS hl
  subst hst
  exact j_run (va_runV (As := As) (rest := rest) (b := z + b) (C := q.1) C.f hM ⟨callB_of n C.w (good_ws hcode) rfl rfl rfl (C.w _ hini) (C.w _ hlink) hd hR, C.w _ hinst, C.w _ hsel⟩ ⟨Ct.blind, j_recv C hP hb he hc, (j_pre C hP).2⟩ rfl hn hl.1 rfl (lv_room hW) d hf) hS hl k
/-- a constructor's call -/
theorem j_callI {index n b : Nat} {y : MethodName} {bytes : ByteArray} {maxL : Nat} {rm : Room} {rv : Option Value} {ct' : Nat → va_E} {N' : Nat} (C : Cx G p s m args meth c cc nL own z ret nme) (As : List Value) (hM : Ct G l y bytes maxL none rm (.ref (z + b) :: As) z ct N rv ct' N')
    (hcode : Cond.code y bytes maxL none ∈ lw_good) (hini : Cond.initialized y.cls ∈ lw_good) (hinst : Cond.instanceMethod y ∈ lw_good) (hlink : Cond.methodLink own index y ∈ lw_good) (hy1 : y.name = "<init>") (hd : y.cls ≠ "java/lang/invoke/MethodHandle" ∧ y.cls ≠ "java/lang/invoke/VarHandle" ∧ (parseMethodDescriptor y.desc).map (fun d => d.parameters.length) = some n)
    (hn : As.length = n) (d : decode cc pc = .ok (.invokespecial index, 3)) (hst : As.reverse ++ .ref (z + b) :: rest = st) (hW : (rest.map fun v => v.category).sum ≤ 8) (hR : rm.frames + 1 ≤ R.frames ∧ 8 + (maxL + 11) + rm.locals ≤ R.locals) (hf : cells + rm.cells ≤ R.cells ∧ slots + rm.slots ≤ R.slots)
    (k : J G p l e R s m args below meth c z nL Q ct' N' (cells + rm.cells) (slots + rm.slots) (pc + 3) lv (rv.toList ++ rest)) : J G p l e R s m args below meth c z nL Q ct N cells slots pc lv st := by
  intro H locs ls hP hS hl
  subst hst
  exact j_run (va_runI (As := As) (rest := rest) (b := z + b) C.f hM ⟨callB_of n C.w (good_ws hcode) rfl rfl rfl (C.w _ hini) (C.w _ hlink) hd hR, hy1, C.w _ hinst⟩ (j_pre C hP) rfl hn hl.1 rfl (lv_room hW) d hf) hS hl k
/-- a nest mate's constructor -/
theorem j_callN {index n b : Nat} {host : String} {y : MethodName} {bytes : ByteArray} {maxL : Nat} {rm : Room} {rv : Option Value} {ct' : Nat → va_E} {N' : Nat} (C : Cx G p s m args meth c cc nL own z ret nme) (As : List Value) (hM : Ct G l y bytes maxL none rm (.ref (z + b) :: As) z ct N rv ct' N')
    (hcode : Cond.code y bytes maxL none ∈ lw_good) (hini : Cond.initialized y.cls ∈ lw_good) (hinst : Cond.instanceMethod y ∈ lw_good) (hlink : Cond.methodLinkNest own index y host ∈ lw_ex) (hy1 : y.name = "<init>") (hd : y.cls ≠ "java/lang/invoke/MethodHandle" ∧ y.cls ≠ "java/lang/invoke/VarHandle" ∧ (parseMethodDescriptor y.desc).map (fun d => d.parameters.length) = some n)
    (hn : As.length = n) (d : decode cc pc = .ok (.invokespecial index, 3)) (hst : As.reverse ++ .ref (z + b) :: rest = st) (hW : (rest.map fun v => v.category).sum ≤ 8) (hR : rm.frames + 1 ≤ R.frames ∧ 8 + (maxL + 11) + rm.locals ≤ R.locals) (hf : cells + rm.cells ≤ R.cells ∧ slots + rm.slots ≤ R.slots)
    (k : J G p l e R s m args below meth c z nL Q ct' N' (cells + rm.cells) (slots + rm.slots) (pc + 3) lv (rv.toList ++ rest)) : J G p l e R s m args below meth c z nL Q ct N cells slots pc lv st := by
  intro H locs ls hP hS hl
  subst hst
  exact j_run (va_runIN (As := As) (rest := rest) (b := z + b) C.f hM ⟨va_cnB n C.w (good_ws hcode) rfl rfl rfl (C.k.2 _ hlink) (C.w _ hini) hd hR, hy1, C.w _ hinst⟩ (j_pre C hP) rfl hn hl.1 rfl (lv_room hW) d hf) hS hl k
theorem j_objInit {idx b : Nat} (C : Cx G p s m args meth c cc nL own z ret nme) (hlink : Cond.methodLink own idx objectInit ∈ lw_good) (hinst : Cond.instanceMethod objectInit ∈ lw_good) (hcode : Cond.code objectInit object_method_1_code 1 none ∈ lw_good) (d : decode cc pc = .ok (.invokespecial idx, 3)) (hfr : 1 ≤ R.frames) (hlo : (rest.map fun v => v.category).sum + 12 ≤ R.locals)
    (k : J G p l e R s m args below meth c z nL Q ct N cells slots (pc + 3) lv rest) : J G p l e R s m args below meth c z nL Q ct N cells slots pc lv (.ref b :: rest) := by
  intro H locs ls hP hS hl
  exact W.objInit C.x C.b C.o (C.w _ hlink) (C.w _ hinst) (C.w _ hcode) rfl (by rw [C.lL]; exact hl.1) rfl d hfr (by show 2 * 0 + _ + 12 ≤ _; omega) (k H locs ls hP hS hl)
-- returns
theorem j_q {cells slots : Nat} {rv : Option Value} {ct' : Nat → va_E} {N' : Nat} {H : Heap} {locs : List Loc} (hc : ct = ct') (hN : N = N') (hP : PW G.1 z ct N H) (hS : va_S (zA z) s.heap H locs) : ∀ t : State, t.heap = H → s.WarmedH t.vm → Qd G z rv ct' N' args s (.returned rv) t := fun t ht _ => ⟨rfl, by subst hc; subst hN; rw [ht]; exact hP, hS.F ht⟩
variable {rv : Option Value} {ct' : Nat → va_E} {N' : Nat}
theorem j_iret {v : Int32} (C : Cx G p s m args meth c cc nL own z (some .int) nme) (d : decode cc pc = .ok (.ireturn, 1)) (hv : some (.int v) = rv) (hc : ct = ct') (hN : N = N') : J G p l e R s m args below meth c z nL (MQ below (Qd G z rv ct' N') args s cells slots (zA z)) ct N cells slots pc lv [.int v] := by
  intro H locs ls hP hS hl
  subst hv
  exact W.iret C.x C.b C.r (j_q (cells := cells) (slots := slots) hc hN hP hS) hS.2.2 d C.n
theorem j_zret {v : Int32} (C : Cx G p s m args meth c cc nL own z (some .boolean) nme) (d : decode cc pc = .ok (.ireturn, 1)) (hz : vp_nar .boolean v = v) (hv : some (.int v) = rv) (hc : ct = ct') (hN : N = N') : J G p l e R s m args below meth c z nL (MQ below (Qd G z rv ct' N') args s cells slots (zA z)) ct N cells slots pc lv [.int v] := by
  intro H locs ls hP hS hl
  subst hv
  exact W.zret C.x C.b C.r (by have h9 := hz; simp [vp_nar, narrow] at h9 ⊢; exact h9) (j_q (cells := cells) (slots := slots) hc hN hP hS) hS.2.2 d C.n
theorem j_lret {v : Int64} (C : Cx G p s m args meth c cc nL own z (some .long) nme) (d : decode cc pc = .ok (.lreturn, 1)) (hv : some (.long v) = rv) (hc : ct = ct') (hN : N = N') : J G p l e R s m args below meth c z nL (MQ below (Qd G z rv ct' N') args s cells slots (zA z)) ct N cells slots pc lv [.long v] := by
  intro H locs ls hP hS hl
  subst hv
  exact W.lret C.x C.b C.r (j_q (cells := cells) (slots := slots) hc hN hP hS) hS.2.2 d C.n
theorem j_dret {v : UInt64} (C : Cx G p s m args meth c cc nL own z (some .double) nme) (d : decode cc pc = .ok (.dreturn, 1)) (hv : some (.double v) = rv) (hc : ct = ct') (hN : N = N') : J G p l e R s m args below meth c z nL (MQ below (Qd G z rv ct' N') args s cells slots (zA z)) ct N cells slots pc lv [.double v] := by
  intro H locs ls hP hS hl
  subst hv
  exact W.dret C.x C.b C.r (j_q (cells := cells) (slots := slots) hc hN hP hS) hS.2.2 d C.n
theorem j_vret (C : Cx G p s m args meth c cc nL own z none nme) (d : decode cc pc = .ok (.return_, 1)) (hv : none = rv) (hc : ct = ct') (hN : N = N') : J G p l e R s m args below meth c z nL (MQ below (Qd G z rv ct' N') args s cells slots (zA z)) ct N cells slots pc lv [] := by
  intro H locs ls hP hS hl
  subst hv
  exact W.vret C.x C.b C.r (j_q (cells := cells) (slots := slots) hc hN hP hS) hS.2.2 d C.n
theorem j_aret {a : Nat} {nm : String} (C : Cx G p s m args meth c cc nL own z (some (.object nm)) nme) (d : decode cc pc = .ok (.areturn, 1)) (hv : some (.ref a) = rv) (hc : ct = ct') (hN : N = N') : J G p l e R s m args below meth c z nL (MQ below (Qd G z rv ct' N') args s cells slots (zA z)) ct N cells slots pc lv [.ref a] := by
  intro H locs ls hP hS hl
  subst hv
  exact W.aret C.x C.b C.r (Or.inl ⟨_, rfl⟩) (Or.inr ⟨_, rfl⟩) (j_q (cells := cells) (slots := slots) hc hN hP hS) hS.2.2 d C.n
end JJ
end
section
abbrev ix (i : Int32) (n : Nat) : Prop := 0 ≤ i.toInt ∧ i.toInt < (n : Int)
theorem n64_of {r : UInt64} (h : FP.dIsNaN r = false) : vf_n64 r := by
  have h1 : ¬ (9218868437227405312 < r.toNat % 2 ^ 63) := fun q => by
    have h2 : FP.dIsNaN r = true := (FP.Core.isNaN_bits r).mpr q
    rw [h] at h2; cases h2
  unfold vf_n64
  rw [UInt64.le_iff_toNat_le, UInt64.toNat_and]
  have e1 : (0x7fffffffffffffff : UInt64).toNat = 2 ^ 63 - 1 := by decide
  have e2 : (0x7ff0000000000000 : UInt64).toNat = 9218868437227405312 := by decide
  rw [e1, e2, Nat.and_two_pow_sub_one_eq_mod]
  omega
theorem n32_of {r : UInt32} (h : FP.fIsNaN r = false) : vf_n32 r := by
  have h1 : ¬ (2139095040 < r.toNat % 2 ^ 31) := fun q => by
    have h2 : FP.fIsNaN r = true := (FP.Core.isNaN_bits32 r).mpr q
    rw [h] at h2; cases h2
  unfold vf_n32
  rw [UInt32.le_iff_toNat_le, UInt32.toNat_and]
  have e1 : (0x7fffffff : UInt32).toNat = 2 ^ 31 - 1 := by decide
  have e2 : (0x7f800000 : UInt32).toNat = 2139095040 := by decide
  rw [e1, e2, Nat.and_two_pow_sub_one_eq_mod]
  omega
section J2
variable {G : GG} {p : Program} {l : Launch} {e : Env} {R : Room} {s : State} {m : MethodId} {args : Array Value} {below : List Frame} {meth : Method} {c : Code} {cc : ByteArray} {nL : Nat} {own : String} {z : Nat} {ret : Option FieldType} {nme : String} {Q : State → Prop} {ct : Nat → va_E} {N cells slots pc : Nat} {lv : List (Nat × Value)} {st rest : List Value}
theorem j_iconst (C : Cx G p s m args meth c cc nL own z ret nme) {n : Int} {v : Int32} (d : decode cc pc = .ok (.iconst n, 1)) (hv : Int32.ofInt n = v) (k : J G p l e R s m args below meth c z nL Q ct N cells slots (pc + 1) lv (.int v :: rest)) : J G p l e R s m args below meth c z nL Q ct N cells slots pc lv rest := fun H locs ls hP hS hl => lv_iconst C.x C.b d hv (k H locs ls hP hS hl)
theorem j_bipush (C : Cx G p s m args meth c cc nL own z ret nme) {n : Int} {v : Int32} (d : decode cc pc = .ok (.bipush n, 2)) (hv : (Int8.ofInt n).toInt32 = v) (k : J G p l e R s m args below meth c z nL Q ct N cells slots (pc + 2) lv (.int v :: rest)) : J G p l e R s m args below meth c z nL Q ct N cells slots pc lv rest := fun H locs ls hP hS hl => lv_bipush C.x C.b d hv (k H locs ls hP hS hl)
theorem j_sipush (C : Cx G p s m args meth c cc nL own z ret nme) {n : Int} {v : Int32} (d : decode cc pc = .ok (.sipush n, 3)) (hv : (Int16.ofInt n).toInt32 = v) (k : J G p l e R s m args below meth c z nL Q ct N cells slots (pc + 3) lv (.int v :: rest)) : J G p l e R s m args below meth c z nL Q ct N cells slots pc lv rest := fun H locs ls hP hS hl => lv_sipush C.x C.b d hv (k H locs ls hP hS hl)
theorem j_lconst (C : Cx G p s m args meth c cc nL own z ret nme) {n : Fin 2} {v : Int64} (d : decode cc pc = .ok (.lconst n, 1)) (hv : Int64.ofNat (n : Nat) = v) (k : J G p l e R s m args below meth c z nL Q ct N cells slots (pc + 1) lv (.long v :: rest)) : J G p l e R s m args below meth c z nL Q ct N cells slots pc lv rest := fun H locs ls hP hS hl => lv_lconst C.x C.b d hv (k H locs ls hP hS hl)
theorem j_dconst0 (C : Cx G p s m args meth c cc nL own z ret nme) (d : decode cc pc = .ok (.dconst 0, 1)) (k : J G p l e R s m args below meth c z nL Q ct N cells slots (pc + 1) lv (.double FP.dconst0 :: rest)) : J G p l e R s m args below meth c z nL Q ct N cells slots pc lv rest := fun H locs ls hP hS hl => lv_dconst0 C.x C.b d (k H locs ls hP hS hl)
theorem j_dconst1 (C : Cx G p s m args meth c cc nL own z ret nme) (d : decode cc pc = .ok (.dconst 1, 1)) (k : J G p l e R s m args below meth c z nL Q ct N cells slots (pc + 1) lv (.double FP.dconst1 :: rest)) : J G p l e R s m args below meth c z nL Q ct N cells slots pc lv rest := fun H locs ls hP hS hl => lv_dconst1 C.x C.b d (k H locs ls hP hS hl)
theorem j_null (C : Cx G p s m args meth c cc nL own z ret nme) (d : decode cc pc = .ok (.aconst_null, 1)) (k : J G p l e R s m args below meth c z nL Q ct N cells slots (pc + 1) lv (.null :: rest)) : J G p l e R s m args below meth c z nL Q ct N cells slots pc lv rest := fun H locs ls hP hS hl => lv_null C.x C.b d (k H locs ls hP hS hl)
theorem j_ldc (C : Cx G p s m args meth c cc nL own z ret nme) {index : Nat} {v : Int32} (hw : Cond.constant own index v ∈ lw_good) (d : decode cc pc = .ok (.ldc index, 2)) (k : J G p l e R s m args below meth c z nL Q ct N cells slots (pc + 2) lv (.int v :: rest)) : J G p l e R s m args below meth c z nL Q ct N cells slots pc lv rest := fun H locs ls hP hS hl => lv_ldc C.x C.b C.o (C.w _ hw) d (k H locs ls hP hS hl)
theorem j_ldc2 (C : Cx G p s m args meth c cc nL own z ret nme) {index : Nat} {v : Int64} (hw : Cond.constantLong own index v ∈ lw_good) (d : decode cc pc = .ok (.ldc2_w index, 3)) (k : J G p l e R s m args below meth c z nL Q ct N cells slots (pc + 3) lv (.long v :: rest)) : J G p l e R s m args below meth c z nL Q ct N cells slots pc lv rest := fun H locs ls hP hS hl => lv_ldc2 C.x C.b C.o (C.w _ hw) d (k H locs ls hP hS hl)
theorem j_ldc2d (C : Cx G p s m args meth c cc nL own z ret nme) {index : Nat} {v : UInt64} (hw : Cond.constantDouble own index v ∈ lw_good) (d : decode cc pc = .ok (.ldc2_w index, 3)) (k : J G p l e R s m args below meth c z nL Q ct N cells slots (pc + 3) lv (.double v :: rest)) : J G p l e R s m args below meth c z nL Q ct N cells slots pc lv rest := fun H locs ls hP hS hl => lv_ldc2d C.x C.b C.o (C.w _ hw) d (k H locs ls hP hS hl)
theorem j_ldcw (C : Cx G p s m args meth c cc nL own z ret nme) {index : Nat} {v : Int32} (hw : Cond.constant own index v ∈ lw_good) (d : decode cc pc = .ok (.ldc_w index, 3)) (k : J G p l e R s m args below meth c z nL Q ct N cells slots (pc + 3) lv (.int v :: rest)) : J G p l e R s m args below meth c z nL Q ct N cells slots pc lv rest := fun H locs ls hP hS hl => lv_ldcw C.x C.b C.o (C.w _ hw) d (k H locs ls hP hS hl)
theorem j_iload_n (C : Cx G p s m args meth c cc nL own z ret nme) {k0 : Fin 4} {i : Nat} {x : Int32} (d : decode cc pc = .ok (.iload_n k0, 1)) (j : Nat) (hj : lv[j]? = some (i, .int x)) (hi : (k0 : Nat) = i) (k : J G p l e R s m args below meth c z nL Q ct N cells slots (pc + 1) lv (.int x :: rest)) : J G p l e R s m args below meth c z nL Q ct N cells slots pc lv rest := fun H locs ls hP hS hl => lv_iload_n C.x C.b d hi (lv_at hl j hj) (k H locs ls hP hS hl)
theorem j_iload (C : Cx G p s m args meth c cc nL own z ret nme) {i : Nat} {x : Int32} (d : decode cc pc = .ok (.iload i, 2)) (j : Nat) (hj : lv[j]? = some (i, .int x)) (k : J G p l e R s m args below meth c z nL Q ct N cells slots (pc + 2) lv (.int x :: rest)) : J G p l e R s m args below meth c z nL Q ct N cells slots pc lv rest := fun H locs ls hP hS hl => lv_iload C.x C.b d (lv_at hl j hj) (k H locs ls hP hS hl)
theorem j_lload_n (C : Cx G p s m args meth c cc nL own z ret nme) {k0 : Fin 4} {i : Nat} {x : Int64} (d : decode cc pc = .ok (.lload_n k0, 1)) (j : Nat) (hj : lv[j]? = some (i, .long x)) (hi : (k0 : Nat) = i) (k : J G p l e R s m args below meth c z nL Q ct N cells slots (pc + 1) lv (.long x :: rest)) : J G p l e R s m args below meth c z nL Q ct N cells slots pc lv rest := fun H locs ls hP hS hl => lv_lload_n C.x C.b d hi (lv_at hl j hj) (k H locs ls hP hS hl)
theorem j_lload (C : Cx G p s m args meth c cc nL own z ret nme) {i : Nat} {x : Int64} (d : decode cc pc = .ok (.lload i, 2)) (j : Nat) (hj : lv[j]? = some (i, .long x)) (k : J G p l e R s m args below meth c z nL Q ct N cells slots (pc + 2) lv (.long x :: rest)) : J G p l e R s m args below meth c z nL Q ct N cells slots pc lv rest := fun H locs ls hP hS hl => lv_lload C.x C.b d (lv_at hl j hj) (k H locs ls hP hS hl)
theorem j_dload_n (C : Cx G p s m args meth c cc nL own z ret nme) {k0 : Fin 4} {i : Nat} {x : UInt64} (d : decode cc pc = .ok (.dload_n k0, 1)) (j : Nat) (hj : lv[j]? = some (i, .double x)) (hi : (k0 : Nat) = i) (k : J G p l e R s m args below meth c z nL Q ct N cells slots (pc + 1) lv (.double x :: rest)) : J G p l e R s m args below meth c z nL Q ct N cells slots pc lv rest := fun H locs ls hP hS hl => lv_dload_n C.x C.b d hi (lv_at hl j hj) (k H locs ls hP hS hl)
theorem j_dload (C : Cx G p s m args meth c cc nL own z ret nme) {i : Nat} {x : UInt64} (d : decode cc pc = .ok (.dload i, 2)) (j : Nat) (hj : lv[j]? = some (i, .double x)) (k : J G p l e R s m args below meth c z nL Q ct N cells slots (pc + 2) lv (.double x :: rest)) : J G p l e R s m args below meth c z nL Q ct N cells slots pc lv rest := fun H locs ls hP hS hl => lv_dload C.x C.b d (lv_at hl j hj) (k H locs ls hP hS hl)
theorem j_aload_n (C : Cx G p s m args meth c cc nL own z ret nme) {k0 : Fin 4} {i : Nat} {x : Nat} (d : decode cc pc = .ok (.aload_n k0, 1)) (j : Nat) (hj : lv[j]? = some (i, .ref x)) (hi : (k0 : Nat) = i) (k : J G p l e R s m args below meth c z nL Q ct N cells slots (pc + 1) lv (.ref x :: rest)) : J G p l e R s m args below meth c z nL Q ct N cells slots pc lv rest := fun H locs ls hP hS hl => lv_aload_n C.x C.b d hi (lv_at hl j hj) (k H locs ls hP hS hl)
theorem j_aload (C : Cx G p s m args meth c cc nL own z ret nme) {i : Nat} {x : Nat} (d : decode cc pc = .ok (.aload i, 2)) (j : Nat) (hj : lv[j]? = some (i, .ref x)) (k : J G p l e R s m args below meth c z nL Q ct N cells slots (pc + 2) lv (.ref x :: rest)) : J G p l e R s m args below meth c z nL Q ct N cells slots pc lv rest := fun H locs ls hP hS hl => lv_aload C.x C.b d (lv_at hl j hj) (k H locs ls hP hS hl)
theorem j_istore_n (C : Cx G p s m args meth c cc nL own z ret nme) {k0 : Fin 4} {i : Nat} {x : Int32} (lv' : List (Nat × Value)) (d : decode cc pc = .ok (.istore_n k0, 1)) (hi : (k0 : Nat) = i) (hn : i < nL) (hl0 : (i, Value.int x) :: lv.filter (fun q => !(q.1 == i) && !(q.1 + 1 == i && q.2.category == 2)) = lv') (k : J G p l e R s m args below meth c z nL Q ct N cells slots (pc + 1) lv' rest) : J G p l e R s m args below meth c z nL Q ct N cells slots pc lv (.int x :: rest) := fun H locs ls hP hS hl => lv_istore_n C.x C.b d hi hl hn hl0 (fun ls hl => k H locs ls hP hS hl)
theorem j_istore (C : Cx G p s m args meth c cc nL own z ret nme) {i : Nat} {x : Int32} (lv' : List (Nat × Value)) (d : decode cc pc = .ok (.istore i, 2)) (hn : i < nL) (hl0 : (i, Value.int x) :: lv.filter (fun q => !(q.1 == i) && !(q.1 + 1 == i && q.2.category == 2)) = lv') (k : J G p l e R s m args below meth c z nL Q ct N cells slots (pc + 2) lv' rest) : J G p l e R s m args below meth c z nL Q ct N cells slots pc lv (.int x :: rest) := fun H locs ls hP hS hl => lv_istore C.x C.b d hl hn hl0 (fun ls hl => k H locs ls hP hS hl)
theorem j_lstore_n (C : Cx G p s m args meth c cc nL own z ret nme) {k0 : Fin 4} {i : Nat} {x : Int64} (lv' : List (Nat × Value)) (d : decode cc pc = .ok (.lstore_n k0, 1)) (hi : (k0 : Nat) = i) (hn : i + 1 < nL) (hl0 : (i, Value.long x) :: lv.filter (fun q => !(q.1 == i) && (!(q.1 == i + 1) && !(q.1 + 1 == i && q.2.category == 2))) = lv') (k : J G p l e R s m args below meth c z nL Q ct N cells slots (pc + 1) lv' rest) : J G p l e R s m args below meth c z nL Q ct N cells slots pc lv (.long x :: rest) := fun H locs ls hP hS hl => lv_lstore_n C.x C.b d hi hl hn hl0 (fun ls hl => k H locs ls hP hS hl)
theorem j_lstore (C : Cx G p s m args meth c cc nL own z ret nme) {i : Nat} {x : Int64} (lv' : List (Nat × Value)) (d : decode cc pc = .ok (.lstore i, 2)) (hn : i + 1 < nL) (hl0 : (i, Value.long x) :: lv.filter (fun q => !(q.1 == i) && (!(q.1 == i + 1) && !(q.1 + 1 == i && q.2.category == 2))) = lv') (k : J G p l e R s m args below meth c z nL Q ct N cells slots (pc + 2) lv' rest) : J G p l e R s m args below meth c z nL Q ct N cells slots pc lv (.long x :: rest) := fun H locs ls hP hS hl => lv_lstore C.x C.b d hl hn hl0 (fun ls hl => k H locs ls hP hS hl)
theorem j_dstore_n (C : Cx G p s m args meth c cc nL own z ret nme) {k0 : Fin 4} {i : Nat} {x : UInt64} (lv' : List (Nat × Value)) (d : decode cc pc = .ok (.dstore_n k0, 1)) (hi : (k0 : Nat) = i) (hn : i + 1 < nL) (hl0 : (i, Value.double x) :: lv.filter (fun q => !(q.1 == i) && (!(q.1 == i + 1) && !(q.1 + 1 == i && q.2.category == 2))) = lv') (k : J G p l e R s m args below meth c z nL Q ct N cells slots (pc + 1) lv' rest) : J G p l e R s m args below meth c z nL Q ct N cells slots pc lv (.double x :: rest) := fun H locs ls hP hS hl => lv_dstore_n C.x C.b d hi hl hn hl0 (fun ls hl => k H locs ls hP hS hl)
theorem j_dstore (C : Cx G p s m args meth c cc nL own z ret nme) {i : Nat} {x : UInt64} (lv' : List (Nat × Value)) (d : decode cc pc = .ok (.dstore i, 2)) (hn : i + 1 < nL) (hl0 : (i, Value.double x) :: lv.filter (fun q => !(q.1 == i) && (!(q.1 == i + 1) && !(q.1 + 1 == i && q.2.category == 2))) = lv') (k : J G p l e R s m args below meth c z nL Q ct N cells slots (pc + 2) lv' rest) : J G p l e R s m args below meth c z nL Q ct N cells slots pc lv (.double x :: rest) := fun H locs ls hP hS hl => lv_dstore C.x C.b d hl hn hl0 (fun ls hl => k H locs ls hP hS hl)
theorem j_astore_n (C : Cx G p s m args meth c cc nL own z ret nme) {k0 : Fin 4} {i : Nat} {x : Nat} (lv' : List (Nat × Value)) (d : decode cc pc = .ok (.astore_n k0, 1)) (hi : (k0 : Nat) = i) (hn : i < nL) (hl0 : (i, Value.ref x) :: lv.filter (fun q => !(q.1 == i) && !(q.1 + 1 == i && q.2.category == 2)) = lv') (k : J G p l e R s m args below meth c z nL Q ct N cells slots (pc + 1) lv' rest) : J G p l e R s m args below meth c z nL Q ct N cells slots pc lv (.ref x :: rest) := fun H locs ls hP hS hl => lv_astore_n C.x C.b d hi hl hn hl0 (fun ls hl => k H locs ls hP hS hl)
theorem j_astore (C : Cx G p s m args meth c cc nL own z ret nme) {i : Nat} {x : Nat} (lv' : List (Nat × Value)) (d : decode cc pc = .ok (.astore i, 2)) (hn : i < nL) (hl0 : (i, Value.ref x) :: lv.filter (fun q => !(q.1 == i) && !(q.1 + 1 == i && q.2.category == 2)) = lv') (k : J G p l e R s m args below meth c z nL Q ct N cells slots (pc + 2) lv' rest) : J G p l e R s m args below meth c z nL Q ct N cells slots pc lv (.ref x :: rest) := fun H locs ls hP hS hl => lv_astore C.x C.b d hl hn hl0 (fun ls hl => k H locs ls hP hS hl)
theorem j_iinc (C : Cx G p s m args meth c cc nL own z ret nme) {i : Nat} {n : Int} {x v : Int32} (lv' : List (Nat × Value)) (d : decode cc pc = .ok (.iinc i n, 3)) (j : Nat) (hj : lv[j]? = some (i, .int x)) (hv : x + Int32.ofInt n = v) (hn : i < nL) (hl0 : (i, Value.int v) :: lv.filter (fun q => !(q.1 == i) && !(q.1 + 1 == i && q.2.category == 2)) = lv') (k : J G p l e R s m args below meth c z nL Q ct N cells slots (pc + 3) lv' rest) : J G p l e R s m args below meth c z nL Q ct N cells slots pc lv rest := fun H locs ls hP hS hl => lv_iinc C.x C.b d hl hj hv hn hl0 (fun ls hl => k H locs ls hP hS hl)
theorem j_iadd (C : Cx G p s m args meth c cc nL own z ret nme) {x y : Int32} (d : decode cc pc = .ok (.iadd, 1)) (k : J G p l e R s m args below meth c z nL Q ct N cells slots (pc + 1) lv (.int (x + y) :: rest)) : J G p l e R s m args below meth c z nL Q ct N cells slots pc lv (.int y :: .int x :: rest) := fun H locs ls hP hS hl => lv_iadd C.x C.b d (k H locs ls hP hS hl)
theorem j_isub (C : Cx G p s m args meth c cc nL own z ret nme) {x y : Int32} (d : decode cc pc = .ok (.isub, 1)) (k : J G p l e R s m args below meth c z nL Q ct N cells slots (pc + 1) lv (.int (x - y) :: rest)) : J G p l e R s m args below meth c z nL Q ct N cells slots pc lv (.int y :: .int x :: rest) := fun H locs ls hP hS hl => lv_isub C.x C.b d (k H locs ls hP hS hl)
theorem j_imul (C : Cx G p s m args meth c cc nL own z ret nme) {x y : Int32} (d : decode cc pc = .ok (.imul, 1)) (k : J G p l e R s m args below meth c z nL Q ct N cells slots (pc + 1) lv (.int (x * y) :: rest)) : J G p l e R s m args below meth c z nL Q ct N cells slots pc lv (.int y :: .int x :: rest) := fun H locs ls hP hS hl => lv_imul C.x C.b d (k H locs ls hP hS hl)
theorem j_iand (C : Cx G p s m args meth c cc nL own z ret nme) {x y : Int32} (d : decode cc pc = .ok (.iand, 1)) (k : J G p l e R s m args below meth c z nL Q ct N cells slots (pc + 1) lv (.int (x &&& y) :: rest)) : J G p l e R s m args below meth c z nL Q ct N cells slots pc lv (.int y :: .int x :: rest) := fun H locs ls hP hS hl => lv_iand C.x C.b d (k H locs ls hP hS hl)
theorem j_ior (C : Cx G p s m args meth c cc nL own z ret nme) {x y : Int32} (d : decode cc pc = .ok (.ior, 1)) (k : J G p l e R s m args below meth c z nL Q ct N cells slots (pc + 1) lv (.int (x ||| y) :: rest)) : J G p l e R s m args below meth c z nL Q ct N cells slots pc lv (.int y :: .int x :: rest) := fun H locs ls hP hS hl => lv_ior C.x C.b d (k H locs ls hP hS hl)
theorem j_ixor (C : Cx G p s m args meth c cc nL own z ret nme) {x y : Int32} (d : decode cc pc = .ok (.ixor, 1)) (k : J G p l e R s m args below meth c z nL Q ct N cells slots (pc + 1) lv (.int (x ^^^ y) :: rest)) : J G p l e R s m args below meth c z nL Q ct N cells slots pc lv (.int y :: .int x :: rest) := fun H locs ls hP hS hl => lv_ixor C.x C.b d (k H locs ls hP hS hl)
theorem j_ishl (C : Cx G p s m args meth c cc nL own z ret nme) {x y : Int32} (d : decode cc pc = .ok (.ishl, 1)) (k : J G p l e R s m args below meth c z nL Q ct N cells slots (pc + 1) lv (.int (x <<< (y &&& 31)) :: rest)) : J G p l e R s m args below meth c z nL Q ct N cells slots pc lv (.int y :: .int x :: rest) := fun H locs ls hP hS hl => lv_ishl C.x C.b d (k H locs ls hP hS hl)
theorem j_ishr (C : Cx G p s m args meth c cc nL own z ret nme) {x y : Int32} (d : decode cc pc = .ok (.ishr, 1)) (k : J G p l e R s m args below meth c z nL Q ct N cells slots (pc + 1) lv (.int (x >>> (y &&& 31)) :: rest)) : J G p l e R s m args below meth c z nL Q ct N cells slots pc lv (.int y :: .int x :: rest) := fun H locs ls hP hS hl => lv_ishr C.x C.b d (k H locs ls hP hS hl)
theorem j_ladd (C : Cx G p s m args meth c cc nL own z ret nme) {x y : Int64} (d : decode cc pc = .ok (.ladd, 1)) (k : J G p l e R s m args below meth c z nL Q ct N cells slots (pc + 1) lv (.long (x + y) :: rest)) : J G p l e R s m args below meth c z nL Q ct N cells slots pc lv (.long y :: .long x :: rest) := fun H locs ls hP hS hl => lv_ladd C.x C.b d (k H locs ls hP hS hl)
theorem j_lsub (C : Cx G p s m args meth c cc nL own z ret nme) {x y : Int64} (d : decode cc pc = .ok (.lsub, 1)) (k : J G p l e R s m args below meth c z nL Q ct N cells slots (pc + 1) lv (.long (x - y) :: rest)) : J G p l e R s m args below meth c z nL Q ct N cells slots pc lv (.long y :: .long x :: rest) := fun H locs ls hP hS hl => lv_lsub C.x C.b d (k H locs ls hP hS hl)
theorem j_lmul (C : Cx G p s m args meth c cc nL own z ret nme) {x y : Int64} (d : decode cc pc = .ok (.lmul, 1)) (k : J G p l e R s m args below meth c z nL Q ct N cells slots (pc + 1) lv (.long (x * y) :: rest)) : J G p l e R s m args below meth c z nL Q ct N cells slots pc lv (.long y :: .long x :: rest) := fun H locs ls hP hS hl => lv_lmul C.x C.b d (k H locs ls hP hS hl)
theorem j_land (C : Cx G p s m args meth c cc nL own z ret nme) {x y : Int64} (d : decode cc pc = .ok (.land, 1)) (k : J G p l e R s m args below meth c z nL Q ct N cells slots (pc + 1) lv (.long (x &&& y) :: rest)) : J G p l e R s m args below meth c z nL Q ct N cells slots pc lv (.long y :: .long x :: rest) := fun H locs ls hP hS hl => lv_land C.x C.b d (k H locs ls hP hS hl)
theorem j_lor (C : Cx G p s m args meth c cc nL own z ret nme) {x y : Int64} (d : decode cc pc = .ok (.lor, 1)) (k : J G p l e R s m args below meth c z nL Q ct N cells slots (pc + 1) lv (.long (x ||| y) :: rest)) : J G p l e R s m args below meth c z nL Q ct N cells slots pc lv (.long y :: .long x :: rest) := fun H locs ls hP hS hl => lv_lor C.x C.b d (k H locs ls hP hS hl)
theorem j_lxor (C : Cx G p s m args meth c cc nL own z ret nme) {x y : Int64} (d : decode cc pc = .ok (.lxor, 1)) (k : J G p l e R s m args below meth c z nL Q ct N cells slots (pc + 1) lv (.long (x ^^^ y) :: rest)) : J G p l e R s m args below meth c z nL Q ct N cells slots pc lv (.long y :: .long x :: rest) := fun H locs ls hP hS hl => lv_lxor C.x C.b d (k H locs ls hP hS hl)
theorem j_iushr (C : Cx G p s m args meth c cc nL own z ret nme) {x y : Int32} (d : decode cc pc = .ok (.iushr, 1)) (k : J G p l e R s m args below meth c z nL Q ct N cells slots (pc + 1) lv (.int (x.toUInt32 >>> (y.toUInt32 &&& Int32.toUInt32 31)).toInt32 :: rest)) : J G p l e R s m args below meth c z nL Q ct N cells slots pc lv (.int y :: .int x :: rest) := fun H locs ls hP hS hl => lv_iushr C.x C.b d rfl (k H locs ls hP hS hl)
theorem j_lshl (C : Cx G p s m args meth c cc nL own z ret nme) {x : Int64} {y : Int32} (d : decode cc pc = .ok (.lshl, 1)) (k : J G p l e R s m args below meth c z nL Q ct N cells slots (pc + 1) lv (.long (x <<< (y.toInt64 &&& 63)) :: rest)) : J G p l e R s m args below meth c z nL Q ct N cells slots pc lv (.int y :: .long x :: rest) := fun H locs ls hP hS hl => lv_lshl C.x C.b d rfl (k H locs ls hP hS hl)
theorem j_lshr (C : Cx G p s m args meth c cc nL own z ret nme) {x : Int64} {y : Int32} (d : decode cc pc = .ok (.lshr, 1)) (k : J G p l e R s m args below meth c z nL Q ct N cells slots (pc + 1) lv (.long (x >>> (y.toInt64 &&& 63)) :: rest)) : J G p l e R s m args below meth c z nL Q ct N cells slots pc lv (.int y :: .long x :: rest) := fun H locs ls hP hS hl => lv_lshr C.x C.b d rfl (k H locs ls hP hS hl)
theorem j_ineg (C : Cx G p s m args meth c cc nL own z ret nme) {x : Int32} (d : decode cc pc = .ok (.ineg, 1)) (k : J G p l e R s m args below meth c z nL Q ct N cells slots (pc + 1) lv (.int (-x) :: rest)) : J G p l e R s m args below meth c z nL Q ct N cells slots pc lv (.int x :: rest) := fun H locs ls hP hS hl => lv_ineg C.x C.b d (k H locs ls hP hS hl)
theorem j_lneg (C : Cx G p s m args meth c cc nL own z ret nme) {x : Int64} (d : decode cc pc = .ok (.lneg, 1)) (k : J G p l e R s m args below meth c z nL Q ct N cells slots (pc + 1) lv (.long (-x) :: rest)) : J G p l e R s m args below meth c z nL Q ct N cells slots pc lv (.long x :: rest) := fun H locs ls hP hS hl => lv_lneg C.x C.b d (k H locs ls hP hS hl)
theorem j_i2l (C : Cx G p s m args meth c cc nL own z ret nme) {x : Int32} (d : decode cc pc = .ok (.i2l, 1)) (k : J G p l e R s m args below meth c z nL Q ct N cells slots (pc + 1) lv (.long x.toInt64 :: rest)) : J G p l e R s m args below meth c z nL Q ct N cells slots pc lv (.int x :: rest) := fun H locs ls hP hS hl => lv_i2l C.x C.b d rfl (k H locs ls hP hS hl)
theorem j_l2i (C : Cx G p s m args meth c cc nL own z ret nme) {x : Int64} (d : decode cc pc = .ok (.l2i, 1)) (k : J G p l e R s m args below meth c z nL Q ct N cells slots (pc + 1) lv (.int x.toInt32 :: rest)) : J G p l e R s m args below meth c z nL Q ct N cells slots pc lv (.long x :: rest) := fun H locs ls hP hS hl => lv_l2i C.x C.b d rfl (k H locs ls hP hS hl)
theorem j_i2d (C : Cx G p s m args meth c cc nL own z ret nme) {x : Int32} (d : decode cc pc = .ok (.i2d, 1)) (k : J G p l e R s m args below meth c z nL Q ct N cells slots (pc + 1) lv (.double (FP.i2d x) :: rest)) : J G p l e R s m args below meth c z nL Q ct N cells slots pc lv (.int x :: rest) := fun H locs ls hP hS hl => lv_i2d C.x C.b d (k H locs ls hP hS hl)
theorem j_l2d (C : Cx G p s m args meth c cc nL own z ret nme) {x : Int64} (d : decode cc pc = .ok (.l2d, 1)) (k : J G p l e R s m args below meth c z nL Q ct N cells slots (pc + 1) lv (.double (FP.l2d x) :: rest)) : J G p l e R s m args below meth c z nL Q ct N cells slots pc lv (.long x :: rest) := fun H locs ls hP hS hl => lv_l2d C.x C.b d (k H locs ls hP hS hl)
theorem j_d2l (C : Cx G p s m args meth c cc nL own z ret nme) {x : UInt64} (d : decode cc pc = .ok (.d2l, 1)) (k : J G p l e R s m args below meth c z nL Q ct N cells slots (pc + 1) lv (.long (FP.d2l x) :: rest)) : J G p l e R s m args below meth c z nL Q ct N cells slots pc lv (.double x :: rest) := fun H locs ls hP hS hl => lv_d2l C.x C.b d (k H locs ls hP hS hl)
theorem j_dneg (C : Cx G p s m args meth c cc nL own z ret nme) {x : UInt64} (d : decode cc pc = .ok (.dneg, 1)) (k : J G p l e R s m args below meth c z nL Q ct N cells slots (pc + 1) lv (.double (FP.dneg x) :: rest)) : J G p l e R s m args below meth c z nL Q ct N cells slots pc lv (.double x :: rest) := fun H locs ls hP hS hl => lv_dneg C.x C.b d (k H locs ls hP hS hl)
theorem j_dcmp (C : Cx G p s m args meth c cc nL own z ret nme) {x y : UInt64} {op : CmpOp} (d : decode cc pc = .ok (.dcmp op, 1)) (k : J G p l e R s m args below meth c z nL Q ct N cells slots (pc + 1) lv (.int (Op.cmpValue (FP.dcmp x y) op) :: rest)) : J G p l e R s m args below meth c z nL Q ct N cells slots pc lv (.double y :: .double x :: rest) := fun H locs ls hP hS hl => lv_dcmp C.x C.b d (k H locs ls hP hS hl)
theorem j_lcmp (C : Cx G p s m args meth c cc nL own z ret nme) {x y : Int64} (d : decode cc pc = .ok (.lcmp, 1)) (k : J G p l e R s m args below meth c z nL Q ct N cells slots (pc + 1) lv (.int (lg_cmp x y) :: rest)) : J G p l e R s m args below meth c z nL Q ct N cells slots pc lv (.long y :: .long x :: rest) := fun H locs ls hP hS hl => W.lcmp C.x C.b d (k H locs ls hP hS hl)
theorem j_dup (C : Cx G p s m args meth c cc nL own z ret nme) {va : Value} (d : decode cc pc = .ok (.dup, 1)) (hc : va.category = 1) (k : J G p l e R s m args below meth c z nL Q ct N cells slots (pc + 1) lv (va :: va :: rest)) : J G p l e R s m args below meth c z nL Q ct N cells slots pc lv (va :: rest) := fun H locs ls hP hS hl => lv_dup C.x C.b d hc (k H locs ls hP hS hl)
theorem j_pop (C : Cx G p s m args meth c cc nL own z ret nme) {va : Value} (d : decode cc pc = .ok (.pop, 1)) (hc : va.category = 1) (k : J G p l e R s m args below meth c z nL Q ct N cells slots (pc + 1) lv rest) : J G p l e R s m args below meth c z nL Q ct N cells slots pc lv (va :: rest) := fun H locs ls hP hS hl => lv_pop C.x C.b d hc (k H locs ls hP hS hl)
theorem j_dup2_11 (C : Cx G p s m args meth c cc nL own z ret nme) {va vb : Value} (d : decode cc pc = .ok (.dup2, 1)) (hc : va.category = 1) (hc2 : vb.category = 1) (k : J G p l e R s m args below meth c z nL Q ct N cells slots (pc + 1) lv (va :: vb :: va :: vb :: rest)) : J G p l e R s m args below meth c z nL Q ct N cells slots pc lv (va :: vb :: rest) := fun H locs ls hP hS hl => lv_dup2_11 C.x C.b d hc hc2 (k H locs ls hP hS hl)
theorem j_dup_x1 (C : Cx G p s m args meth c cc nL own z ret nme) {va vb : Value} (d : decode cc pc = .ok (.dup_x1, 1)) (hc : va.category = 1) (hc2 : vb.category = 1) (k : J G p l e R s m args below meth c z nL Q ct N cells slots (pc + 1) lv (va :: vb :: va :: rest)) : J G p l e R s m args below meth c z nL Q ct N cells slots pc lv (va :: vb :: rest) := fun H locs ls hP hS hl => lv_dup_x1 C.x C.b d hc hc2 (k H locs ls hP hS hl)
theorem j_dadd (C : Cx G p s m args meth c cc nL own z ret nme) {x y : UInt64} {α : Type} {a : Option α} {r : α} (hg : (if FP.dIsNaN (FP.dadd x y) = false then a else none) = some r) (d : decode cc pc = .ok (.dadd, 1)) (k : a = some r → J G p l e R s m args below meth c z nL Q ct N cells slots (pc + 1) lv (.double (FP.dadd x y) :: rest)) : J G p l e R s m args below meth c z nL Q ct N cells slots pc lv (.double y :: .double x :: rest) := by
  by_cases hc : FP.dIsNaN (FP.dadd x y) = false
  · rw [if_pos hc] at hg
    exact fun H locs ls hP hS hl => lv_dadd C.x C.b d (n64_of hc) (k hg H locs ls hP hS hl)
  · rw [if_neg hc] at hg
    cases hg
theorem j_dsub (C : Cx G p s m args meth c cc nL own z ret nme) {x y : UInt64} {α : Type} {a : Option α} {r : α} (hg : (if FP.dIsNaN (FP.dsub x y) = false then a else none) = some r) (d : decode cc pc = .ok (.dsub, 1)) (k : a = some r → J G p l e R s m args below meth c z nL Q ct N cells slots (pc + 1) lv (.double (FP.dsub x y) :: rest)) : J G p l e R s m args below meth c z nL Q ct N cells slots pc lv (.double y :: .double x :: rest) := by
  by_cases hc : FP.dIsNaN (FP.dsub x y) = false
  · rw [if_pos hc] at hg
    exact fun H locs ls hP hS hl => lv_dsub C.x C.b d (n64_of hc) (k hg H locs ls hP hS hl)
  · rw [if_neg hc] at hg
    cases hg
theorem j_dmul (C : Cx G p s m args meth c cc nL own z ret nme) {x y : UInt64} {α : Type} {a : Option α} {r : α} (hg : (if FP.dIsNaN (FP.dmul x y) = false then a else none) = some r) (d : decode cc pc = .ok (.dmul, 1)) (k : a = some r → J G p l e R s m args below meth c z nL Q ct N cells slots (pc + 1) lv (.double (FP.dmul x y) :: rest)) : J G p l e R s m args below meth c z nL Q ct N cells slots pc lv (.double y :: .double x :: rest) := by
  by_cases hc : FP.dIsNaN (FP.dmul x y) = false
  · rw [if_pos hc] at hg
    exact fun H locs ls hP hS hl => lv_dmul C.x C.b d (n64_of hc) (k hg H locs ls hP hS hl)
  · rw [if_neg hc] at hg
    cases hg
theorem j_ddiv (C : Cx G p s m args meth c cc nL own z ret nme) {x y : UInt64} {α : Type} {a : Option α} {r : α} (hg : (if FP.dIsNaN (FP.ddiv x y) = false then a else none) = some r) (d : decode cc pc = .ok (.ddiv, 1)) (k : a = some r → J G p l e R s m args below meth c z nL Q ct N cells slots (pc + 1) lv (.double (FP.ddiv x y) :: rest)) : J G p l e R s m args below meth c z nL Q ct N cells slots pc lv (.double y :: .double x :: rest) := by
  by_cases hc : FP.dIsNaN (FP.ddiv x y) = false
  · rw [if_pos hc] at hg
    exact fun H locs ls hP hS hl => lv_ddiv C.x C.b d (n64_of hc) (k hg H locs ls hP hS hl)
  · rw [if_neg hc] at hg
    cases hg
theorem j_drem (C : Cx G p s m args meth c cc nL own z ret nme) {x y : UInt64} {α : Type} {a : Option α} {r : α} (hg : (if FP.dIsNaN (FP.drem x y) = false then a else none) = some r) (d : decode cc pc = .ok (.drem, 1)) (k : a = some r → J G p l e R s m args below meth c z nL Q ct N cells slots (pc + 1) lv (.double (FP.drem x y) :: rest)) : J G p l e R s m args below meth c z nL Q ct N cells slots pc lv (.double y :: .double x :: rest) := by
  by_cases hc : FP.dIsNaN (FP.drem x y) = false
  · rw [if_pos hc] at hg
    exact fun H locs ls hP hS hl => lv_drem C.x C.b d (n64_of hc) (k hg H locs ls hP hS hl)
  · rw [if_neg hc] at hg
    cases hg
theorem j_fadd (C : Cx G p s m args meth c cc nL own z ret nme) {x y : UInt32} {α : Type} {a : Option α} {r : α} (hg : (if FP.fIsNaN (FP.fadd x y) = false then a else none) = some r) (d : decode cc pc = .ok (.fadd, 1)) (k : a = some r → J G p l e R s m args below meth c z nL Q ct N cells slots (pc + 1) lv (.float (FP.fadd x y) :: rest)) : J G p l e R s m args below meth c z nL Q ct N cells slots pc lv (.float y :: .float x :: rest) := by
  by_cases hc : FP.fIsNaN (FP.fadd x y) = false
  · rw [if_pos hc] at hg
    exact fun H locs ls hP hS hl => lv_fadd C.x C.b d (n32_of hc) (k hg H locs ls hP hS hl)
  · rw [if_neg hc] at hg
    cases hg
theorem j_fmul (C : Cx G p s m args meth c cc nL own z ret nme) {x y : UInt32} {α : Type} {a : Option α} {r : α} (hg : (if FP.fIsNaN (FP.fmul x y) = false then a else none) = some r) (d : decode cc pc = .ok (.fmul, 1)) (k : a = some r → J G p l e R s m args below meth c z nL Q ct N cells slots (pc + 1) lv (.float (FP.fmul x y) :: rest)) : J G p l e R s m args below meth c z nL Q ct N cells slots pc lv (.float y :: .float x :: rest) := by
  by_cases hc : FP.fIsNaN (FP.fmul x y) = false
  · rw [if_pos hc] at hg
    exact fun H locs ls hP hS hl => lv_fmul C.x C.b d (n32_of hc) (k hg H locs ls hP hS hl)
  · rw [if_neg hc] at hg
    cases hg
theorem j_fdiv (C : Cx G p s m args meth c cc nL own z ret nme) {x y : UInt32} {α : Type} {a : Option α} {r : α} (hg : (if FP.fIsNaN (FP.fdiv x y) = false then a else none) = some r) (d : decode cc pc = .ok (.fdiv, 1)) (k : a = some r → J G p l e R s m args below meth c z nL Q ct N cells slots (pc + 1) lv (.float (FP.fdiv x y) :: rest)) : J G p l e R s m args below meth c z nL Q ct N cells slots pc lv (.float y :: .float x :: rest) := by
  by_cases hc : FP.fIsNaN (FP.fdiv x y) = false
  · rw [if_pos hc] at hg
    exact fun H locs ls hP hS hl => lv_fdiv C.x C.b d (n32_of hc) (k hg H locs ls hP hS hl)
  · rw [if_neg hc] at hg
    cases hg
theorem j_d2f (C : Cx G p s m args meth c cc nL own z ret nme) {x : UInt64} {α : Type} {a : Option α} {r : α} (hg : (if FP.fIsNaN (FP.d2f x) = false then a else none) = some r) (d : decode cc pc = .ok (.d2f, 1)) (k : a = some r → J G p l e R s m args below meth c z nL Q ct N cells slots (pc + 1) lv (.float (FP.d2f x) :: rest)) : J G p l e R s m args below meth c z nL Q ct N cells slots pc lv (.double x :: rest) := by
  by_cases hc : FP.fIsNaN (FP.d2f x) = false
  · rw [if_pos hc] at hg
    exact fun H locs ls hP hS hl => lv_d2f C.x C.b d (n32_of hc) (k hg H locs ls hP hS hl)
  · rw [if_neg hc] at hg
    cases hg
theorem j_f2d (C : Cx G p s m args meth c cc nL own z ret nme) {x : UInt32} {α : Type} {a : Option α} {r : α} (hg : (if FP.dIsNaN (FP.f2d x) = false then a else none) = some r) (d : decode cc pc = .ok (.f2d, 1)) (k : a = some r → J G p l e R s m args below meth c z nL Q ct N cells slots (pc + 1) lv (.double (FP.f2d x) :: rest)) : J G p l e R s m args below meth c z nL Q ct N cells slots pc lv (.float x :: rest) := by
  by_cases hc : FP.dIsNaN (FP.f2d x) = false
  · rw [if_pos hc] at hg
    exact fun H locs ls hP hS hl => lv_f2d C.x C.b d (n64_of hc) (k hg H locs ls hP hS hl)
  · rw [if_neg hc] at hg
    cases hg
theorem j_lrem (C : Cx G p s m args meth c cc nL own z ret nme) {x y : Int64} {α : Type} {a : Option α} {r : α} (hg : (if ¬ y = 0 then a else none) = some r) (d : decode cc pc = .ok (.lrem, 1)) (k : a = some r → J G p l e R s m args below meth c z nL Q ct N cells slots (pc + 1) lv (.long (x - x / y * y) :: rest)) : J G p l e R s m args below meth c z nL Q ct N cells slots pc lv (.long y :: .long x :: rest) := by
  by_cases hc : ¬ y = 0
  · rw [if_pos hc] at hg
    exact fun H locs ls hP hS hl => lv_lrem C.x C.b d hc (k hg H locs ls hP hS hl)
  · rw [if_neg hc] at hg
    cases hg
theorem j_irem (C : Cx G p s m args meth c cc nL own z ret nme) {x y : Int32} {α : Type} {a : Option α} {r : α} (hg : (if ¬ y = 0 then a else none) = some r) (d : decode cc pc = .ok (.irem, 1)) (k : a = some r → J G p l e R s m args below meth c z nL Q ct N cells slots (pc + 1) lv (.int (x - x / y * y) :: rest)) : J G p l e R s m args below meth c z nL Q ct N cells slots pc lv (.int y :: .int x :: rest) := by
  by_cases hc : ¬ y = 0
  · rw [if_pos hc] at hg
    exact fun H locs ls hP hS hl => lv_irem C.x C.b d hc (k hg H locs ls hP hS hl)
  · rw [if_neg hc] at hg
    cases hg
theorem j_idiv (C : Cx G p s m args meth c cc nL own z ret nme) {x y : Int32} {α : Type} {a : Option α} {r : α} (hg : (if ¬ y = 0 then a else none) = some r) (d : decode cc pc = .ok (.idiv, 1)) (k : a = some r → J G p l e R s m args below meth c z nL Q ct N cells slots (pc + 1) lv (.int (x / y) :: rest)) : J G p l e R s m args below meth c z nL Q ct N cells slots pc lv (.int y :: .int x :: rest) := by
  by_cases hc : ¬ y = 0
  · rw [if_pos hc] at hg
    exact fun H locs ls hP hS hl => lv_idiv C.x C.b d hc (k hg H locs ls hP hS hl)
  · rw [if_neg hc] at hg
    cases hg
theorem j_if_eq (C : Cx G p s m args meth c cc nL own z ret nme) {x : Int32} {off : Int} (tgt : Nat) {α : Type} {a b : Option α} {r : α} (hg : (if x = 0 then a else b) = some r) (d : decode cc pc = .ok (.ifCond .eq off, 3)) (ht : (pc : Int) + off = (tgt : Int)) (kt : a = some r → J G p l e R s m args below meth c z nL Q ct N cells slots tgt lv rest) (kf : b = some r → J G p l e R s m args below meth c z nL Q ct N cells slots (pc + 3) lv rest) : J G p l e R s m args below meth c z nL Q ct N cells slots pc lv (.int x :: rest) := fun H locs ls hP hS hl => lv_if_eq C.x C.b d ht (fun h => kt (by rw [if_pos h] at hg; exact hg) H locs ls hP hS hl) (fun h => kf (by rw [if_neg h] at hg; exact hg) H locs ls hP hS hl)
theorem j_if_ne (C : Cx G p s m args meth c cc nL own z ret nme) {x : Int32} {off : Int} (tgt : Nat) {α : Type} {a b : Option α} {r : α} (hg : (if x = 0 then b else a) = some r) (d : decode cc pc = .ok (.ifCond .ne off, 3)) (ht : (pc : Int) + off = (tgt : Int)) (kt : a = some r → J G p l e R s m args below meth c z nL Q ct N cells slots tgt lv rest) (kf : b = some r → J G p l e R s m args below meth c z nL Q ct N cells slots (pc + 3) lv rest) : J G p l e R s m args below meth c z nL Q ct N cells slots pc lv (.int x :: rest) := fun H locs ls hP hS hl => lv_if_ne C.x C.b d ht (fun h => kt (by rw [if_neg h] at hg; exact hg) H locs ls hP hS hl) (fun h => kf (by rw [if_pos h] at hg; exact hg) H locs ls hP hS hl)
theorem j_if_lt (C : Cx G p s m args meth c cc nL own z ret nme) {x : Int32} {off : Int} (tgt : Nat) {α : Type} {a b : Option α} {r : α} (hg : (if x < 0 then a else b) = some r) (d : decode cc pc = .ok (.ifCond .lt off, 3)) (ht : (pc : Int) + off = (tgt : Int)) (kt : a = some r → J G p l e R s m args below meth c z nL Q ct N cells slots tgt lv rest) (kf : b = some r → J G p l e R s m args below meth c z nL Q ct N cells slots (pc + 3) lv rest) : J G p l e R s m args below meth c z nL Q ct N cells slots pc lv (.int x :: rest) := fun H locs ls hP hS hl => lv_if_lt C.x C.b d ht (fun h => kt (by rw [if_pos h] at hg; exact hg) H locs ls hP hS hl) (fun h => kf (by rw [if_neg h] at hg; exact hg) H locs ls hP hS hl)
theorem j_if_ge (C : Cx G p s m args meth c cc nL own z ret nme) {x : Int32} {off : Int} (tgt : Nat) {α : Type} {a b : Option α} {r : α} (hg : (if 0 ≤ x then a else b) = some r) (d : decode cc pc = .ok (.ifCond .ge off, 3)) (ht : (pc : Int) + off = (tgt : Int)) (kt : a = some r → J G p l e R s m args below meth c z nL Q ct N cells slots tgt lv rest) (kf : b = some r → J G p l e R s m args below meth c z nL Q ct N cells slots (pc + 3) lv rest) : J G p l e R s m args below meth c z nL Q ct N cells slots pc lv (.int x :: rest) := fun H locs ls hP hS hl => lv_if_ge C.x C.b d ht (fun h => kt (by rw [if_pos h] at hg; exact hg) H locs ls hP hS hl) (fun h => kf (by rw [if_neg h] at hg; exact hg) H locs ls hP hS hl)
theorem j_if_gt (C : Cx G p s m args meth c cc nL own z ret nme) {x : Int32} {off : Int} (tgt : Nat) {α : Type} {a b : Option α} {r : α} (hg : (if 0 < x then a else b) = some r) (d : decode cc pc = .ok (.ifCond .gt off, 3)) (ht : (pc : Int) + off = (tgt : Int)) (kt : a = some r → J G p l e R s m args below meth c z nL Q ct N cells slots tgt lv rest) (kf : b = some r → J G p l e R s m args below meth c z nL Q ct N cells slots (pc + 3) lv rest) : J G p l e R s m args below meth c z nL Q ct N cells slots pc lv (.int x :: rest) := fun H locs ls hP hS hl => lv_if_gt C.x C.b d ht (fun h => kt (by rw [if_pos h] at hg; exact hg) H locs ls hP hS hl) (fun h => kf (by rw [if_neg h] at hg; exact hg) H locs ls hP hS hl)
theorem j_if_le (C : Cx G p s m args meth c cc nL own z ret nme) {x : Int32} {off : Int} (tgt : Nat) {α : Type} {a b : Option α} {r : α} (hg : (if x ≤ 0 then a else b) = some r) (d : decode cc pc = .ok (.ifCond .le off, 3)) (ht : (pc : Int) + off = (tgt : Int)) (kt : a = some r → J G p l e R s m args below meth c z nL Q ct N cells slots tgt lv rest) (kf : b = some r → J G p l e R s m args below meth c z nL Q ct N cells slots (pc + 3) lv rest) : J G p l e R s m args below meth c z nL Q ct N cells slots pc lv (.int x :: rest) := fun H locs ls hP hS hl => lv_if_le C.x C.b d ht (fun h => kt (by rw [if_pos h] at hg; exact hg) H locs ls hP hS hl) (fun h => kf (by rw [if_neg h] at hg; exact hg) H locs ls hP hS hl)
theorem j_icmp_eq (C : Cx G p s m args meth c cc nL own z ret nme) {x y : Int32} {off : Int} (tgt : Nat) {α : Type} {a b : Option α} {r : α} (hg : (if x = y then a else b) = some r) (d : decode cc pc = .ok (.if_icmp .eq off, 3)) (ht : (pc : Int) + off = (tgt : Int)) (kt : a = some r → J G p l e R s m args below meth c z nL Q ct N cells slots tgt lv rest) (kf : b = some r → J G p l e R s m args below meth c z nL Q ct N cells slots (pc + 3) lv rest) : J G p l e R s m args below meth c z nL Q ct N cells slots pc lv (.int y :: .int x :: rest) := fun H locs ls hP hS hl => lv_icmp_eq C.x C.b d ht (fun h => kt (by rw [if_pos h] at hg; exact hg) H locs ls hP hS hl) (fun h => kf (by rw [if_neg h] at hg; exact hg) H locs ls hP hS hl)
theorem j_icmp_ne (C : Cx G p s m args meth c cc nL own z ret nme) {x y : Int32} {off : Int} (tgt : Nat) {α : Type} {a b : Option α} {r : α} (hg : (if x = y then b else a) = some r) (d : decode cc pc = .ok (.if_icmp .ne off, 3)) (ht : (pc : Int) + off = (tgt : Int)) (kt : a = some r → J G p l e R s m args below meth c z nL Q ct N cells slots tgt lv rest) (kf : b = some r → J G p l e R s m args below meth c z nL Q ct N cells slots (pc + 3) lv rest) : J G p l e R s m args below meth c z nL Q ct N cells slots pc lv (.int y :: .int x :: rest) := fun H locs ls hP hS hl => lv_icmp_ne C.x C.b d ht (fun h => kt (by rw [if_neg h] at hg; exact hg) H locs ls hP hS hl) (fun h => kf (by rw [if_pos h] at hg; exact hg) H locs ls hP hS hl)
theorem j_icmp_lt (C : Cx G p s m args meth c cc nL own z ret nme) {x y : Int32} {off : Int} (tgt : Nat) {α : Type} {a b : Option α} {r : α} (hg : (if x < y then a else b) = some r) (d : decode cc pc = .ok (.if_icmp .lt off, 3)) (ht : (pc : Int) + off = (tgt : Int)) (kt : a = some r → J G p l e R s m args below meth c z nL Q ct N cells slots tgt lv rest) (kf : b = some r → J G p l e R s m args below meth c z nL Q ct N cells slots (pc + 3) lv rest) : J G p l e R s m args below meth c z nL Q ct N cells slots pc lv (.int y :: .int x :: rest) := fun H locs ls hP hS hl => lv_icmp_lt C.x C.b d ht (fun h => kt (by rw [if_pos h] at hg; exact hg) H locs ls hP hS hl) (fun h => kf (by rw [if_neg h] at hg; exact hg) H locs ls hP hS hl)
theorem j_icmp_ge (C : Cx G p s m args meth c cc nL own z ret nme) {x y : Int32} {off : Int} (tgt : Nat) {α : Type} {a b : Option α} {r : α} (hg : (if y ≤ x then a else b) = some r) (d : decode cc pc = .ok (.if_icmp .ge off, 3)) (ht : (pc : Int) + off = (tgt : Int)) (kt : a = some r → J G p l e R s m args below meth c z nL Q ct N cells slots tgt lv rest) (kf : b = some r → J G p l e R s m args below meth c z nL Q ct N cells slots (pc + 3) lv rest) : J G p l e R s m args below meth c z nL Q ct N cells slots pc lv (.int y :: .int x :: rest) := fun H locs ls hP hS hl => lv_icmp_ge C.x C.b d ht (fun h => kt (by rw [if_pos h] at hg; exact hg) H locs ls hP hS hl) (fun h => kf (by rw [if_neg h] at hg; exact hg) H locs ls hP hS hl)
theorem j_icmp_gt (C : Cx G p s m args meth c cc nL own z ret nme) {x y : Int32} {off : Int} (tgt : Nat) {α : Type} {a b : Option α} {r : α} (hg : (if y < x then a else b) = some r) (d : decode cc pc = .ok (.if_icmp .gt off, 3)) (ht : (pc : Int) + off = (tgt : Int)) (kt : a = some r → J G p l e R s m args below meth c z nL Q ct N cells slots tgt lv rest) (kf : b = some r → J G p l e R s m args below meth c z nL Q ct N cells slots (pc + 3) lv rest) : J G p l e R s m args below meth c z nL Q ct N cells slots pc lv (.int y :: .int x :: rest) := fun H locs ls hP hS hl => lv_icmp_gt C.x C.b d ht (fun h => kt (by rw [if_pos h] at hg; exact hg) H locs ls hP hS hl) (fun h => kf (by rw [if_neg h] at hg; exact hg) H locs ls hP hS hl)
theorem j_icmp_le (C : Cx G p s m args meth c cc nL own z ret nme) {x y : Int32} {off : Int} (tgt : Nat) {α : Type} {a b : Option α} {r : α} (hg : (if x ≤ y then a else b) = some r) (d : decode cc pc = .ok (.if_icmp .le off, 3)) (ht : (pc : Int) + off = (tgt : Int)) (kt : a = some r → J G p l e R s m args below meth c z nL Q ct N cells slots tgt lv rest) (kf : b = some r → J G p l e R s m args below meth c z nL Q ct N cells slots (pc + 3) lv rest) : J G p l e R s m args below meth c z nL Q ct N cells slots pc lv (.int y :: .int x :: rest) := fun H locs ls hP hS hl => lv_icmp_le C.x C.b d ht (fun h => kt (by rw [if_pos h] at hg; exact hg) H locs ls hP hS hl) (fun h => kf (by rw [if_neg h] at hg; exact hg) H locs ls hP hS hl)
theorem j_goto (C : Cx G p s m args meth c cc nL own z ret nme) {off : Int} (tgt : Nat) (d : decode cc pc = .ok (.goto off, 3)) (ht : (pc : Int) + off = (tgt : Int)) (k : J G p l e R s m args below meth c z nL Q ct N cells slots tgt lv rest) : J G p l e R s m args below meth c z nL Q ct N cells slots pc lv rest := fun H locs ls hP hS hl => lv_goto C.x C.b d ht (k H locs ls hP hS hl)
theorem j_ifnonnull (C : Cx G p s m args meth c cc nL own z ret nme) {x : Nat} {off : Int} (tgt : Nat) (d : decode cc pc = .ok (.ifnonnull off, 3)) (ht : (pc : Int) + off = (tgt : Int)) (k : J G p l e R s m args below meth c z nL Q ct N cells slots tgt lv rest) : J G p l e R s m args below meth c z nL Q ct N cells slots pc lv (.ref x :: rest) := fun H locs ls hP hS hl => lv_ifnonnull C.x C.b d ht (k H locs ls hP hS hl)
theorem j_ifnonnullN (C : Cx G p s m args meth c cc nL own z ret nme) {off : Int} (d : decode cc pc = .ok (.ifnonnull off, 3)) (k : J G p l e R s m args below meth c z nL Q ct N cells slots (pc + 3) lv rest) : J G p l e R s m args below meth c z nL Q ct N cells slots pc lv (.null :: rest) := fun H locs ls hP hS hl => lv_ifnonnullN C.x C.b d (k H locs ls hP hS hl)
theorem j_tableIn (C : Cx G p s m args meth c cc nL own z ret nme) {dflt lo hi : Int} {offs : Array Int} {len : Nat} {x : Int32} {off : Int} (tgt : Nat) (d : decode cc pc = .ok (.tableswitch dflt lo hi offs, len)) (h1 : ¬ x.toInt < lo) (h2 : ¬ hi < x.toInt) (ho : offs[(x.toInt - lo).toNat]? = some off) (ht : (pc : Int) + off = (tgt : Int)) (k : J G p l e R s m args below meth c z nL Q ct N cells slots tgt lv rest) : J G p l e R s m args below meth c z nL Q ct N cells slots pc lv (.int x :: rest) := fun H locs ls hP hS hl => lv_tableIn C.x C.b d h1 h2 ho ht (k H locs ls hP hS hl)
theorem j_tableOut (C : Cx G p s m args meth c cc nL own z ret nme) {dflt lo hi : Int} {offs : Array Int} {len : Nat} {x : Int32} (tgt : Nat) (d : decode cc pc = .ok (.tableswitch dflt lo hi offs, len)) (h : x.toInt < lo ∨ hi < x.toInt) (ht : (pc : Int) + dflt = (tgt : Int)) (k : J G p l e R s m args below meth c z nL Q ct N cells slots tgt lv rest) : J G p l e R s m args below meth c z nL Q ct N cells slots pc lv (.int x :: rest) := fun H locs ls hP hS hl => lv_tableOut C.x C.b d h ht (k H locs ls hP hS hl)
theorem j_lookup (C : Cx G p s m args meth c cc nL own z ret nme) {dflt : Int} {ps : Array (Int × Int)} {len : Nat} {x : Int32} {off : Int} (tgt : Nat) (d : decode cc pc = .ok (.lookupswitch dflt ps, len)) (hp : (ps.toList.zip (ps.toList.drop 1)).all (fun (a, next) => a.1 < next.1) = true) (ho : Op.lookupswitch.offset ps.toList dflt x.toInt = off) (ht : (pc : Int) + off = (tgt : Int)) (k : J G p l e R s m args below meth c z nL Q ct N cells slots tgt lv rest) : J G p l e R s m args below meth c z nL Q ct N cells slots pc lv (.int x :: rest) := fun H locs ls hP hS hl => lv_lookup C.x C.b d hp ho ht (k H locs ls hP hS hl)
theorem j_get (C : Cx G p s m args meth c cc nL own z ret nme) {b ci index NF : Nat} {fs : List Value} {CN ref : String} {T : u_T} {v : Value} (hb : b < N) (he : ct b = .inr (ci, fs)) (hc : vwCl[ci]? = some (CN, T, NF)) (hin : ∀ w ∈ u_ws CN T NF, w ∈ lw_good) (j : Nat) (hj : j < NF) (hw : Cond.fieldLink own index ref (T j).2.1 (T j).2.2.1 ∈ lw_good) (hsame : (T j).1 = ref) (hv : fs[j]? = some v) (d : decode cc pc = .ok (.getfield index, 3)) (k : J G p l e R s m args below meth c z nL Q ct N cells slots (pc + 3) lv (v :: rest)) : J G p l e R s m args below meth c z nL Q ct N cells slots pc lv (.ref (z + b) :: rest) := fun H locs ls hP hS hl => va_get C.x C.b C.w hin C.o C.k.1 (hP.one hb he) 0 rfl hc j hj (C.w _ hw) (fun _ h => by rw [← hsame]; exact h) hv d (k H locs ls hP hS hl)
theorem j_put (C : Cx G p s m args meth c cc nL own z ret nme) {b ci index NF : Nat} {fs : List Value} {CN ref : String} {T : u_T} {ty : FieldType} {v : Value} (ty0 : Nat → FieldType) (hty : ∀ k, k < NF → parseFieldDescriptor (T k).2.2.1 = some (ty0 k)) (hnm : ∀ a, a < NF → ∀ b, b < NF → a ≠ b → (T a).2.1 ≠ (T b).2.1) (hb : b < N) (he : ct b = .inr (ci, fs)) (hc : vwCl[ci]? = some (CN, T, NF)) (hin : ∀ w ∈ u_ws CN T NF, w ∈ lw_good) (j : Nat) (hj : j < NF) (hw : Cond.fieldLink own index ref (T j).2.1 (T j).2.2.1 ∈ lw_good) (hsame : (T j).1 = ref) (hfin : (T j).2.2.2 = false) (hd : parseFieldDescriptor (T j).2.2.1 = some ty) (hn : narrow ty v = v) (hfit : fits ty v = true) (hl9 : j < fs.length) (d : decode cc pc = .ok (.putfield index, 3)) (k : J G p l e R s m args below meth c z nL Q (va_up ct b (.inr (ci, fs.set j v))) N cells slots (pc + 3) lv rest) : J G p l e R s m args below meth c z nL Q ct N cells slots pc lv (v :: .ref (z + b) :: rest) := by
  intro H locs ls hP hS hl
  have hap := va_apart (own := own) C.w hin ty0 hty hnm C.k.1 hc
  obtain ⟨r, h1, cell, q1, q2, q3, q4⟩ := (hP.one hb he) 0 _ rfl
  have hr : r = (CN, T, NF) := Option.some.inj (h1.symm.trans hc)
  subst hr
  obtain ⟨hSl, hfc, kC, hkC, hkind⟩ := C.k.1.1 ci _ hc
  obtain ⟨cf, kf, fi, f, hi, hsl⟩ := hSl j hj
  have hlay := C.w _ (hin _ (u_in_lay hj))
  unfold u_lay at hlay
  rw [if_neg (by rw [hfin]; decide)] at hlay
  have hst := (u_facts hfc hkC (u_lays C.w hin hj) hi).1
  have h6 := u_store hfc hkC hkind hlay hi hd hn hfit
  refine W.putK C.x C.b (f := f) ⟨C.o, C.w _ hw, ⟨_, _, _, by rw [← hsame]; exact hi⟩, hst⟩ (by rw [q2]; exact h6) q1 q3 (by rw [hsl]; exact k2_hasslot (q4 j hj)) rfl rfl d fun H' e1 e2 e3 => ?_
  rw [hsl] at e1 ⊢
  exact k H' _ ls (hP.set ⟨_, hc, t_OB.to (V := updV (vp_V fs) j v) ⟨_, e1, q2, q3, t_set q4 hap hj v⟩ (fun i _ => vp_updV_set hl9 v i)⟩ e2 e3) (hS.put e2 e3 (Nat.le_add_right _ _)) hl
theorem j_putF (C : Cx G p s m args meth c cc nL own z ret "<init>") {b ci index NF : Nat} {fs : List Value} {CN ref : String} {T : u_T} {ty : FieldType} {v : Value} (ty0 : Nat → FieldType) (hty : ∀ k, k < NF → parseFieldDescriptor (T k).2.2.1 = some (ty0 k)) (hnm : ∀ a, a < NF → ∀ b, b < NF → a ≠ b → (T a).2.1 ≠ (T b).2.1) (hb : b < N) (he : ct b = .inr (ci, fs)) (hc : vwCl[ci]? = some (CN, T, NF)) (hin : ∀ w ∈ u_ws CN T NF, w ∈ lw_good) (j : Nat) (hj : j < NF) (hw : Cond.fieldLink own index ref (T j).2.1 (T j).2.2.1 ∈ lw_good) (hsame : (T j).1 = ref) (hfin : (T j).2.2.2 = true) (hdecl : (T j).1 = own) (hd : parseFieldDescriptor (T j).2.2.1 = some ty) (hn : narrow ty v = v) (hfit : fits ty v = true) (hl9 : j < fs.length) (d : decode cc pc = .ok (.putfield index, 3)) (k : J G p l e R s m args below meth c z nL Q (va_up ct b (.inr (ci, fs.set j v))) N cells slots (pc + 3) lv rest) : J G p l e R s m args below meth c z nL Q ct N cells slots pc lv (v :: .ref (z + b) :: rest) := by
  intro H locs ls hP hS hl
  have hap := va_apart (own := own) C.w hin ty0 hty hnm C.k.1 hc
  obtain ⟨r, h1, cell, q1, q2, q3, q4⟩ := (hP.one hb he) 0 _ rfl
  have hr : r = (CN, T, NF) := Option.some.inj (h1.symm.trans hc)
  subst hr
  obtain ⟨hSl, hfc, kC, hkC, hkind⟩ := C.k.1.1 ci _ hc
  obtain ⟨cf, kf, fi, f, hi, hsl⟩ := hSl j hj
  have hlay := C.w _ (hin _ (u_in_lay hj))
  unfold u_lay at hlay
  rw [if_pos hfin] at hlay
  have hst := (u_facts hfc hkC (u_lays C.w hin hj) hi).1
  have hcf : m.cls = cf := by
    obtain ⟨_, _, c', _, _, _, -, -, hf', -, -, -, hown2, -⟩ := Cond.laysFinal_spec hlay
    have e1 : c' = cf := by have := hi.symm.trans hf'; simp at this; exact this.1.symm
    rw [hdecl] at hown2
    rw [← e1]; exact Option.some.inj (C.o.symm.trans hown2)
  have h6 := u_fits hfc hkC hkind (Or.inr hlay) hi hd hn hfit
  refine W.putFinK C.x C.b C.o (C.w _ hw) (by rw [← hsame]; exact hi) hst hcf C.i (by rw [q2]; exact h6) q1 q3 (by rw [hsl]; exact k2_hasslot (q4 j hj)) rfl rfl d fun H' e1 e2 e3 => ?_
  rw [hsl] at e1 ⊢
  exact k H' _ ls (hP.set ⟨_, hc, t_OB.to (V := updV (vp_V fs) j v) ⟨_, e1, q2, q3, t_set q4 hap hj v⟩ (fun i _ => vp_updV_set hl9 v i)⟩ e2 e3) (hS.put e2 e3 (Nat.le_add_right _ _)) hl
theorem j_iald (C : Cx G p s m args meth c cc nL own z ret nme) {b n : Nat} {f : Nat → Int32} {i : Int32} {α : Type} {a : Option α} {r : α} (hg : (if ix i n then a else none) = some r) (hb : b < N) (he : ct b = cI G n f) (d : decode cc pc = .ok (.iaload, 1)) (k : a = some r → J G p l e R s m args below meth c z nL Q ct N cells slots (pc + 1) lv (.int (f i.toNatClampNeg) :: rest)) : J G p l e R s m args below meth c z nL Q ct N cells slots pc lv (.int i :: .ref (z + b) :: rest) := by
  by_cases hc : ix i n
  · rw [if_pos hc] at hg
    exact fun H locs ls hP hS hl => va_iald C.x C.b C.k.1 (hP.one hb he) 0 1 rfl rfl (vp_in_iff.mpr hc) d (k hg H locs ls hP hS hl)
  · rw [if_neg hc] at hg
    cases hg
theorem j_zald (C : Cx G p s m args meth c cc nL own z ret nme) {b n : Nat} {f : Nat → Int32} {i : Int32} {α : Type} {a : Option α} {r : α} (hg : (if ix i n then a else none) = some r) (hb : b < N) (he : ct b = cZ G n f) (d : decode cc pc = .ok (.baload, 1)) (k : a = some r → J G p l e R s m args below meth c z nL Q ct N cells slots (pc + 1) lv (.int (f i.toNatClampNeg) :: rest)) : J G p l e R s m args below meth c z nL Q ct N cells slots pc lv (.int i :: .ref (z + b) :: rest) := by
  by_cases hc : ix i n
  · rw [if_pos hc] at hg
    exact fun H locs ls hP hS hl => va_zald C.x C.b C.k.1 (hP.one hb he) 0 2 rfl rfl (vp_in_iff.mpr hc) d (k hg H locs ls hP hS hl)
  · rw [if_neg hc] at hg
    cases hg
theorem j_dald (C : Cx G p s m args meth c cc nL own z ret nme) {b n : Nat} {f : Nat → UInt64} {i : Int32} {α : Type} {a : Option α} {r : α} (hg : (if ix i n then a else none) = some r) (hb : b < N) (he : ct b = cD G n f) (d : decode cc pc = .ok (.daload, 1)) (k : a = some r → J G p l e R s m args below meth c z nL Q ct N cells slots (pc + 1) lv (.double (f i.toNatClampNeg) :: rest)) : J G p l e R s m args below meth c z nL Q ct N cells slots pc lv (.int i :: .ref (z + b) :: rest) := by
  by_cases hc : ix i n
  · rw [if_pos hc] at hg
    exact fun H locs ls hP hS hl => va_dald C.x C.b C.k.1 (hP.one hb he) 0 0 rfl rfl (vp_in_iff.mpr hc) d (k hg H locs ls hP hS hl)
  · rw [if_neg hc] at hg
    cases hg
theorem j_aaldA (C : Cx G p s m args meth c cc nL own z ret nme) {b n : Nat} {f : Nat → Option Nat} {i : Int32} {α : Type} {a : Option α} {r : α} (hg : (if ix i n then a else none) = some r) (hb : b < N) (he : ct b = cQA G n f) (d : decode cc pc = .ok (.aaload, 1)) (k : a = some r → J G p l e R s m args below meth c z nL Q ct N cells slots (pc + 1) lv (va_rf (f i.toNatClampNeg) :: rest)) : J G p l e R s m args below meth c z nL Q ct N cells slots pc lv (.int i :: .ref (z + b) :: rest) := by
  by_cases hc : ix i n
  · rw [if_pos hc] at hg
    exact fun H locs ls hP hS hl => va_aldq C.x C.b C.k.1 (hP.one hb he) 0 3 rfl rfl (vp_in_iff.mpr hc) d (k hg H locs ls hP hS hl)
  · rw [if_neg hc] at hg
    cases hg
theorem j_aaldC (C : Cx G p s m args meth c cc nL own z ret nme) {b n : Nat} {f : Nat → Option Nat} {i : Int32} {α : Type} {a : Option α} {r : α} (hg : (if ix i n then a else none) = some r) (hb : b < N) (he : ct b = cQC G n f) (d : decode cc pc = .ok (.aaload, 1)) (k : a = some r → J G p l e R s m args below meth c z nL Q ct N cells slots (pc + 1) lv (va_rf (f i.toNatClampNeg) :: rest)) : J G p l e R s m args below meth c z nL Q ct N cells slots pc lv (.int i :: .ref (z + b) :: rest) := by
  by_cases hc : ix i n
  · rw [if_pos hc] at hg
    exact fun H locs ls hP hS hl => va_aldq C.x C.b C.k.1 (hP.one hb he) 0 4 rfl rfl (vp_in_iff.mpr hc) d (k hg H locs ls hP hS hl)
  · rw [if_neg hc] at hg
    cases hg
theorem j_iast (C : Cx G p s m args meth c cc nL own z ret nme) {b n : Nat} {f : Nat → Int32} {i : Int32} {x : Int32} {α : Type} {a : Option α} {r : α} (hg : (if ix i n then a else none) = some r) (hb : b < N) (he : ct b = cI G n f) (d : decode cc pc = .ok (.iastore, 1)) (k : a = some r → J G p l e R s m args below meth c z nL Q (va_up ct b (cI G n (upd f i.toNatClampNeg x))) N cells slots (pc + 1) lv rest) : J G p l e R s m args below meth c z nL Q ct N cells slots pc lv (.int x :: .int i :: .ref (z + b) :: rest) := by
  by_cases hin : ix i n
  · rw [if_pos hin] at hg
    replace hin := vp_in_iff.mpr hin
    intro H locs ls hP hS hl
    refine W.iast C.x C.b ((hP.one hb he) 0 _ rfl) ((C.k.1.2 1 _ rfl).1 n (fun j => .int (f j))) (fun q => by cases q) (by show ¬ (i < 0 ∨ (arrV _ _ _).slots.size ≤ _); rw [arrV_size]; exact hin) rfl rfl d fun H1 e1 z1 oq => ?_
    refine k hg H1 _ ls (hP.set ?_ z1 oq) (hS.put z1 oq (Nat.le_add_right _ _)) hl
    show H1[z + b]? = some (vp_cell _ _)
    rw [e1]
    rw [vp_cell_i, vp_cell_i, arrV_store]
    congr 2
    funext q
    by_cases hq : q = i.toNatClampNeg
    · subst hq
      simp [updV, upd]
      try rfl
    · simp [updV, upd, hq]
  · rw [if_neg hin] at hg
    cases hg
theorem j_zast (C : Cx G p s m args meth c cc nL own z ret nme) {b n : Nat} {f : Nat → Int32} {i : Int32} {x : Int32} {α : Type} {a : Option α} {r : α} (hg : (if ix i n then a else none) = some r) (hb : b < N) (he : ct b = cZ G n f) (d : decode cc pc = .ok (.bastore, 1)) (k : a = some r → J G p l e R s m args below meth c z nL Q (va_up ct b (cZ G n (upd f i.toNatClampNeg (vp_nar .boolean x)))) N cells slots (pc + 1) lv rest) : J G p l e R s m args below meth c z nL Q ct N cells slots pc lv (.int x :: .int i :: .ref (z + b) :: rest) := by
  by_cases hin : ix i n
  · rw [if_pos hin] at hg
    replace hin := vp_in_iff.mpr hin
    intro H locs ls hP hS hl
    refine W.zast C.x C.b ((hP.one hb he) 0 _ rfl) ((C.k.1.2 2 _ rfl).1 n (fun j => .int (f j))) (fun q => by cases q) (by show ¬ (i < 0 ∨ (arrV _ _ _).slots.size ≤ _); rw [arrV_size]; exact hin) rfl rfl d fun H1 e1 z1 oq => ?_
    refine k hg H1 _ ls (hP.set ?_ z1 oq) (hS.put z1 oq (Nat.le_add_right _ _)) hl
    show H1[z + b]? = some (vp_cell _ _)
    rw [e1]
    rw [vp_cell_i, vp_cell_i, arrV_store]
    congr 2
    funext q
    by_cases hq : q = i.toNatClampNeg
    · subst hq
      simp [updV, upd, vp_nar]
      try rfl
    · simp [updV, upd, vp_nar, hq]
  · rw [if_neg hin] at hg
    cases hg
theorem j_dast (C : Cx G p s m args meth c cc nL own z ret nme) {b n : Nat} {f : Nat → UInt64} {i : Int32} {x : UInt64} {α : Type} {a : Option α} {r : α} (hg : (if ix i n then a else none) = some r) (hb : b < N) (he : ct b = cD G n f) (d : decode cc pc = .ok (.dastore, 1)) (k : a = some r → J G p l e R s m args below meth c z nL Q (va_up ct b (cD G n (vf_upd f i.toNatClampNeg x))) N cells slots (pc + 1) lv rest) : J G p l e R s m args below meth c z nL Q ct N cells slots pc lv (.double x :: .int i :: .ref (z + b) :: rest) := by
  by_cases hin : ix i n
  · rw [if_pos hin] at hg
    replace hin := vp_in_iff.mpr hin
    intro H locs ls hP hS hl
    refine W.dast C.x C.b ((hP.one hb he) 0 _ rfl) ((C.k.1.2 0 _ rfl).1 n (fun j => .double (f j))) (fun q => by cases q) (by show ¬ (i < 0 ∨ (arrV _ _ _).slots.size ≤ _); rw [arrV_size]; exact hin) rfl rfl d fun H1 e1 z1 oq => ?_
    refine k hg H1 _ ls (hP.set ?_ z1 oq) (hS.put z1 oq (Nat.le_add_right _ _)) hl
    show H1[z + b]? = some (vp_cell _ _)
    rw [e1]
    rw [vp_cell_d, vp_cell_d, arrV_store]
    congr 2
    funext q
    by_cases hq : q = i.toNatClampNeg
    · subst hq
      simp [updV, vf_upd]
      try rfl
    · simp [updV, vf_upd, hq]
  · rw [if_neg hin] at hg
    cases hg
theorem j_aastA (C : Cx G p s m args meth c cc nL own z ret nme) {b n v : Nat} {vs : List Value} {f : Nat → Option Nat} {i : Int32} (hin : vp_in i n) (hb : b < N) (he : ct b = cQA G n f) (hv : v < N) (hve : ct v = .inr (0, vs)) (d : decode cc pc = .ok (.aastore, 1)) (k : J G p l e R s m args below meth c z nL Q (va_up ct b (cQA G n (va_up f i.toNatClampNeg (some (z + v))))) N cells slots (pc + 1) lv rest) : J G p l e R s m args below meth c z nL Q ct N cells slots pc lv (.ref (z + v) :: .int i :: .ref (z + b) :: rest) := by
  intro H locs ls hP hS hl
  have hlt : i.toNatClampNeg < n := Nat.not_le.mp fun q => hin (Or.inr q)
  have h0 : ¬ i < 0 := fun q => hin (Or.inl q)
  obtain ⟨r', hr', cellV, g1, g2, g3, -⟩ := (hP.one hv hve) 0 _ rfl
  have hcls := (C.k.1.1 0 _ rfl).2
  obtain ⟨kA, comp, k1, k2, k3, -⟩ := (C.k.1.2 3 _ rfl).2
  have hcomp : comp = G.1.1 0 := Option.some.inj (k3.symm.trans hcls.1)
  subst hcomp
  obtain ⟨kC, hkC, -⟩ := hcls.2
  refine W.aast C.x C.b ((hP.one hb he) 0 _ rfl) (fun q h => by cases h) (fun h => by cases h) k1 k2 rfl hkC ⟨h0, by show _ < (arrV _ _ _).slots.size; rw [arrV_size]; exact hlt⟩ g1 (fun q h => by rw [g3] at h; cases h) (by rw [g2]; exact hkC) (by rw [g2]; exact va_assign hcls) rfl rfl d fun H1 e1 z1 oq => ?_
  refine k H1 _ ls (hP.set ?_ z1 oq) (hS.put z1 oq (Nat.le_add_right _ _)) hl
  show H1[z + b]? = some (vp_cell _ _)
  rw [e1]
  rw [vp_cell_q, vp_cell_q, arrV_store]
  congr 2
  funext q
  by_cases hq : q = i.toNatClampNeg
  · subst hq
    simp [updV, va_up, va_rf]
  · simp [updV, va_up, hq]
theorem j_aastC (C : Cx G p s m args meth c cc nL own z ret nme) {b n v : Nat} {vs : List Value} {f : Nat → Option Nat} {i : Int32} (hin : vp_in i n) (hb : b < N) (he : ct b = cQC G n f) (hv : v < N) (hve : ct v = .inr (1, vs)) (d : decode cc pc = .ok (.aastore, 1)) (k : J G p l e R s m args below meth c z nL Q (va_up ct b (cQC G n (va_up f i.toNatClampNeg (some (z + v))))) N cells slots (pc + 1) lv rest) : J G p l e R s m args below meth c z nL Q ct N cells slots pc lv (.ref (z + v) :: .int i :: .ref (z + b) :: rest) := by
  intro H locs ls hP hS hl
  have hlt : i.toNatClampNeg < n := Nat.not_le.mp fun q => hin (Or.inr q)
  have h0 : ¬ i < 0 := fun q => hin (Or.inl q)
  obtain ⟨r', hr', cellV, g1, g2, g3, -⟩ := (hP.one hv hve) 0 _ rfl
  have hcls := (C.k.1.1 1 _ rfl).2
  obtain ⟨kA, comp, k1, k2, k3, -⟩ := (C.k.1.2 4 _ rfl).2
  have hcomp : comp = G.1.1 1 := Option.some.inj (k3.symm.trans hcls.1)
  subst hcomp
  obtain ⟨kC, hkC, -⟩ := hcls.2
  refine W.aast C.x C.b ((hP.one hb he) 0 _ rfl) (fun q h => by cases h) (fun h => by cases h) k1 k2 rfl hkC ⟨h0, by show _ < (arrV _ _ _).slots.size; rw [arrV_size]; exact hlt⟩ g1 (fun q h => by rw [g3] at h; cases h) (by rw [g2]; exact hkC) (by rw [g2]; exact va_assign hcls) rfl rfl d fun H1 e1 z1 oq => ?_
  refine k H1 _ ls (hP.set ?_ z1 oq) (hS.put z1 oq (Nat.le_add_right _ _)) hl
  show H1[z + b]? = some (vp_cell _ _)
  rw [e1]
  rw [vp_cell_q, vp_cell_q, arrV_store]
  congr 2
  funext q
  by_cases hq : q = i.toNatClampNeg
  · subst hq
    simp [updV, va_up, va_rf]
  · simp [updV, va_up, hq]
theorem j_alenZ (C : Cx G p s m args meth c cc nL own z ret nme) {b n : Nat} {f : Nat → Int32} {v : Int32} (hv : Int32.ofNat n = v) (hb : b < N) (he : ct b = cZ G n f) (d : decode cc pc = .ok (.arraylength, 1)) (k : J G p l e R s m args below meth c z nL Q ct N cells slots (pc + 1) lv (.int v :: rest)) : J G p l e R s m args below meth c z nL Q ct N cells slots pc lv (.ref (z + b) :: rest) := fun H locs ls hP hS hl => va_alen C.x C.b C.k.1 (hP.one hb he) 0 2 rfl rfl hv d (k H locs ls hP hS hl)
theorem j_new (C : Cx G p s m args meth c cc nL own z ret nme) {ci index NF : Nat} {CN : String} {T : u_T} (ty : Nat → FieldType) (hty : ∀ k, k < NF → parseFieldDescriptor (T k).2.2.1 = some (ty k)) (hc : vwCl[ci]? = some (CN, T, NF)) (hin : ∀ w ∈ u_ws CN T NF, w ∈ lw_good) (hcl : Cond.classLink own index CN ∈ lw_good) (hinst : Cond.instantiable CN NF ∈ lw_good) (hini : Cond.initialized CN ∈ lw_good) (fs : List Value) (hfs : ∀ j, j < NF → defaultValue (ty j) = vp_V fs j) (hf : cells + 1 ≤ R.cells ∧ slots + NF ≤ R.slots) (d : decode cc pc = .ok (.new index, 3)) (k : J G p l e R s m args below meth c z nL Q (va_up ct N (.inr (ci, fs))) (N + 1) (cells + 1) (slots + NF) (pc + 3) lv (.ref (z + N) :: rest)) : J G p l e R s m args below meth c z nL Q ct N cells slots pc lv rest := by
  intro H locs ls hP hS hl
  have hKn := C.k.1.1 ci _ hc
  refine W.newcK C.x C.b C.o (C.w _ hcl) (C.w _ hinst) (C.w _ hini) rfl d hf.1 hf.2 hKn.2.1 hP.1 fun H1 kC hkC e1 z1 o1 => ?_
  refine k H1 _ ls (hP.push ⟨_, hc, (u_born ty C.w hin hKn hkC e1 hty).to hfs⟩ (by rw [z1, hP.1]) (fun q hq => o1 q (by rw [← hP.1]; exact hq))) ⟨Nat.le_trans hS.1 (by rw [z1, hP.1]; omega), fun x h1 h2 => (o1 x (by rw [← hP.1]; exact Nat.lt_of_lt_of_le h1 hS.1)).trans (hS.2.1 x h1 h2), hS.2.2⟩ hl
theorem j_newD (C : Cx G p s m args meth c cc nL own z ret nme) {n : Int32} (M : Nat) (hw : Cond.arrayClass .double ∈ lw_good) (hn : ¬ n < 0) (hN : n.toNatClampNeg = M) (hbytes : M * componentBytes .double ≤ 536870912) (hf : cells + 1 ≤ R.cells ∧ slots + M ≤ R.slots) (d : decode cc pc = .ok (.newarray .double, 2)) (k : J G p l e R s m args below meth c z nL Q (va_up ct N (cD G M (fun _ => 0))) (N + 1) (cells + 1) (slots + M) (pc + 2) lv (.ref (z + N) :: rest)) : J G p l e R s m args below meth c z nL Q ct N cells slots pc lv (.int n :: rest) := by
  intro H locs ls hP hS hl
  refine va_newaK (atype := .double) (g := F0 m pc ls (.int n :: rest)) C.x C.b (C.w _ hw) rfl d rfl hn hN hbytes hf.1 hf.2 hP.1 fun H1 cA e1 z1 o1 hAr hNm => ?_
  have h9 : va_RA s (G.2.1) .double := (C.k.1.2 0 (G.2.1, .double) rfl).2
  have h9 : s.vm.findClass ("[" ++ FieldType.double.toString) = some (G.2.1) := h9
  have hNm : s.vm.findClass ("[" ++ FieldType.double.toString) = some cA := hNm
  rw [h9] at hNm
  have hcA : cA = G.2.1 := (Option.some.inj hNm).symm
  subst hcA
  refine k H1 _ ls (hP.push ?_ (by rw [z1, hP.1]) (fun q hq => o1 q (by rw [← hP.1]; exact hq))) ⟨Nat.le_trans hS.1 (by rw [z1, hP.1]; omega), fun x h1 h2 => (o1 x (by rw [← hP.1]; exact Nat.lt_of_lt_of_le h1 hS.1)).trans (hS.2.1 x h1 h2), hS.2.2⟩ hl
  show H1[z + N]? = some (vp_cell _ _)
  rw [vp_cell_d]
  exact e1
theorem j_newI (C : Cx G p s m args meth c cc nL own z ret nme) {n : Int32} (M : Nat) (hw : Cond.arrayClass .int ∈ lw_good) (hn : ¬ n < 0) (hN : n.toNatClampNeg = M) (hbytes : M * componentBytes .int ≤ 536870912) (hf : cells + 1 ≤ R.cells ∧ slots + M ≤ R.slots) (d : decode cc pc = .ok (.newarray .int, 2)) (k : J G p l e R s m args below meth c z nL Q (va_up ct N (cI G M (fun _ => 0))) (N + 1) (cells + 1) (slots + M) (pc + 2) lv (.ref (z + N) :: rest)) : J G p l e R s m args below meth c z nL Q ct N cells slots pc lv (.int n :: rest) := by
  intro H locs ls hP hS hl
  refine va_newaK (atype := .int) (g := F0 m pc ls (.int n :: rest)) C.x C.b (C.w _ hw) rfl d rfl hn hN hbytes hf.1 hf.2 hP.1 fun H1 cA e1 z1 o1 hAr hNm => ?_
  have h9 : va_RA s (G.2.2.1) .int := (C.k.1.2 1 (G.2.2.1, .int) rfl).2
  have h9 : s.vm.findClass ("[" ++ FieldType.int.toString) = some (G.2.2.1) := h9
  have hNm : s.vm.findClass ("[" ++ FieldType.int.toString) = some cA := hNm
  rw [h9] at hNm
  have hcA : cA = G.2.2.1 := (Option.some.inj hNm).symm
  subst hcA
  refine k H1 _ ls (hP.push ?_ (by rw [z1, hP.1]) (fun q hq => o1 q (by rw [← hP.1]; exact hq))) ⟨Nat.le_trans hS.1 (by rw [z1, hP.1]; omega), fun x h1 h2 => (o1 x (by rw [← hP.1]; exact Nat.lt_of_lt_of_le h1 hS.1)).trans (hS.2.1 x h1 h2), hS.2.2⟩ hl
  show H1[z + N]? = some (vp_cell _ _)
  rw [vp_cell_i]
  exact e1
theorem j_newZ (C : Cx G p s m args meth c cc nL own z ret nme) {n : Int32} (M : Nat) (hw : Cond.arrayClass .boolean ∈ lw_good) (hn : ¬ n < 0) (hN : n.toNatClampNeg = M) (hbytes : M * componentBytes .boolean ≤ 536870912) (hf : cells + 1 ≤ R.cells ∧ slots + M ≤ R.slots) (d : decode cc pc = .ok (.newarray .boolean, 2)) (k : J G p l e R s m args below meth c z nL Q (va_up ct N (cZ G M (fun _ => 0))) (N + 1) (cells + 1) (slots + M) (pc + 2) lv (.ref (z + N) :: rest)) : J G p l e R s m args below meth c z nL Q ct N cells slots pc lv (.int n :: rest) := by
  intro H locs ls hP hS hl
  refine va_newaK (atype := .boolean) (g := F0 m pc ls (.int n :: rest)) C.x C.b (C.w _ hw) rfl d rfl hn hN hbytes hf.1 hf.2 hP.1 fun H1 cA e1 z1 o1 hAr hNm => ?_
  have h9 : va_RA s (G.2.2.2.1) .boolean := (C.k.1.2 2 (G.2.2.2.1, .boolean) rfl).2
  have h9 : s.vm.findClass ("[" ++ FieldType.boolean.toString) = some (G.2.2.2.1) := h9
  have hNm : s.vm.findClass ("[" ++ FieldType.boolean.toString) = some cA := hNm
  rw [h9] at hNm
  have hcA : cA = G.2.2.2.1 := (Option.some.inj hNm).symm
  subst hcA
  refine k H1 _ ls (hP.push ?_ (by rw [z1, hP.1]) (fun q hq => o1 q (by rw [← hP.1]; exact hq))) ⟨Nat.le_trans hS.1 (by rw [z1, hP.1]; omega), fun x h1 h2 => (o1 x (by rw [← hP.1]; exact Nat.lt_of_lt_of_le h1 hS.1)).trans (hS.2.1 x h1 h2), hS.2.2⟩ hl
  show H1[z + N]? = some (vp_cell _ _)
  rw [vp_cell_i]
  exact e1
theorem j_newqA (C : Cx G p s m args meth c cc nL own z ret nme) {index : Nat} {n : Int32} (M : Nat) (hcl : Cond.classLink own index RX0 ∈ lw_good) (hov : Cond.arrayOver (.object RX0) ∈ lw_ex) (hn : ¬ n < 0) (hN : n.toNatClampNeg = M) (hbytes : M * 4 ≤ 536870912) (hf : cells + 1 ≤ R.cells ∧ slots + M ≤ R.slots) (d : decode cc pc = .ok (.anewarray index, 3)) (k : J G p l e R s m args below meth c z nL Q (va_up ct N (cQA G M (fun _ => none))) (N + 1) (cells + 1) (slots + M) (pc + 3) lv (.ref (z + N) :: rest)) : J G p l e R s m args below meth c z nL Q ct N cells slots pc lv (.int n :: rest) := by
  intro H locs ls hP hS hl
  subst hN
  refine W.anew (g := F0 m pc ls (.int n :: rest)) C.x C.b C.o (C.w _ hcl) (va_AO.use (C.k.2 _ hov)) rfl d rfl hn hbytes hf.1 hf.2 fun cA kA comp f1 f2 f3 f4 => ?_
  obtain ⟨kA', comp', g1, g2, g3, g4⟩ := (C.k.1.2 3 _ rfl).2
  have hcA : cA = (gty G)[3].1 := Option.some.inj (f1.symm.trans g4)
  subst hcA
  rw [hP.1]
  refine k _ _ ls (hP.push ?_ (by rw [Array.size_push]) (fun q hq => by rw [Array.getElem?_push, if_neg (Nat.ne_of_lt hq)])) ⟨Nat.le_trans hS.1 (by rw [Array.size_push]; omega), fun x h1 h2 => by rw [Array.getElem?_push, if_neg (Nat.ne_of_lt (Nat.lt_of_lt_of_le h1 hS.1))]; exact hS.2.1 x h1 h2, hS.2.2⟩ hl
  show (H.push _)[z + N]? = some (vp_cell _ _)
  rw [vp_cell_q, ← hP.1, Array.getElem?_push_size, ← arrV_new]
  rfl
theorem j_newqC (C : Cx G p s m args meth c cc nL own z ret nme) {index : Nat} {n : Int32} (M : Nat) (hcl : Cond.classLink own index RX3 ∈ lw_good) (hov : Cond.arrayOver (.object RX3) ∈ lw_ex) (hn : ¬ n < 0) (hN : n.toNatClampNeg = M) (hbytes : M * 4 ≤ 536870912) (hf : cells + 1 ≤ R.cells ∧ slots + M ≤ R.slots) (d : decode cc pc = .ok (.anewarray index, 3)) (k : J G p l e R s m args below meth c z nL Q (va_up ct N (cQC G M (fun _ => none))) (N + 1) (cells + 1) (slots + M) (pc + 3) lv (.ref (z + N) :: rest)) : J G p l e R s m args below meth c z nL Q ct N cells slots pc lv (.int n :: rest) := by
  intro H locs ls hP hS hl
  subst hN
  refine W.anew (g := F0 m pc ls (.int n :: rest)) C.x C.b C.o (C.w _ hcl) (va_AO.use (C.k.2 _ hov)) rfl d rfl hn hbytes hf.1 hf.2 fun cA kA comp f1 f2 f3 f4 => ?_
  obtain ⟨kA', comp', g1, g2, g3, g4⟩ := (C.k.1.2 4 _ rfl).2
  have hcA : cA = (gty G)[4].1 := Option.some.inj (f1.symm.trans g4)
  subst hcA
  rw [hP.1]
  refine k _ _ ls (hP.push ?_ (by rw [Array.size_push]) (fun q hq => by rw [Array.getElem?_push, if_neg (Nat.ne_of_lt hq)])) ⟨Nat.le_trans hS.1 (by rw [Array.size_push]; omega), fun x h1 h2 => by rw [Array.getElem?_push, if_neg (Nat.ne_of_lt (Nat.lt_of_lt_of_le h1 hS.1))]; exact hS.2.1 x h1 h2, hS.2.2⟩ hl
  show (H.push _)[z + N]? = some (vp_cell _ _)
  rw [vp_cell_q, ← hP.1, Array.getElem?_push_size, ← arrV_new]
  rfl
theorem j_mmax (C : Cx G p s m args meth c cc nL own z ret nme) {index : Nat} {x y : Int32} (hlink : Cond.methodLink own index yJ9_max_7cf53 ∈ lw_good) (hstat : Cond.static yJ9_max_7cf53 ∈ lw_good) (hini : Cond.initialized RJ9 ∈ lw_good) (hcode : Cond.code yJ9_max_7cf53 cJ9_max_7cf53 2 (some .int) ∈ lw_good) (hfr : 1 ≤ R.frames) (hlo : (rest.map fun v => v.category).sum + 13 ≤ R.locals) (hc : cells ≤ R.cells) (hs : slots ≤ R.slots) (d : decode cc pc = .ok (.invokestatic index, 3)) (k : J G p l e R s m args below meth c z nL Q ct N cells slots (pc + 3) lv (.int (if x < y then y else x) :: rest)) : J G p l e R s m args below meth c z nL Q ct N cells slots pc lv (.int y :: .int x :: rest) := fun H locs ls hP hS hl => va_mmax C.x C.b (by rw [C.lL, hl.1]) C.o (C.w _ hlink) (C.w _ hstat) (C.w _ hini) (C.w _ hcode) hfr hlo hc hs d (k H locs ls hP hS hl)
theorem j_mmin (C : Cx G p s m args meth c cc nL own z ret nme) {index : Nat} {x y : Int32} (hlink : Cond.methodLink own index yJ9_min_7cf53 ∈ lw_good) (hstat : Cond.static yJ9_min_7cf53 ∈ lw_good) (hini : Cond.initialized RJ9 ∈ lw_good) (hcode : Cond.code yJ9_min_7cf53 cJ9_min_7cf53 2 (some .int) ∈ lw_good) (hfr : 1 ≤ R.frames) (hlo : (rest.map fun v => v.category).sum + 13 ≤ R.locals) (hc : cells ≤ R.cells) (hs : slots ≤ R.slots) (d : decode cc pc = .ok (.invokestatic index, 3)) (k : J G p l e R s m args below meth c z nL Q ct N cells slots (pc + 3) lv (.int (if y < x then y else x) :: rest)) : J G p l e R s m args below meth c z nL Q ct N cells slots pc lv (.int y :: .int x :: rest) := fun H locs ls hP hS hl => va_mmin C.x C.b (by rw [C.lL, hl.1]) C.o (C.w _ hlink) (C.w _ hstat) (C.w _ hini) (C.w _ hcode) hfr hlo hc hs d (k H locs ls hP hS hl)
end J2
end
section
theorem ob {α β : Type} {x : Option α} {f : α → Option β} {r : β} (h : x.bind f = some r) : ∃ a, x = some a ∧ f a = some r := by
  cases x with
  | none => cases h
  | some a => exact ⟨a, rfl, h⟩
theorem gd {c : Prop} [Decidable c] {α : Type} {a : Option α} {r : α} (h : (if c then a else none) = some r) : c ∧ a = some r := by
  by_cases hc : c
  · rw [if_pos hc] at h; exact ⟨hc, h⟩
  · rw [if_neg hc] at h; cases h
def lq1 {A1 R : Type} (f : (A1 → Option R) → A1 → Option R) : Nat → A1 → Option R
  | 0 => fun _ => none
  | n + 1 => f (lq1 f n)
def lq2 {A1 A2 R : Type} (f : (A1 → A2 → Option R) → A1 → A2 → Option R) : Nat → A1 → A2 → Option R
  | 0 => fun _ _ => none
  | n + 1 => f (lq2 f n)
def lq3 {A1 A2 A3 R : Type} (f : (A1 → A2 → A3 → Option R) → A1 → A2 → A3 → Option R) : Nat → A1 → A2 → A3 → Option R
  | 0 => fun _ _ _ => none
  | n + 1 => f (lq3 f n)
def lq4 {A1 A2 A3 A4 R : Type} (f : (A1 → A2 → A3 → A4 → Option R) → A1 → A2 → A3 → A4 → Option R) : Nat → A1 → A2 → A3 → A4 → Option R
  | 0 => fun _ _ _ _ => none
  | n + 1 => f (lq4 f n)
def lq5 {A1 A2 A3 A4 A5 R : Type} (f : (A1 → A2 → A3 → A4 → A5 → Option R) → A1 → A2 → A3 → A4 → A5 → Option R) : Nat → A1 → A2 → A3 → A4 → A5 → Option R
  | 0 => fun _ _ _ _ _ => none
  | n + 1 => f (lq5 f n)
def lq6 {A1 A2 A3 A4 A5 A6 R : Type} (f : (A1 → A2 → A3 → A4 → A5 → A6 → Option R) → A1 → A2 → A3 → A4 → A5 → A6 → Option R) : Nat → A1 → A2 → A3 → A4 → A5 → A6 → Option R
  | 0 => fun _ _ _ _ _ _ => none
  | n + 1 => f (lq6 f n)
def lq7 {A1 A2 A3 A4 A5 A6 A7 R : Type} (f : (A1 → A2 → A3 → A4 → A5 → A6 → A7 → Option R) → A1 → A2 → A3 → A4 → A5 → A6 → A7 → Option R) : Nat → A1 → A2 → A3 → A4 → A5 → A6 → A7 → Option R
  | 0 => fun _ _ _ _ _ _ _ => none
  | n + 1 => f (lq7 f n)
def lq8 {A1 A2 A3 A4 A5 A6 A7 A8 R : Type} (f : (A1 → A2 → A3 → A4 → A5 → A6 → A7 → A8 → Option R) → A1 → A2 → A3 → A4 → A5 → A6 → A7 → A8 → Option R) : Nat → A1 → A2 → A3 → A4 → A5 → A6 → A7 → A8 → Option R
  | 0 => fun _ _ _ _ _ _ _ _ => none
  | n + 1 => f (lq8 f n)
def lq9 {A1 A2 A3 A4 A5 A6 A7 A8 A9 R : Type} (f : (A1 → A2 → A3 → A4 → A5 → A6 → A7 → A8 → A9 → Option R) → A1 → A2 → A3 → A4 → A5 → A6 → A7 → A8 → A9 → Option R) : Nat → A1 → A2 → A3 → A4 → A5 → A6 → A7 → A8 → A9 → Option R
  | 0 => fun _ _ _ _ _ _ _ _ _ => none
  | n + 1 => f (lq9 f n)
def lq10 {A1 A2 A3 A4 A5 A6 A7 A8 A9 A10 R : Type} (f : (A1 → A2 → A3 → A4 → A5 → A6 → A7 → A8 → A9 → A10 → Option R) → A1 → A2 → A3 → A4 → A5 → A6 → A7 → A8 → A9 → A10 → Option R) : Nat → A1 → A2 → A3 → A4 → A5 → A6 → A7 → A8 → A9 → A10 → Option R
  | 0 => fun _ _ _ _ _ _ _ _ _ _ => none
  | n + 1 => f (lq10 f n)
end
section
def gJ6_bitCount_0f7a4 (x0 : Int32) : Option Int32 := some ((((((((x0 - (((x0.toUInt32 >>> ((1 : Int32).toUInt32 &&& Int32.toUInt32 31)).toInt32) &&& (1431655765 : Int32))) &&& (858993459 : Int32)) + ((((x0 - (((x0.toUInt32 >>> ((1 : Int32).toUInt32 &&& Int32.toUInt32 31)).toInt32) &&& (1431655765 : Int32))).toUInt32 >>> ((2 : Int32).toUInt32 &&& Int32.toUInt32 31)).toInt32) &&& (858993459 : Int32))) + (((((x0 - (((x0.toUInt32 >>> ((1 : Int32).toUInt32 &&& Int32.toUInt32 31)).toInt32) &&& (1431655765 : Int32))) &&& (858993459 : Int32)) + ((((x0 - (((x0.toUInt32 >>> ((1 : Int32).toUInt32 &&& Int32.toUInt32 31)).toInt32) &&& (1431655765 : Int32))).toUInt32 >>> ((2 : Int32).toUInt32 &&& Int32.toUInt32 31)).toInt32) &&& (858993459 : Int32))).toUInt32 >>> ((4 : Int32).toUInt32 &&& Int32.toUInt32 31)).toInt32)) &&& (252645135 : Int32)) + (((((((x0 - (((x0.toUInt32 >>> ((1 : Int32).toUInt32 &&& Int32.toUInt32 31)).toInt32) &&& (1431655765 : Int32))) &&& (858993459 : Int32)) + ((((x0 - (((x0.toUInt32 >>> ((1 : Int32).toUInt32 &&& Int32.toUInt32 31)).toInt32) &&& (1431655765 : Int32))).toUInt32 >>> ((2 : Int32).toUInt32 &&& Int32.toUInt32 31)).toInt32) &&& (858993459 : Int32))) + (((((x0 - (((x0.toUInt32 >>> ((1 : Int32).toUInt32 &&& Int32.toUInt32 31)).toInt32) &&& (1431655765 : Int32))) &&& (858993459 : Int32)) + ((((x0 - (((x0.toUInt32 >>> ((1 : Int32).toUInt32 &&& Int32.toUInt32 31)).toInt32) &&& (1431655765 : Int32))).toUInt32 >>> ((2 : Int32).toUInt32 &&& Int32.toUInt32 31)).toInt32) &&& (858993459 : Int32))).toUInt32 >>> ((4 : Int32).toUInt32 &&& Int32.toUInt32 31)).toInt32)) &&& (252645135 : Int32)).toUInt32 >>> ((8 : Int32).toUInt32 &&& Int32.toUInt32 31)).toInt32)) + ((((((((x0 - (((x0.toUInt32 >>> ((1 : Int32).toUInt32 &&& Int32.toUInt32 31)).toInt32) &&& (1431655765 : Int32))) &&& (858993459 : Int32)) + ((((x0 - (((x0.toUInt32 >>> ((1 : Int32).toUInt32 &&& Int32.toUInt32 31)).toInt32) &&& (1431655765 : Int32))).toUInt32 >>> ((2 : Int32).toUInt32 &&& Int32.toUInt32 31)).toInt32) &&& (858993459 : Int32))) + (((((x0 - (((x0.toUInt32 >>> ((1 : Int32).toUInt32 &&& Int32.toUInt32 31)).toInt32) &&& (1431655765 : Int32))) &&& (858993459 : Int32)) + ((((x0 - (((x0.toUInt32 >>> ((1 : Int32).toUInt32 &&& Int32.toUInt32 31)).toInt32) &&& (1431655765 : Int32))).toUInt32 >>> ((2 : Int32).toUInt32 &&& Int32.toUInt32 31)).toInt32) &&& (858993459 : Int32))).toUInt32 >>> ((4 : Int32).toUInt32 &&& Int32.toUInt32 31)).toInt32)) &&& (252645135 : Int32)) + (((((((x0 - (((x0.toUInt32 >>> ((1 : Int32).toUInt32 &&& Int32.toUInt32 31)).toInt32) &&& (1431655765 : Int32))) &&& (858993459 : Int32)) + ((((x0 - (((x0.toUInt32 >>> ((1 : Int32).toUInt32 &&& Int32.toUInt32 31)).toInt32) &&& (1431655765 : Int32))).toUInt32 >>> ((2 : Int32).toUInt32 &&& Int32.toUInt32 31)).toInt32) &&& (858993459 : Int32))) + (((((x0 - (((x0.toUInt32 >>> ((1 : Int32).toUInt32 &&& Int32.toUInt32 31)).toInt32) &&& (1431655765 : Int32))) &&& (858993459 : Int32)) + ((((x0 - (((x0.toUInt32 >>> ((1 : Int32).toUInt32 &&& Int32.toUInt32 31)).toInt32) &&& (1431655765 : Int32))).toUInt32 >>> ((2 : Int32).toUInt32 &&& Int32.toUInt32 31)).toInt32) &&& (858993459 : Int32))).toUInt32 >>> ((4 : Int32).toUInt32 &&& Int32.toUInt32 31)).toInt32)) &&& (252645135 : Int32)).toUInt32 >>> ((8 : Int32).toUInt32 &&& Int32.toUInt32 31)).toInt32)).toUInt32 >>> ((16 : Int32).toUInt32 &&& Int32.toUInt32 31)).toInt32)) &&& (63 : Int32))
theorem hd_J6_bitCount_0f7a4 : yJ6_bitCount_0f7a4.cls ≠ "java/lang/invoke/MethodHandle" ∧ yJ6_bitCount_0f7a4.cls ≠ "java/lang/invoke/VarHandle" ∧ (parseMethodDescriptor yJ6_bitCount_0f7a4.desc).map (fun d => d.parameters.length) = some 1 := by decide +kernel
set_option maxHeartbeats 4000000 in
set_option maxRecDepth 100000 in
theorem tJ6_bitCount_0f7a4 {G : GG} {l : Launch} {z N : Nat} {ct : Nat → va_E} (x0 : Int32) {r : Int32} (hg : gJ6_bitCount_0f7a4 x0 = some r) : Ct G l yJ6_bitCount_0f7a4 cJ6_bitCount_0f7a4 1 (some .int) ({ frames := 0, cells := 0, slots := 0, locals := 0 } : Room) [.int x0] z ct N (some (.int r)) ct N := by
  refine Ct.of (lv := [(0, .int x0)]) (by decide +kernel) (Nat.le_of_ble_eq_true rfl) rfl (fun p e s m args below meth c C => ?_)
  rw [gJ6_bitCount_0f7a4] at hg
  refine j_iload_n C dJ6_bitCount_0f7a4_0 0 rfl rfl ?_
  refine j_iload_n C dJ6_bitCount_0f7a4_1 0 rfl rfl ?_
  refine j_iconst (v := 1) C dJ6_bitCount_0f7a4_2 (by decide) ?_
  refine j_iushr C dJ6_bitCount_0f7a4_3 ?_
  refine j_ldcw C q3_26 dJ6_bitCount_0f7a4_4 ?_
  refine j_iand C dJ6_bitCount_0f7a4_7 ?_
  refine j_isub C dJ6_bitCount_0f7a4_8 ?_
  refine j_istore_n C [(0, .int (x0 - (((x0.toUInt32 >>> ((1 : Int32).toUInt32 &&& Int32.toUInt32 31)).toInt32) &&& (1431655765 : Int32))))] dJ6_bitCount_0f7a4_9 rfl (by decide) rfl ?_
  refine j_iload_n C dJ6_bitCount_0f7a4_10 0 rfl rfl ?_
  refine j_ldcw C q3_27 dJ6_bitCount_0f7a4_11 ?_
  refine j_iand C dJ6_bitCount_0f7a4_14 ?_
  refine j_iload_n C dJ6_bitCount_0f7a4_15 0 rfl rfl ?_
  refine j_iconst (v := 2) C dJ6_bitCount_0f7a4_16 (by decide) ?_
  refine j_iushr C dJ6_bitCount_0f7a4_17 ?_
  refine j_ldcw C q3_27 dJ6_bitCount_0f7a4_18 ?_
  refine j_iand C dJ6_bitCount_0f7a4_21 ?_
  refine j_iadd C dJ6_bitCount_0f7a4_22 ?_
  refine j_istore_n C [(0, .int (((x0 - (((x0.toUInt32 >>> ((1 : Int32).toUInt32 &&& Int32.toUInt32 31)).toInt32) &&& (1431655765 : Int32))) &&& (858993459 : Int32)) + ((((x0 - (((x0.toUInt32 >>> ((1 : Int32).toUInt32 &&& Int32.toUInt32 31)).toInt32) &&& (1431655765 : Int32))).toUInt32 >>> ((2 : Int32).toUInt32 &&& Int32.toUInt32 31)).toInt32) &&& (858993459 : Int32))))] dJ6_bitCount_0f7a4_23 rfl (by decide) rfl ?_
  refine j_iload_n C dJ6_bitCount_0f7a4_24 0 rfl rfl ?_
  refine j_iload_n C dJ6_bitCount_0f7a4_25 0 rfl rfl ?_
  refine j_iconst (v := 4) C dJ6_bitCount_0f7a4_26 (by decide) ?_
  refine j_iushr C dJ6_bitCount_0f7a4_27 ?_
  refine j_iadd C dJ6_bitCount_0f7a4_28 ?_
  refine j_ldcw C q3_28 dJ6_bitCount_0f7a4_29 ?_
  refine j_iand C dJ6_bitCount_0f7a4_32 ?_
  refine j_istore_n C [(0, .int (((((x0 - (((x0.toUInt32 >>> ((1 : Int32).toUInt32 &&& Int32.toUInt32 31)).toInt32) &&& (1431655765 : Int32))) &&& (858993459 : Int32)) + ((((x0 - (((x0.toUInt32 >>> ((1 : Int32).toUInt32 &&& Int32.toUInt32 31)).toInt32) &&& (1431655765 : Int32))).toUInt32 >>> ((2 : Int32).toUInt32 &&& Int32.toUInt32 31)).toInt32) &&& (858993459 : Int32))) + (((((x0 - (((x0.toUInt32 >>> ((1 : Int32).toUInt32 &&& Int32.toUInt32 31)).toInt32) &&& (1431655765 : Int32))) &&& (858993459 : Int32)) + ((((x0 - (((x0.toUInt32 >>> ((1 : Int32).toUInt32 &&& Int32.toUInt32 31)).toInt32) &&& (1431655765 : Int32))).toUInt32 >>> ((2 : Int32).toUInt32 &&& Int32.toUInt32 31)).toInt32) &&& (858993459 : Int32))).toUInt32 >>> ((4 : Int32).toUInt32 &&& Int32.toUInt32 31)).toInt32)) &&& (252645135 : Int32)))] dJ6_bitCount_0f7a4_33 rfl (by decide) rfl ?_
  refine j_iload_n C dJ6_bitCount_0f7a4_34 0 rfl rfl ?_
  refine j_iload_n C dJ6_bitCount_0f7a4_35 0 rfl rfl ?_
  refine j_bipush (v := 8) C dJ6_bitCount_0f7a4_36 (by decide) ?_
  refine j_iushr C dJ6_bitCount_0f7a4_38 ?_
  refine j_iadd C dJ6_bitCount_0f7a4_39 ?_
  refine j_istore_n C [(0, .int ((((((x0 - (((x0.toUInt32 >>> ((1 : Int32).toUInt32 &&& Int32.toUInt32 31)).toInt32) &&& (1431655765 : Int32))) &&& (858993459 : Int32)) + ((((x0 - (((x0.toUInt32 >>> ((1 : Int32).toUInt32 &&& Int32.toUInt32 31)).toInt32) &&& (1431655765 : Int32))).toUInt32 >>> ((2 : Int32).toUInt32 &&& Int32.toUInt32 31)).toInt32) &&& (858993459 : Int32))) + (((((x0 - (((x0.toUInt32 >>> ((1 : Int32).toUInt32 &&& Int32.toUInt32 31)).toInt32) &&& (1431655765 : Int32))) &&& (858993459 : Int32)) + ((((x0 - (((x0.toUInt32 >>> ((1 : Int32).toUInt32 &&& Int32.toUInt32 31)).toInt32) &&& (1431655765 : Int32))).toUInt32 >>> ((2 : Int32).toUInt32 &&& Int32.toUInt32 31)).toInt32) &&& (858993459 : Int32))).toUInt32 >>> ((4 : Int32).toUInt32 &&& Int32.toUInt32 31)).toInt32)) &&& (252645135 : Int32)) + (((((((x0 - (((x0.toUInt32 >>> ((1 : Int32).toUInt32 &&& Int32.toUInt32 31)).toInt32) &&& (1431655765 : Int32))) &&& (858993459 : Int32)) + ((((x0 - (((x0.toUInt32 >>> ((1 : Int32).toUInt32 &&& Int32.toUInt32 31)).toInt32) &&& (1431655765 : Int32))).toUInt32 >>> ((2 : Int32).toUInt32 &&& Int32.toUInt32 31)).toInt32) &&& (858993459 : Int32))) + (((((x0 - (((x0.toUInt32 >>> ((1 : Int32).toUInt32 &&& Int32.toUInt32 31)).toInt32) &&& (1431655765 : Int32))) &&& (858993459 : Int32)) + ((((x0 - (((x0.toUInt32 >>> ((1 : Int32).toUInt32 &&& Int32.toUInt32 31)).toInt32) &&& (1431655765 : Int32))).toUInt32 >>> ((2 : Int32).toUInt32 &&& Int32.toUInt32 31)).toInt32) &&& (858993459 : Int32))).toUInt32 >>> ((4 : Int32).toUInt32 &&& Int32.toUInt32 31)).toInt32)) &&& (252645135 : Int32)).toUInt32 >>> ((8 : Int32).toUInt32 &&& Int32.toUInt32 31)).toInt32)))] dJ6_bitCount_0f7a4_40 rfl (by decide) rfl ?_
  refine j_iload_n C dJ6_bitCount_0f7a4_41 0 rfl rfl ?_
  refine j_iload_n C dJ6_bitCount_0f7a4_42 0 rfl rfl ?_
  refine j_bipush (v := 16) C dJ6_bitCount_0f7a4_43 (by decide) ?_
  refine j_iushr C dJ6_bitCount_0f7a4_45 ?_
  refine j_iadd C dJ6_bitCount_0f7a4_46 ?_
  refine j_istore_n C [(0, .int (((((((x0 - (((x0.toUInt32 >>> ((1 : Int32).toUInt32 &&& Int32.toUInt32 31)).toInt32) &&& (1431655765 : Int32))) &&& (858993459 : Int32)) + ((((x0 - (((x0.toUInt32 >>> ((1 : Int32).toUInt32 &&& Int32.toUInt32 31)).toInt32) &&& (1431655765 : Int32))).toUInt32 >>> ((2 : Int32).toUInt32 &&& Int32.toUInt32 31)).toInt32) &&& (858993459 : Int32))) + (((((x0 - (((x0.toUInt32 >>> ((1 : Int32).toUInt32 &&& Int32.toUInt32 31)).toInt32) &&& (1431655765 : Int32))) &&& (858993459 : Int32)) + ((((x0 - (((x0.toUInt32 >>> ((1 : Int32).toUInt32 &&& Int32.toUInt32 31)).toInt32) &&& (1431655765 : Int32))).toUInt32 >>> ((2 : Int32).toUInt32 &&& Int32.toUInt32 31)).toInt32) &&& (858993459 : Int32))).toUInt32 >>> ((4 : Int32).toUInt32 &&& Int32.toUInt32 31)).toInt32)) &&& (252645135 : Int32)) + (((((((x0 - (((x0.toUInt32 >>> ((1 : Int32).toUInt32 &&& Int32.toUInt32 31)).toInt32) &&& (1431655765 : Int32))) &&& (858993459 : Int32)) + ((((x0 - (((x0.toUInt32 >>> ((1 : Int32).toUInt32 &&& Int32.toUInt32 31)).toInt32) &&& (1431655765 : Int32))).toUInt32 >>> ((2 : Int32).toUInt32 &&& Int32.toUInt32 31)).toInt32) &&& (858993459 : Int32))) + (((((x0 - (((x0.toUInt32 >>> ((1 : Int32).toUInt32 &&& Int32.toUInt32 31)).toInt32) &&& (1431655765 : Int32))) &&& (858993459 : Int32)) + ((((x0 - (((x0.toUInt32 >>> ((1 : Int32).toUInt32 &&& Int32.toUInt32 31)).toInt32) &&& (1431655765 : Int32))).toUInt32 >>> ((2 : Int32).toUInt32 &&& Int32.toUInt32 31)).toInt32) &&& (858993459 : Int32))).toUInt32 >>> ((4 : Int32).toUInt32 &&& Int32.toUInt32 31)).toInt32)) &&& (252645135 : Int32)).toUInt32 >>> ((8 : Int32).toUInt32 &&& Int32.toUInt32 31)).toInt32)) + ((((((((x0 - (((x0.toUInt32 >>> ((1 : Int32).toUInt32 &&& Int32.toUInt32 31)).toInt32) &&& (1431655765 : Int32))) &&& (858993459 : Int32)) + ((((x0 - (((x0.toUInt32 >>> ((1 : Int32).toUInt32 &&& Int32.toUInt32 31)).toInt32) &&& (1431655765 : Int32))).toUInt32 >>> ((2 : Int32).toUInt32 &&& Int32.toUInt32 31)).toInt32) &&& (858993459 : Int32))) + (((((x0 - (((x0.toUInt32 >>> ((1 : Int32).toUInt32 &&& Int32.toUInt32 31)).toInt32) &&& (1431655765 : Int32))) &&& (858993459 : Int32)) + ((((x0 - (((x0.toUInt32 >>> ((1 : Int32).toUInt32 &&& Int32.toUInt32 31)).toInt32) &&& (1431655765 : Int32))).toUInt32 >>> ((2 : Int32).toUInt32 &&& Int32.toUInt32 31)).toInt32) &&& (858993459 : Int32))).toUInt32 >>> ((4 : Int32).toUInt32 &&& Int32.toUInt32 31)).toInt32)) &&& (252645135 : Int32)) + (((((((x0 - (((x0.toUInt32 >>> ((1 : Int32).toUInt32 &&& Int32.toUInt32 31)).toInt32) &&& (1431655765 : Int32))) &&& (858993459 : Int32)) + ((((x0 - (((x0.toUInt32 >>> ((1 : Int32).toUInt32 &&& Int32.toUInt32 31)).toInt32) &&& (1431655765 : Int32))).toUInt32 >>> ((2 : Int32).toUInt32 &&& Int32.toUInt32 31)).toInt32) &&& (858993459 : Int32))) + (((((x0 - (((x0.toUInt32 >>> ((1 : Int32).toUInt32 &&& Int32.toUInt32 31)).toInt32) &&& (1431655765 : Int32))) &&& (858993459 : Int32)) + ((((x0 - (((x0.toUInt32 >>> ((1 : Int32).toUInt32 &&& Int32.toUInt32 31)).toInt32) &&& (1431655765 : Int32))).toUInt32 >>> ((2 : Int32).toUInt32 &&& Int32.toUInt32 31)).toInt32) &&& (858993459 : Int32))).toUInt32 >>> ((4 : Int32).toUInt32 &&& Int32.toUInt32 31)).toInt32)) &&& (252645135 : Int32)).toUInt32 >>> ((8 : Int32).toUInt32 &&& Int32.toUInt32 31)).toInt32)).toUInt32 >>> ((16 : Int32).toUInt32 &&& Int32.toUInt32 31)).toInt32)))] dJ6_bitCount_0f7a4_47 rfl (by decide) rfl ?_
  refine j_iload_n C dJ6_bitCount_0f7a4_48 0 rfl rfl ?_
  refine j_bipush (v := 63) C dJ6_bitCount_0f7a4_49 (by decide) ?_
  refine j_iand C dJ6_bitCount_0f7a4_51 ?_
  exact j_iret C dJ6_bitCount_0f7a4_52 (by rw [← Option.some.inj hg]) rfl rfl
end
section
def gX6_brought (x0 : UInt64) (x1 : Int32) : Option UInt64 := if x1 = 0 then (some x0) else (if FP.fIsNaN (FP.d2f x0) = false then (if FP.dIsNaN (FP.f2d (FP.d2f x0)) = false then (some (FP.f2d (FP.d2f x0))) else none) else none)
theorem hd_X6_brought : yX6_brought.cls ≠ "java/lang/invoke/MethodHandle" ∧ yX6_brought.cls ≠ "java/lang/invoke/VarHandle" ∧ (parseMethodDescriptor yX6_brought.desc).map (fun d => d.parameters.length) = some 2 := by decide +kernel
set_option maxHeartbeats 4000000 in
set_option maxRecDepth 100000 in
theorem tX6_brought {G : GG} {l : Launch} {z N : Nat} {ct : Nat → va_E} (x0 : UInt64) (x1 : Int32) {r : UInt64} (hg : gX6_brought x0 x1 = some r) : Ct G l yX6_brought cX6_brought 3 (some .double) ({ frames := 0, cells := 0, slots := 0, locals := 0 } : Room) [.double x0, .int x1] z ct N (some (.double r)) ct N := by
  refine Ct.of (lv := [(0, .double x0), (2, .int x1)]) (by decide +kernel) (Nat.le_of_ble_eq_true rfl) rfl (fun p e s m args below meth c C => ?_)
  rw [gX6_brought] at hg
  refine j_iload_n C dX6_brought_0 1 rfl rfl ?_
  refine j_if_eq C 10 hg dX6_brought_1 (by decide) (fun hg => ?_) (fun hg => ?_)
  · refine j_dload_n C dX6_brought_10 0 rfl rfl ?_
    exact j_dret C dX6_brought_11 (by rw [← Option.some.inj hg]) rfl rfl
  · refine j_dload_n C dX6_brought_4 0 rfl rfl ?_
    refine j_d2f C hg dX6_brought_5 (fun hg => ?_)
    refine j_f2d C hg dX6_brought_6 (fun hg => ?_)
    refine j_goto C 11 dX6_brought_7 (by decide) ?_
    exact j_dret C dX6_brought_11 (by rw [← Option.some.inj hg]) rfl rfl
end
section
def gX6_twoTo_52 (x0 : Int32) (k31 : UInt64 → UInt64 → Int32 → Int32 → Option UInt64) (v1 : UInt64) (v3 : UInt64) (v5 : Int32) (v6 : Int32) : Option UInt64 := if FP.dIsNaN (FP.dmul v3 v3) = false then (k31 v1 (FP.dmul v3 v3) v5 (v6 + (1 : Int32))) else none
def gX6_twoTo_31 (x0 : Int32) (k31 : UInt64 → UInt64 → Int32 → Int32 → Option UInt64) (v1 : UInt64) (v3 : UInt64) (v5 : Int32) (v6 : Int32) : Option UInt64 := if (11 : Int32) ≤ v6 then (some v1) else (if ((v5 >>> (v6 &&& 31)) &&& (1 : Int32)) = 0 then (gX6_twoTo_52 x0 k31 v1 v3 v5 v6) else (if FP.dIsNaN (FP.dmul v1 v3) = false then (gX6_twoTo_52 x0 k31 (FP.dmul v1 v3) v3 v5 v6) else none))
def gX6_twoTo_26 (x0 : Int32) (v1 : UInt64) (v3 : UInt64) (s0 : Int32) : Option UInt64 := lq4 (gX6_twoTo_31 x0) 20 v1 v3 s0 (0 : Int32)
def gX6_twoTo_15 (x0 : Int32) (v1 : UInt64) (s0 : UInt64) : Option UInt64 := if 0 ≤ x0 then (gX6_twoTo_26 x0 v1 s0 x0) else (gX6_twoTo_26 x0 v1 s0 (-x0))
def gX6_twoTo (x0 : Int32) : Option UInt64 := if 0 ≤ x0 then (gX6_twoTo_15 x0 FP.dconst1 (4611686018427387904 : UInt64)) else (gX6_twoTo_15 x0 FP.dconst1 (4602678819172646912 : UInt64))
theorem hd_X6_twoTo : yX6_twoTo.cls ≠ "java/lang/invoke/MethodHandle" ∧ yX6_twoTo.cls ≠ "java/lang/invoke/VarHandle" ∧ (parseMethodDescriptor yX6_twoTo.desc).map (fun d => d.parameters.length) = some 1 := by decide +kernel
set_option maxHeartbeats 4000000 in
set_option maxRecDepth 100000 in
theorem tX6_twoTo {G : GG} {l : Launch} {z N : Nat} {ct : Nat → va_E} (x0 : Int32) {r : UInt64} (hg : gX6_twoTo x0 = some r) : Ct G l yX6_twoTo cX6_twoTo 7 (some .double) ({ frames := 0, cells := 0, slots := 0, locals := 0 } : Room) [.int x0] z ct N (some (.double r)) ct N := by
  refine Ct.of (lv := [(0, .int x0)]) (by decide +kernel) (Nat.le_of_ble_eq_true rfl) rfl (fun p e s m args below meth c C => ?_)
  have L_31 : ∀ (n31 : Nat) (v1 : UInt64) (v3 : UInt64) (v5 : Int32) (v6 : Int32), lq4 (gX6_twoTo_31 x0) n31 v1 v3 v5 v6 = some r → J G p l e ({ frames := 0, cells := 0, slots := 0, locals := 0 } : Room) s m args below meth c z 7 (MQ below (Qd G z (some (.double r)) ct N) args s 0 0 (zA z)) ct N 0 0 31 [(1, .double v1), (3, .double v3), (5, .int v5), (6, .int v6)] [] := by
    intro n31
    induction n31 with
    | zero => intro v1 v3 v5 v6 hg; cases hg
    | succ n31 ih31 =>
      have L_52 : ∀ (v1 : UInt64) (v3 : UInt64) (v5 : Int32) (v6 : Int32), gX6_twoTo_52 x0 (lq4 (gX6_twoTo_31 x0) n31) v1 v3 v5 v6 = some r → J G p l e ({ frames := 0, cells := 0, slots := 0, locals := 0 } : Room) s m args below meth c z 7 (MQ below (Qd G z (some (.double r)) ct N) args s 0 0 (zA z)) ct N 0 0 52 [(1, .double v1), (3, .double v3), (5, .int v5), (6, .int v6)] [] := by
        intro v1 v3 v5 v6 hg
        rw [gX6_twoTo_52] at hg
        refine j_dload_n C dX6_twoTo_52 1 rfl rfl ?_
        refine j_dload_n C dX6_twoTo_53 1 rfl rfl ?_
        refine j_dmul C hg dX6_twoTo_54 (fun hg => ?_)
        refine j_dstore_n C [(3, .double (FP.dmul v3 v3)), (1, .double v1), (5, .int v5), (6, .int v6)] dX6_twoTo_55 rfl (by decide) rfl ?_
        refine j_iinc C [(6, .int (v6 + (1 : Int32))), (3, .double (FP.dmul v3 v3)), (1, .double v1), (5, .int v5)] dX6_twoTo_56 3 rfl rfl (by decide) rfl ?_
        refine j_goto C 31 dX6_twoTo_59 (by decide) ?_
        exact j_re [2, 1, 3, 0] rfl (ih31 v1 (FP.dmul v3 v3) v5 (v6 + (1 : Int32)) hg)
      intro v1 v3 v5 v6 hg
      replace hg : gX6_twoTo_31 x0 (lq4 (gX6_twoTo_31 x0) n31) v1 v3 v5 v6 = some r := hg
      rw [gX6_twoTo_31] at hg
      refine j_iload C dX6_twoTo_31 3 rfl ?_
      refine j_bipush (v := 11) C dX6_twoTo_33 (by decide) ?_
      refine j_icmp_ge C 62 hg dX6_twoTo_35 (by decide) (fun hg => ?_) (fun hg => ?_)
      · refine j_dload_n C dX6_twoTo_62 0 rfl rfl ?_
        exact j_dret C dX6_twoTo_63 (by rw [← Option.some.inj hg]) rfl rfl
      · refine j_iload C dX6_twoTo_38 2 rfl ?_
        refine j_iload C dX6_twoTo_40 3 rfl ?_
        refine j_ishr C dX6_twoTo_42 ?_
        refine j_iconst (v := 1) C dX6_twoTo_43 (by decide) ?_
        refine j_iand C dX6_twoTo_44 ?_
        refine j_if_eq C 52 hg dX6_twoTo_45 (by decide) (fun hg => ?_) (fun hg => ?_)
        · exact L_52 v1 v3 v5 v6 hg
        · refine j_dload_n C dX6_twoTo_48 0 rfl rfl ?_
          refine j_dload_n C dX6_twoTo_49 1 rfl rfl ?_
          refine j_dmul C hg dX6_twoTo_50 (fun hg => ?_)
          refine j_dstore_n C [(1, .double (FP.dmul v1 v3)), (3, .double v3), (5, .int v5), (6, .int v6)] dX6_twoTo_51 rfl (by decide) rfl ?_
          exact L_52 (FP.dmul v1 v3) v3 v5 v6 hg
  have L_26 : ∀ (v1 : UInt64) (v3 : UInt64) (s0 : Int32), gX6_twoTo_26 x0 v1 v3 s0 = some r → J G p l e ({ frames := 0, cells := 0, slots := 0, locals := 0 } : Room) s m args below meth c z 7 (MQ below (Qd G z (some (.double r)) ct N) args s 0 0 (zA z)) ct N 0 0 26 [(1, .double v1), (3, .double v3)] [.int s0] := by
    intro v1 v3 s0 hg
    rw [gX6_twoTo_26] at hg
    refine j_istore C [(5, .int s0), (1, .double v1), (3, .double v3)] dX6_twoTo_26 (by decide) rfl ?_
    refine j_iconst (v := 0) C dX6_twoTo_28 (by decide) ?_
    refine j_istore C [(6, .int (0 : Int32)), (5, .int s0), (1, .double v1), (3, .double v3)] dX6_twoTo_29 (by decide) rfl ?_
    exact j_re [2, 3, 1, 0] rfl (L_31 20 v1 v3 s0 (0 : Int32) hg)
  have L_15 : ∀ (v1 : UInt64) (s0 : UInt64), gX6_twoTo_15 x0 v1 s0 = some r → J G p l e ({ frames := 0, cells := 0, slots := 0, locals := 0 } : Room) s m args below meth c z 7 (MQ below (Qd G z (some (.double r)) ct N) args s 0 0 (zA z)) ct N 0 0 15 [(0, .int x0), (1, .double v1)] [.double s0] := by
    intro v1 s0 hg
    rw [gX6_twoTo_15] at hg
    refine j_dstore_n C [(3, .double s0), (0, .int x0), (1, .double v1)] dX6_twoTo_15 rfl (by decide) rfl ?_
    refine j_iload_n C dX6_twoTo_16 1 rfl rfl ?_
    refine j_if_ge C 25 hg dX6_twoTo_17 (by decide) (fun hg => ?_) (fun hg => ?_)
    · refine j_iload_n C dX6_twoTo_25 1 rfl rfl ?_
      exact j_re [2, 0] rfl (L_26 v1 s0 x0 hg)
    · refine j_iload_n C dX6_twoTo_20 1 rfl rfl ?_
      refine j_ineg C dX6_twoTo_21 ?_
      refine j_goto C 26 dX6_twoTo_22 (by decide) ?_
      exact j_re [2, 0] rfl (L_26 v1 s0 (-x0) hg)
  rw [gX6_twoTo] at hg
  refine j_dconst1 C dX6_twoTo_0 ?_
  refine j_dstore_n C [(1, .double FP.dconst1), (0, .int x0)] dX6_twoTo_1 rfl (by decide) rfl ?_
  refine j_iload_n C dX6_twoTo_2 1 rfl rfl ?_
  refine j_if_ge C 12 hg dX6_twoTo_3 (by decide) (fun hg => ?_) (fun hg => ?_)
  · refine j_ldc2d C q1_226 dX6_twoTo_12 ?_
    exact j_re [1, 0] rfl (L_15 FP.dconst1 (4611686018427387904 : UInt64) hg)
  · refine j_ldc2d C q1_225 dX6_twoTo_6 ?_
    refine j_goto C 15 dX6_twoTo_9 (by decide) ?_
    exact j_re [1, 0] rfl (L_15 FP.dconst1 (4602678819172646912 : UInt64) hg)
end
section
def gX6_named (x0 : Int32) (x1 : Int32) : Option UInt64 := if x0 = (1 : Int32) then (some (9218868437227405312 : UInt64)) else (if x0 = (2 : Int32) then (some (18442240474082181120 : UInt64)) else (if x0 = (3 : Int32) then (some (9223372036854775808 : UInt64)) else (if x0 = (4 : Int32) then (if x1 = 0 then (some (9218868437227405311 : UInt64)) else (some (5183643170566569984 : UInt64))) else (if x1 = 0 then (some (1 : UInt64)) else (some (3936146074321813504 : UInt64))))))
theorem hd_X6_named : yX6_named.cls ≠ "java/lang/invoke/MethodHandle" ∧ yX6_named.cls ≠ "java/lang/invoke/VarHandle" ∧ (parseMethodDescriptor yX6_named.desc).map (fun d => d.parameters.length) = some 2 := by decide +kernel
set_option maxHeartbeats 4000000 in
set_option maxRecDepth 100000 in
theorem tX6_named {G : GG} {l : Launch} {z N : Nat} {ct : Nat → va_E} (x0 : Int32) (x1 : Int32) {r : UInt64} (hg : gX6_named x0 x1 = some r) : Ct G l yX6_named cX6_named 2 (some .double) ({ frames := 0, cells := 0, slots := 0, locals := 0 } : Room) [.int x0, .int x1] z ct N (some (.double r)) ct N := by
  refine Ct.of (lv := [(0, .int x0), (1, .int x1)]) (by decide +kernel) (Nat.le_of_ble_eq_true rfl) rfl (fun p e s m args below meth c C => ?_)
  rw [gX6_named] at hg
  refine j_iload_n C dX6_named_0 0 rfl rfl ?_
  by_cases c1_0 : x0 = (1 : Int32)
  · replace hg := (if_pos c1_0).symm.trans hg
    refine j_tableIn (off := 31) C 32 dX6_named_1 (by rw [c1_0]; decide) (by rw [c1_0]; decide) (by rw [c1_0]; rfl) (by decide) ?_
    refine j_ldc2d C q2_12 dX6_named_32 ?_
    exact j_dret C dX6_named_35 (by rw [← Option.some.inj hg]) rfl rfl
  · replace hg := (if_neg c1_0).symm.trans hg
    by_cases c1_1 : x0 = (2 : Int32)
    · replace hg := (if_pos c1_1).symm.trans hg
      refine j_tableIn (off := 35) C 36 dX6_named_1 (by rw [c1_1]; decide) (by rw [c1_1]; decide) (by rw [c1_1]; rfl) (by decide) ?_
      refine j_ldc2d C q2_13 dX6_named_36 ?_
      exact j_dret C dX6_named_39 (by rw [← Option.some.inj hg]) rfl rfl
    · replace hg := (if_neg c1_1).symm.trans hg
      by_cases c1_2 : x0 = (3 : Int32)
      · replace hg := (if_pos c1_2).symm.trans hg
        refine j_tableIn (off := 39) C 40 dX6_named_1 (by rw [c1_2]; decide) (by rw [c1_2]; decide) (by rw [c1_2]; rfl) (by decide) ?_
        refine j_ldc2d C q2_14 dX6_named_40 ?_
        exact j_dret C dX6_named_43 (by rw [← Option.some.inj hg]) rfl rfl
      · replace hg := (if_neg c1_2).symm.trans hg
        by_cases c1_3 : x0 = (4 : Int32)
        · replace hg := (if_pos c1_3).symm.trans hg
          refine j_tableIn (off := 43) C 44 dX6_named_1 (by rw [c1_3]; decide) (by rw [c1_3]; decide) (by rw [c1_3]; rfl) (by decide) ?_
          refine j_iload_n C dX6_named_44 1 rfl rfl ?_
          refine j_if_eq C 54 hg dX6_named_45 (by decide) (fun hg => ?_) (fun hg => ?_)
          · refine j_ldc2d C q2_16 dX6_named_54 ?_
            exact j_dret C dX6_named_57 (by rw [← Option.some.inj hg]) rfl rfl
          · refine j_ldc2d C q2_15 dX6_named_48 ?_
            refine j_goto C 57 dX6_named_51 (by decide) ?_
            exact j_dret C dX6_named_57 (by rw [← Option.some.inj hg]) rfl rfl
        · replace hg := (if_neg c1_3).symm.trans hg
          have nc1_0 : ¬ x0.toInt = 1 := fun h => c1_0 (Int32.toInt_inj.mp (h.trans (by decide)))
          have nc1_1 : ¬ x0.toInt = 2 := fun h => c1_1 (Int32.toInt_inj.mp (h.trans (by decide)))
          have nc1_2 : ¬ x0.toInt = 3 := fun h => c1_2 (Int32.toInt_inj.mp (h.trans (by decide)))
          have nc1_3 : ¬ x0.toInt = 4 := fun h => c1_3 (Int32.toInt_inj.mp (h.trans (by decide)))
          refine j_tableOut C 58 dX6_named_1 (by omega) (by decide) ?_
          refine j_iload_n C dX6_named_58 1 rfl rfl ?_
          refine j_if_eq C 68 hg dX6_named_59 (by decide) (fun hg => ?_) (fun hg => ?_)
          · refine j_ldc2d C q2_18 dX6_named_68 ?_
            exact j_dret C dX6_named_71 (by rw [← Option.some.inj hg]) rfl rfl
          · refine j_ldc2d C q2_17 dX6_named_62 ?_
            refine j_goto C 71 dX6_named_65 (by decide) ?_
            exact j_dret C dX6_named_71 (by rw [← Option.some.inj hg]) rfl rfl
end
section
def gX6_isInfinite (x0 : UInt64) : Option Int32 := if 0 < (Op.cmpValue (FP.dcmp x0 (9218868437227405311 : UInt64)) CmpOp.l) then (some (1 : Int32)) else (if 0 ≤ (Op.cmpValue (FP.dcmp x0 (18442240474082181119 : UInt64)) CmpOp.g) then (some (0 : Int32)) else (some (1 : Int32)))
theorem hd_X6_isInfinite : yX6_isInfinite.cls ≠ "java/lang/invoke/MethodHandle" ∧ yX6_isInfinite.cls ≠ "java/lang/invoke/VarHandle" ∧ (parseMethodDescriptor yX6_isInfinite.desc).map (fun d => d.parameters.length) = some 1 := by decide +kernel
set_option maxHeartbeats 4000000 in
set_option maxRecDepth 100000 in
theorem tX6_isInfinite {G : GG} {l : Launch} {z N : Nat} {ct : Nat → va_E} (x0 : UInt64) {r : Int32} (hg : gX6_isInfinite x0 = some r) : Ct G l yX6_isInfinite cX6_isInfinite 2 (some .boolean) ({ frames := 0, cells := 0, slots := 0, locals := 0 } : Room) [.double x0] z ct N (some (.int r)) ct N := by
  refine Ct.of (lv := [(0, .double x0)]) (by decide +kernel) (Nat.le_of_ble_eq_true rfl) rfl (fun p e s m args below meth c C => ?_)
  rw [gX6_isInfinite] at hg
  refine j_dload_n C dX6_isInfinite_0 0 rfl rfl ?_
  refine j_ldc2d C q2_16 dX6_isInfinite_1 ?_
  refine j_dcmp C dX6_isInfinite_4 ?_
  refine j_if_gt C 16 hg dX6_isInfinite_5 (by decide) (fun hg => ?_) (fun hg => ?_)
  · refine j_iconst (v := 1) C dX6_isInfinite_16 (by decide) ?_
    refine j_goto C 21 dX6_isInfinite_17 (by decide) ?_
    exact j_zret C dX6_isInfinite_21 (by decide) (by rw [← Option.some.inj hg]) rfl rfl
  · refine j_dload_n C dX6_isInfinite_8 0 rfl rfl ?_
    refine j_ldc2d C q2_142 dX6_isInfinite_9 ?_
    refine j_dcmp C dX6_isInfinite_12 ?_
    refine j_if_ge C 20 hg dX6_isInfinite_13 (by decide) (fun hg => ?_) (fun hg => ?_)
    · refine j_iconst (v := 0) C dX6_isInfinite_20 (by decide) ?_
      exact j_zret C dX6_isInfinite_21 (by decide) (by rw [← Option.some.inj hg]) rfl rfl
    · refine j_iconst (v := 1) C dX6_isInfinite_16 (by decide) ?_
      refine j_goto C 21 dX6_isInfinite_17 (by decide) ?_
      exact j_zret C dX6_isInfinite_21 (by decide) (by rw [← Option.some.inj hg]) rfl rfl
end
section
def gX6_hasMinus (x0 : UInt64) : Option Int32 := if (Op.cmpValue (FP.dcmp x0 FP.dconst0) CmpOp.g) < 0 then (some (1 : Int32)) else (if (Op.cmpValue (FP.dcmp x0 FP.dconst0) CmpOp.l) = 0 then (if FP.dIsNaN (FP.ddiv FP.dconst1 x0) = false then (if 0 ≤ (Op.cmpValue (FP.dcmp (FP.ddiv FP.dconst1 x0) FP.dconst0) CmpOp.g) then (some (0 : Int32)) else (some (1 : Int32))) else none) else (some (0 : Int32)))
theorem hd_X6_hasMinus : yX6_hasMinus.cls ≠ "java/lang/invoke/MethodHandle" ∧ yX6_hasMinus.cls ≠ "java/lang/invoke/VarHandle" ∧ (parseMethodDescriptor yX6_hasMinus.desc).map (fun d => d.parameters.length) = some 1 := by decide +kernel
set_option maxHeartbeats 4000000 in
set_option maxRecDepth 100000 in
theorem tX6_hasMinus {G : GG} {l : Launch} {z N : Nat} {ct : Nat → va_E} (x0 : UInt64) {r : Int32} (hg : gX6_hasMinus x0 = some r) : Ct G l yX6_hasMinus cX6_hasMinus 2 (some .boolean) ({ frames := 0, cells := 0, slots := 0, locals := 0 } : Room) [.double x0] z ct N (some (.int r)) ct N := by
  refine Ct.of (lv := [(0, .double x0)]) (by decide +kernel) (Nat.le_of_ble_eq_true rfl) rfl (fun p e s m args below meth c C => ?_)
  rw [gX6_hasMinus] at hg
  refine j_dload_n C dX6_hasMinus_0 0 rfl rfl ?_
  refine j_dconst0 C dX6_hasMinus_1 ?_
  refine j_dcmp C dX6_hasMinus_2 ?_
  refine j_if_lt C 20 hg dX6_hasMinus_3 (by decide) (fun hg => ?_) (fun hg => ?_)
  · refine j_iconst (v := 1) C dX6_hasMinus_20 (by decide) ?_
    refine j_goto C 25 dX6_hasMinus_21 (by decide) ?_
    exact j_zret C dX6_hasMinus_25 (by decide) (by rw [← Option.some.inj hg]) rfl rfl
  · refine j_dload_n C dX6_hasMinus_6 0 rfl rfl ?_
    refine j_dconst0 C dX6_hasMinus_7 ?_
    refine j_dcmp C dX6_hasMinus_8 ?_
    refine j_if_ne C 24 hg dX6_hasMinus_9 (by decide) (fun hg => ?_) (fun hg => ?_)
    · refine j_iconst (v := 0) C dX6_hasMinus_24 (by decide) ?_
      exact j_zret C dX6_hasMinus_25 (by decide) (by rw [← Option.some.inj hg]) rfl rfl
    · refine j_dconst1 C dX6_hasMinus_12 ?_
      refine j_dload_n C dX6_hasMinus_13 0 rfl rfl ?_
      refine j_ddiv C hg dX6_hasMinus_14 (fun hg => ?_)
      refine j_dconst0 C dX6_hasMinus_15 ?_
      refine j_dcmp C dX6_hasMinus_16 ?_
      refine j_if_ge C 24 hg dX6_hasMinus_17 (by decide) (fun hg => ?_) (fun hg => ?_)
      · refine j_iconst (v := 0) C dX6_hasMinus_24 (by decide) ?_
        exact j_zret C dX6_hasMinus_25 (by decide) (by rw [← Option.some.inj hg]) rfl rfl
      · refine j_iconst (v := 1) C dX6_hasMinus_20 (by decide) ?_
        refine j_goto C 25 dX6_hasMinus_21 (by decide) ?_
        exact j_zret C dX6_hasMinus_25 (by decide) (by rw [← Option.some.inj hg]) rfl rfl
end
section
def gX6_withSign (x0 : UInt64) (x1 : Int32) : Option UInt64 := (gX6_hasMinus x0).bind (fun r1 => if r1 = x1 then (some x0) else (some (FP.dneg x0)))
theorem hd_X6_withSign : yX6_withSign.cls ≠ "java/lang/invoke/MethodHandle" ∧ yX6_withSign.cls ≠ "java/lang/invoke/VarHandle" ∧ (parseMethodDescriptor yX6_withSign.desc).map (fun d => d.parameters.length) = some 2 := by decide +kernel
set_option maxHeartbeats 4000000 in
set_option maxRecDepth 100000 in
theorem tX6_withSign {G : GG} {l : Launch} {z N : Nat} {ct : Nat → va_E} (x0 : UInt64) (x1 : Int32) {r : UInt64} (hg : gX6_withSign x0 x1 = some r) : Ct G l yX6_withSign cX6_withSign 3 (some .double) ({ frames := 1, cells := 0, slots := 0, locals := 21 } : Room) [.double x0, .int x1] z ct N (some (.double r)) ct N := by
  refine Ct.of (lv := [(0, .double x0), (2, .int x1)]) (by decide +kernel) (Nat.le_of_ble_eq_true rfl) rfl (fun p e s m args below meth c C => ?_)
  rw [gX6_withSign] at hg
  refine j_dload_n C dX6_withSign_0 0 rfl rfl ?_
  obtain ⟨r1, hr1, hg⟩ := ob hg
  refine j_callS C [.double x0] (tX6_hasMinus x0 hr1) q2_109 q1_10 q2_108 q2_107 hd_X6_hasMinus rfl dX6_withSign_1 rfl (Nat.le_of_ble_eq_true rfl) ⟨(Nat.le_of_ble_eq_true rfl), (Nat.le_of_ble_eq_true rfl)⟩ ⟨(Nat.le_of_ble_eq_true rfl), (Nat.le_of_ble_eq_true rfl)⟩ ?_
  refine j_iload_n C dX6_withSign_4 1 rfl rfl ?_
  refine j_icmp_ne C 12 hg dX6_withSign_5 (by decide) (fun hg => ?_) (fun hg => ?_)
  · refine j_dload_n C dX6_withSign_12 0 rfl rfl ?_
    refine j_dneg C dX6_withSign_13 ?_
    exact j_dret C dX6_withSign_14 (by rw [← Option.some.inj hg]) rfl rfl
  · refine j_dload_n C dX6_withSign_8 0 rfl rfl ?_
    refine j_goto C 14 dX6_withSign_9 (by decide) ?_
    exact j_dret C dX6_withSign_14 (by rw [← Option.some.inj hg]) rfl rfl
end
section
def gX6_isBelow (x0 : UInt64) (x1 : UInt64) : Option Int32 := if (Op.cmpValue (FP.dcmp x0 x1) CmpOp.g) < 0 then (some (1 : Int32)) else (if (Op.cmpValue (FP.dcmp x0 FP.dconst0) CmpOp.l) = 0 then (if (Op.cmpValue (FP.dcmp x1 FP.dconst0) CmpOp.l) = 0 then (if FP.dIsNaN (FP.ddiv FP.dconst1 x0) = false then (if FP.dIsNaN (FP.ddiv FP.dconst1 x1) = false then (if 0 ≤ (Op.cmpValue (FP.dcmp (FP.ddiv FP.dconst1 x0) (FP.ddiv FP.dconst1 x1)) CmpOp.g) then (some (0 : Int32)) else (some (1 : Int32))) else none) else none) else (some (0 : Int32))) else (some (0 : Int32)))
theorem hd_X6_isBelow : yX6_isBelow.cls ≠ "java/lang/invoke/MethodHandle" ∧ yX6_isBelow.cls ≠ "java/lang/invoke/VarHandle" ∧ (parseMethodDescriptor yX6_isBelow.desc).map (fun d => d.parameters.length) = some 2 := by decide +kernel
set_option maxHeartbeats 4000000 in
set_option maxRecDepth 100000 in
theorem tX6_isBelow {G : GG} {l : Launch} {z N : Nat} {ct : Nat → va_E} (x0 : UInt64) (x1 : UInt64) {r : Int32} (hg : gX6_isBelow x0 x1 = some r) : Ct G l yX6_isBelow cX6_isBelow 4 (some .boolean) ({ frames := 0, cells := 0, slots := 0, locals := 0 } : Room) [.double x0, .double x1] z ct N (some (.int r)) ct N := by
  refine Ct.of (lv := [(0, .double x0), (2, .double x1)]) (by decide +kernel) (Nat.le_of_ble_eq_true rfl) rfl (fun p e s m args below meth c C => ?_)
  rw [gX6_isBelow] at hg
  refine j_dload_n C dX6_isBelow_0 0 rfl rfl ?_
  refine j_dload_n C dX6_isBelow_1 1 rfl rfl ?_
  refine j_dcmp C dX6_isBelow_2 ?_
  refine j_if_lt C 28 hg dX6_isBelow_3 (by decide) (fun hg => ?_) (fun hg => ?_)
  · refine j_iconst (v := 1) C dX6_isBelow_28 (by decide) ?_
    refine j_goto C 33 dX6_isBelow_29 (by decide) ?_
    exact j_zret C dX6_isBelow_33 (by decide) (by rw [← Option.some.inj hg]) rfl rfl
  · refine j_dload_n C dX6_isBelow_6 0 rfl rfl ?_
    refine j_dconst0 C dX6_isBelow_7 ?_
    refine j_dcmp C dX6_isBelow_8 ?_
    refine j_if_ne C 32 hg dX6_isBelow_9 (by decide) (fun hg => ?_) (fun hg => ?_)
    · refine j_iconst (v := 0) C dX6_isBelow_32 (by decide) ?_
      exact j_zret C dX6_isBelow_33 (by decide) (by rw [← Option.some.inj hg]) rfl rfl
    · refine j_dload_n C dX6_isBelow_12 1 rfl rfl ?_
      refine j_dconst0 C dX6_isBelow_13 ?_
      refine j_dcmp C dX6_isBelow_14 ?_
      refine j_if_ne C 32 hg dX6_isBelow_15 (by decide) (fun hg => ?_) (fun hg => ?_)
      · refine j_iconst (v := 0) C dX6_isBelow_32 (by decide) ?_
        exact j_zret C dX6_isBelow_33 (by decide) (by rw [← Option.some.inj hg]) rfl rfl
      · refine j_dconst1 C dX6_isBelow_18 ?_
        refine j_dload_n C dX6_isBelow_19 0 rfl rfl ?_
        refine j_ddiv C hg dX6_isBelow_20 (fun hg => ?_)
        refine j_dconst1 C dX6_isBelow_21 ?_
        refine j_dload_n C dX6_isBelow_22 1 rfl rfl ?_
        refine j_ddiv C hg dX6_isBelow_23 (fun hg => ?_)
        refine j_dcmp C dX6_isBelow_24 ?_
        refine j_if_ge C 32 hg dX6_isBelow_25 (by decide) (fun hg => ?_) (fun hg => ?_)
        · refine j_iconst (v := 0) C dX6_isBelow_32 (by decide) ?_
          exact j_zret C dX6_isBelow_33 (by decide) (by rw [← Option.some.inj hg]) rfl rfl
        · refine j_iconst (v := 1) C dX6_isBelow_28 (by decide) ?_
          refine j_goto C 33 dX6_isBelow_29 (by decide) ?_
          exact j_zret C dX6_isBelow_33 (by decide) (by rw [← Option.some.inj hg]) rfl rfl
end
section
def gX6_lesser (x0 : UInt64) (x1 : UInt64) : Option UInt64 := (gX6_isBelow x1 x0).bind (fun r1 => if r1 = 0 then (some x0) else (some x1))
theorem hd_X6_lesser : yX6_lesser.cls ≠ "java/lang/invoke/MethodHandle" ∧ yX6_lesser.cls ≠ "java/lang/invoke/VarHandle" ∧ (parseMethodDescriptor yX6_lesser.desc).map (fun d => d.parameters.length) = some 2 := by decide +kernel
set_option maxHeartbeats 4000000 in
set_option maxRecDepth 100000 in
theorem tX6_lesser {G : GG} {l : Launch} {z N : Nat} {ct : Nat → va_E} (x0 : UInt64) (x1 : UInt64) {r : UInt64} (hg : gX6_lesser x0 x1 = some r) : Ct G l yX6_lesser cX6_lesser 4 (some .double) ({ frames := 1, cells := 0, slots := 0, locals := 23 } : Room) [.double x0, .double x1] z ct N (some (.double r)) ct N := by
  refine Ct.of (lv := [(0, .double x0), (2, .double x1)]) (by decide +kernel) (Nat.le_of_ble_eq_true rfl) rfl (fun p e s m args below meth c C => ?_)
  rw [gX6_lesser] at hg
  refine j_dload_n C dX6_lesser_0 1 rfl rfl ?_
  refine j_dload_n C dX6_lesser_1 0 rfl rfl ?_
  obtain ⟨r1, hr1, hg⟩ := ob hg
  refine j_callS C [.double x1, .double x0] (tX6_isBelow x1 x0 hr1) q2_178 q1_10 q2_177 q2_176 hd_X6_isBelow rfl dX6_lesser_2 rfl (Nat.le_of_ble_eq_true rfl) ⟨(Nat.le_of_ble_eq_true rfl), (Nat.le_of_ble_eq_true rfl)⟩ ⟨(Nat.le_of_ble_eq_true rfl), (Nat.le_of_ble_eq_true rfl)⟩ ?_
  refine j_if_eq C 12 hg dX6_lesser_5 (by decide) (fun hg => ?_) (fun hg => ?_)
  · refine j_dload_n C dX6_lesser_12 0 rfl rfl ?_
    exact j_dret C dX6_lesser_13 (by rw [← Option.some.inj hg]) rfl rfl
  · refine j_dload_n C dX6_lesser_8 1 rfl rfl ?_
    refine j_goto C 13 dX6_lesser_9 (by decide) ?_
    exact j_dret C dX6_lesser_13 (by rw [← Option.some.inj hg]) rfl rfl
end
section
def gX6_greater (x0 : UInt64) (x1 : UInt64) : Option UInt64 := (gX6_isBelow x0 x1).bind (fun r1 => if r1 = 0 then (some x0) else (some x1))
theorem hd_X6_greater : yX6_greater.cls ≠ "java/lang/invoke/MethodHandle" ∧ yX6_greater.cls ≠ "java/lang/invoke/VarHandle" ∧ (parseMethodDescriptor yX6_greater.desc).map (fun d => d.parameters.length) = some 2 := by decide +kernel
set_option maxHeartbeats 4000000 in
set_option maxRecDepth 100000 in
theorem tX6_greater {G : GG} {l : Launch} {z N : Nat} {ct : Nat → va_E} (x0 : UInt64) (x1 : UInt64) {r : UInt64} (hg : gX6_greater x0 x1 = some r) : Ct G l yX6_greater cX6_greater 4 (some .double) ({ frames := 1, cells := 0, slots := 0, locals := 23 } : Room) [.double x0, .double x1] z ct N (some (.double r)) ct N := by
  refine Ct.of (lv := [(0, .double x0), (2, .double x1)]) (by decide +kernel) (Nat.le_of_ble_eq_true rfl) rfl (fun p e s m args below meth c C => ?_)
  rw [gX6_greater] at hg
  refine j_dload_n C dX6_greater_0 0 rfl rfl ?_
  refine j_dload_n C dX6_greater_1 1 rfl rfl ?_
  obtain ⟨r1, hr1, hg⟩ := ob hg
  refine j_callS C [.double x0, .double x1] (tX6_isBelow x0 x1 hr1) q2_178 q1_10 q2_177 q2_176 hd_X6_isBelow rfl dX6_greater_2 rfl (Nat.le_of_ble_eq_true rfl) ⟨(Nat.le_of_ble_eq_true rfl), (Nat.le_of_ble_eq_true rfl)⟩ ⟨(Nat.le_of_ble_eq_true rfl), (Nat.le_of_ble_eq_true rfl)⟩ ?_
  refine j_if_eq C 12 hg dX6_greater_5 (by decide) (fun hg => ?_) (fun hg => ?_)
  · refine j_dload_n C dX6_greater_12 0 rfl rfl ?_
    exact j_dret C dX6_greater_13 (by rw [← Option.some.inj hg]) rfl rfl
  · refine j_dload_n C dX6_greater_8 1 rfl rfl ?_
    refine j_goto C 13 dX6_greater_9 (by decide) ?_
    exact j_dret C dX6_greater_13 (by rw [← Option.some.inj hg]) rfl rfl
end
section
def gX6_sum (x0 : UInt64) (x1 : UInt64) (x2 : Int32) : Option UInt64 := if x2 = 0 then (if FP.dIsNaN (FP.dadd x0 x1) = false then (some (FP.dadd x0 x1)) else none) else (if FP.fIsNaN (FP.d2f x0) = false then (if FP.fIsNaN (FP.d2f x1) = false then (if FP.fIsNaN (FP.fadd (FP.d2f x0) (FP.d2f x1)) = false then (if FP.dIsNaN (FP.f2d (FP.fadd (FP.d2f x0) (FP.d2f x1))) = false then (some (FP.f2d (FP.fadd (FP.d2f x0) (FP.d2f x1)))) else none) else none) else none) else none)
theorem hd_X6_sum : yX6_sum.cls ≠ "java/lang/invoke/MethodHandle" ∧ yX6_sum.cls ≠ "java/lang/invoke/VarHandle" ∧ (parseMethodDescriptor yX6_sum.desc).map (fun d => d.parameters.length) = some 3 := by decide +kernel
set_option maxHeartbeats 4000000 in
set_option maxRecDepth 100000 in
theorem tX6_sum {G : GG} {l : Launch} {z N : Nat} {ct : Nat → va_E} (x0 : UInt64) (x1 : UInt64) (x2 : Int32) {r : UInt64} (hg : gX6_sum x0 x1 x2 = some r) : Ct G l yX6_sum cX6_sum 5 (some .double) ({ frames := 0, cells := 0, slots := 0, locals := 0 } : Room) [.double x0, .double x1, .int x2] z ct N (some (.double r)) ct N := by
  refine Ct.of (lv := [(0, .double x0), (2, .double x1), (4, .int x2)]) (by decide +kernel) (Nat.le_of_ble_eq_true rfl) rfl (fun p e s m args below meth c C => ?_)
  rw [gX6_sum] at hg
  refine j_iload C dX6_sum_0 2 rfl ?_
  refine j_if_eq C 14 hg dX6_sum_2 (by decide) (fun hg => ?_) (fun hg => ?_)
  · refine j_dload_n C dX6_sum_14 0 rfl rfl ?_
    refine j_dload_n C dX6_sum_15 1 rfl rfl ?_
    refine j_dadd C hg dX6_sum_16 (fun hg => ?_)
    exact j_dret C dX6_sum_17 (by rw [← Option.some.inj hg]) rfl rfl
  · refine j_dload_n C dX6_sum_5 0 rfl rfl ?_
    refine j_d2f C hg dX6_sum_6 (fun hg => ?_)
    refine j_dload_n C dX6_sum_7 1 rfl rfl ?_
    refine j_d2f C hg dX6_sum_8 (fun hg => ?_)
    refine j_fadd C hg dX6_sum_9 (fun hg => ?_)
    refine j_f2d C hg dX6_sum_10 (fun hg => ?_)
    refine j_goto C 17 dX6_sum_11 (by decide) ?_
    exact j_dret C dX6_sum_17 (by rw [← Option.some.inj hg]) rfl rfl
end
section
def gX6_product (x0 : UInt64) (x1 : UInt64) (x2 : Int32) : Option UInt64 := if x2 = 0 then (if FP.dIsNaN (FP.dmul x0 x1) = false then (some (FP.dmul x0 x1)) else none) else (if FP.fIsNaN (FP.d2f x0) = false then (if FP.fIsNaN (FP.d2f x1) = false then (if FP.fIsNaN (FP.fmul (FP.d2f x0) (FP.d2f x1)) = false then (if FP.dIsNaN (FP.f2d (FP.fmul (FP.d2f x0) (FP.d2f x1))) = false then (some (FP.f2d (FP.fmul (FP.d2f x0) (FP.d2f x1)))) else none) else none) else none) else none)
theorem hd_X6_product : yX6_product.cls ≠ "java/lang/invoke/MethodHandle" ∧ yX6_product.cls ≠ "java/lang/invoke/VarHandle" ∧ (parseMethodDescriptor yX6_product.desc).map (fun d => d.parameters.length) = some 3 := by decide +kernel
set_option maxHeartbeats 4000000 in
set_option maxRecDepth 100000 in
theorem tX6_product {G : GG} {l : Launch} {z N : Nat} {ct : Nat → va_E} (x0 : UInt64) (x1 : UInt64) (x2 : Int32) {r : UInt64} (hg : gX6_product x0 x1 x2 = some r) : Ct G l yX6_product cX6_product 5 (some .double) ({ frames := 0, cells := 0, slots := 0, locals := 0 } : Room) [.double x0, .double x1, .int x2] z ct N (some (.double r)) ct N := by
  refine Ct.of (lv := [(0, .double x0), (2, .double x1), (4, .int x2)]) (by decide +kernel) (Nat.le_of_ble_eq_true rfl) rfl (fun p e s m args below meth c C => ?_)
  rw [gX6_product] at hg
  refine j_iload C dX6_product_0 2 rfl ?_
  refine j_if_eq C 14 hg dX6_product_2 (by decide) (fun hg => ?_) (fun hg => ?_)
  · refine j_dload_n C dX6_product_14 0 rfl rfl ?_
    refine j_dload_n C dX6_product_15 1 rfl rfl ?_
    refine j_dmul C hg dX6_product_16 (fun hg => ?_)
    exact j_dret C dX6_product_17 (by rw [← Option.some.inj hg]) rfl rfl
  · refine j_dload_n C dX6_product_5 0 rfl rfl ?_
    refine j_d2f C hg dX6_product_6 (fun hg => ?_)
    refine j_dload_n C dX6_product_7 1 rfl rfl ?_
    refine j_d2f C hg dX6_product_8 (fun hg => ?_)
    refine j_fmul C hg dX6_product_9 (fun hg => ?_)
    refine j_f2d C hg dX6_product_10 (fun hg => ?_)
    refine j_goto C 17 dX6_product_11 (by decide) ?_
    exact j_dret C dX6_product_17 (by rw [← Option.some.inj hg]) rfl rfl
end
section
def gX6_quotient (x0 : UInt64) (x1 : UInt64) (x2 : Int32) : Option UInt64 := if x2 = 0 then (if FP.dIsNaN (FP.ddiv x0 x1) = false then (some (FP.ddiv x0 x1)) else none) else (if FP.fIsNaN (FP.d2f x0) = false then (if FP.fIsNaN (FP.d2f x1) = false then (if FP.fIsNaN (FP.fdiv (FP.d2f x0) (FP.d2f x1)) = false then (if FP.dIsNaN (FP.f2d (FP.fdiv (FP.d2f x0) (FP.d2f x1))) = false then (some (FP.f2d (FP.fdiv (FP.d2f x0) (FP.d2f x1)))) else none) else none) else none) else none)
theorem hd_X6_quotient : yX6_quotient.cls ≠ "java/lang/invoke/MethodHandle" ∧ yX6_quotient.cls ≠ "java/lang/invoke/VarHandle" ∧ (parseMethodDescriptor yX6_quotient.desc).map (fun d => d.parameters.length) = some 3 := by decide +kernel
set_option maxHeartbeats 4000000 in
set_option maxRecDepth 100000 in
theorem tX6_quotient {G : GG} {l : Launch} {z N : Nat} {ct : Nat → va_E} (x0 : UInt64) (x1 : UInt64) (x2 : Int32) {r : UInt64} (hg : gX6_quotient x0 x1 x2 = some r) : Ct G l yX6_quotient cX6_quotient 5 (some .double) ({ frames := 0, cells := 0, slots := 0, locals := 0 } : Room) [.double x0, .double x1, .int x2] z ct N (some (.double r)) ct N := by
  refine Ct.of (lv := [(0, .double x0), (2, .double x1), (4, .int x2)]) (by decide +kernel) (Nat.le_of_ble_eq_true rfl) rfl (fun p e s m args below meth c C => ?_)
  rw [gX6_quotient] at hg
  refine j_iload C dX6_quotient_0 2 rfl ?_
  refine j_if_eq C 14 hg dX6_quotient_2 (by decide) (fun hg => ?_) (fun hg => ?_)
  · refine j_dload_n C dX6_quotient_14 0 rfl rfl ?_
    refine j_dload_n C dX6_quotient_15 1 rfl rfl ?_
    refine j_ddiv C hg dX6_quotient_16 (fun hg => ?_)
    exact j_dret C dX6_quotient_17 (by rw [← Option.some.inj hg]) rfl rfl
  · refine j_dload_n C dX6_quotient_5 0 rfl rfl ?_
    refine j_d2f C hg dX6_quotient_6 (fun hg => ?_)
    refine j_dload_n C dX6_quotient_7 1 rfl rfl ?_
    refine j_d2f C hg dX6_quotient_8 (fun hg => ?_)
    refine j_fdiv C hg dX6_quotient_9 (fun hg => ?_)
    refine j_f2d C hg dX6_quotient_10 (fun hg => ?_)
    refine j_goto C 17 dX6_quotient_11 (by decide) ?_
    exact j_dret C dX6_quotient_17 (by rw [← Option.some.inj hg]) rfl rfl
end
section
def gX6_isSurelyWhole (x0 : UInt64) : Option Int32 := if 0 ≤ (Op.cmpValue (FP.dcmp x0 (4841369599423283200 : UInt64)) CmpOp.l) then (some (1 : Int32)) else (if 0 < (Op.cmpValue (FP.dcmp x0 (14064741636278059008 : UInt64)) CmpOp.g) then (some (0 : Int32)) else (some (1 : Int32)))
theorem hd_X6_isSurelyWhole : yX6_isSurelyWhole.cls ≠ "java/lang/invoke/MethodHandle" ∧ yX6_isSurelyWhole.cls ≠ "java/lang/invoke/VarHandle" ∧ (parseMethodDescriptor yX6_isSurelyWhole.desc).map (fun d => d.parameters.length) = some 1 := by decide +kernel
set_option maxHeartbeats 4000000 in
set_option maxRecDepth 100000 in
theorem tX6_isSurelyWhole {G : GG} {l : Launch} {z N : Nat} {ct : Nat → va_E} (x0 : UInt64) {r : Int32} (hg : gX6_isSurelyWhole x0 = some r) : Ct G l yX6_isSurelyWhole cX6_isSurelyWhole 2 (some .boolean) ({ frames := 0, cells := 0, slots := 0, locals := 0 } : Room) [.double x0] z ct N (some (.int r)) ct N := by
  refine Ct.of (lv := [(0, .double x0)]) (by decide +kernel) (Nat.le_of_ble_eq_true rfl) rfl (fun p e s m args below meth c C => ?_)
  rw [gX6_isSurelyWhole] at hg
  refine j_dload_n C dX6_isSurelyWhole_0 0 rfl rfl ?_
  refine j_ldc2d C q2_116 dX6_isSurelyWhole_1 ?_
  refine j_dcmp C dX6_isSurelyWhole_4 ?_
  refine j_if_ge C 16 hg dX6_isSurelyWhole_5 (by decide) (fun hg => ?_) (fun hg => ?_)
  · refine j_iconst (v := 1) C dX6_isSurelyWhole_16 (by decide) ?_
    refine j_goto C 21 dX6_isSurelyWhole_17 (by decide) ?_
    exact j_zret C dX6_isSurelyWhole_21 (by decide) (by rw [← Option.some.inj hg]) rfl rfl
  · refine j_dload_n C dX6_isSurelyWhole_8 0 rfl rfl ?_
    refine j_ldc2d C q2_117 dX6_isSurelyWhole_9 ?_
    refine j_dcmp C dX6_isSurelyWhole_12 ?_
    refine j_if_gt C 20 hg dX6_isSurelyWhole_13 (by decide) (fun hg => ?_) (fun hg => ?_)
    · refine j_iconst (v := 0) C dX6_isSurelyWhole_20 (by decide) ?_
      exact j_zret C dX6_isSurelyWhole_21 (by decide) (by rw [← Option.some.inj hg]) rfl rfl
    · refine j_iconst (v := 1) C dX6_isSurelyWhole_16 (by decide) ?_
      refine j_goto C 21 dX6_isSurelyWhole_17 (by decide) ?_
      exact j_zret C dX6_isSurelyWhole_21 (by decide) (by rw [← Option.some.inj hg]) rfl rfl
end
section
def gX6_zeroLike (x0 : UInt64) : Option UInt64 := if FP.dIsNaN (FP.dmul x0 FP.dconst0) = false then (some (FP.dmul x0 FP.dconst0)) else none
theorem hd_X6_zeroLike : yX6_zeroLike.cls ≠ "java/lang/invoke/MethodHandle" ∧ yX6_zeroLike.cls ≠ "java/lang/invoke/VarHandle" ∧ (parseMethodDescriptor yX6_zeroLike.desc).map (fun d => d.parameters.length) = some 1 := by decide +kernel
set_option maxHeartbeats 4000000 in
set_option maxRecDepth 100000 in
theorem tX6_zeroLike {G : GG} {l : Launch} {z N : Nat} {ct : Nat → va_E} (x0 : UInt64) {r : UInt64} (hg : gX6_zeroLike x0 = some r) : Ct G l yX6_zeroLike cX6_zeroLike 2 (some .double) ({ frames := 0, cells := 0, slots := 0, locals := 0 } : Room) [.double x0] z ct N (some (.double r)) ct N := by
  refine Ct.of (lv := [(0, .double x0)]) (by decide +kernel) (Nat.le_of_ble_eq_true rfl) rfl (fun p e s m args below meth c C => ?_)
  rw [gX6_zeroLike] at hg
  refine j_dload_n C dX6_zeroLike_0 0 rfl rfl ?_
  refine j_dconst0 C dX6_zeroLike_1 ?_
  refine j_dmul C hg dX6_zeroLike_2 (fun hg => ?_)
  exact j_dret C dX6_zeroLike_3 (by rw [← Option.some.inj hg]) rfl rfl
end
section
def gX6_floor_23 (x0 : UInt64) (v2 : UInt64) : Option UInt64 := if (Op.cmpValue (FP.dcmp v2 FP.dconst0) CmpOp.l) = 0 then ((gX6_zeroLike x0).bind (fun r2 => some r2)) else (some v2)
def gX6_floor (x0 : UInt64) : Option UInt64 := (gX6_isSurelyWhole x0).bind (fun r1 => if r1 = 0 then (if (Op.cmpValue (FP.dcmp (FP.l2d (FP.d2l x0)) x0) CmpOp.l) ≤ 0 then (gX6_floor_23 x0 (FP.l2d (FP.d2l x0))) else (if FP.dIsNaN (FP.dsub (FP.l2d (FP.d2l x0)) FP.dconst1) = false then (gX6_floor_23 x0 (FP.dsub (FP.l2d (FP.d2l x0)) FP.dconst1)) else none)) else (some x0))
theorem hd_X6_floor : yX6_floor.cls ≠ "java/lang/invoke/MethodHandle" ∧ yX6_floor.cls ≠ "java/lang/invoke/VarHandle" ∧ (parseMethodDescriptor yX6_floor.desc).map (fun d => d.parameters.length) = some 1 := by decide +kernel
set_option maxHeartbeats 4000000 in
set_option maxRecDepth 100000 in
theorem tX6_floor {G : GG} {l : Launch} {z N : Nat} {ct : Nat → va_E} (x0 : UInt64) {r : UInt64} (hg : gX6_floor x0 = some r) : Ct G l yX6_floor cX6_floor 4 (some .double) ({ frames := 1, cells := 0, slots := 0, locals := 21 } : Room) [.double x0] z ct N (some (.double r)) ct N := by
  refine Ct.of (lv := [(0, .double x0)]) (by decide +kernel) (Nat.le_of_ble_eq_true rfl) rfl (fun p e s m args below meth c C => ?_)
  have L_23 : ∀ (v2 : UInt64), gX6_floor_23 x0 v2 = some r → J G p l e ({ frames := 1, cells := 0, slots := 0, locals := 21 } : Room) s m args below meth c z 4 (MQ below (Qd G z (some (.double r)) ct N) args s 0 0 (zA z)) ct N 0 0 23 [(0, .double x0), (2, .double v2)] [] := by
    intro v2 hg
    rw [gX6_floor_23] at hg
    refine j_dload_n C dX6_floor_23 1 rfl rfl ?_
    refine j_dconst0 C dX6_floor_24 ?_
    refine j_dcmp C dX6_floor_25 ?_
    refine j_if_ne C 36 hg dX6_floor_26 (by decide) (fun hg => ?_) (fun hg => ?_)
    · refine j_dload_n C dX6_floor_36 1 rfl rfl ?_
      exact j_dret C dX6_floor_37 (by rw [← Option.some.inj hg]) rfl rfl
    · refine j_dload_n C dX6_floor_29 0 rfl rfl ?_
      obtain ⟨r2, hr2, hg⟩ := ob hg
      refine j_callS C [.double x0] (tX6_zeroLike x0 hr2) q2_120 q1_10 q2_119 q2_118 hd_X6_zeroLike rfl dX6_floor_30 rfl (Nat.le_of_ble_eq_true rfl) ⟨(Nat.le_of_ble_eq_true rfl), (Nat.le_of_ble_eq_true rfl)⟩ ⟨(Nat.le_of_ble_eq_true rfl), (Nat.le_of_ble_eq_true rfl)⟩ ?_
      refine j_goto C 37 dX6_floor_33 (by decide) ?_
      exact j_dret C dX6_floor_37 (by rw [← Option.some.inj hg]) rfl rfl
  rw [gX6_floor] at hg
  refine j_dload_n C dX6_floor_0 0 rfl rfl ?_
  obtain ⟨r1, hr1, hg⟩ := ob hg
  refine j_callS C [.double x0] (tX6_isSurelyWhole x0 hr1) q2_115 q1_10 q2_114 q2_113 hd_X6_isSurelyWhole rfl dX6_floor_1 rfl (Nat.le_of_ble_eq_true rfl) ⟨(Nat.le_of_ble_eq_true rfl), (Nat.le_of_ble_eq_true rfl)⟩ ⟨(Nat.le_of_ble_eq_true rfl), (Nat.le_of_ble_eq_true rfl)⟩ ?_
  refine j_if_eq C 9 hg dX6_floor_4 (by decide) (fun hg => ?_) (fun hg => ?_)
  · refine j_dload_n C dX6_floor_9 0 rfl rfl ?_
    refine j_d2l C dX6_floor_10 ?_
    refine j_l2d C dX6_floor_11 ?_
    refine j_dstore_n C [(2, .double (FP.l2d (FP.d2l x0))), (0, .double x0)] dX6_floor_12 rfl (by decide) rfl ?_
    refine j_dload_n C dX6_floor_13 0 rfl rfl ?_
    refine j_dload_n C dX6_floor_14 1 rfl rfl ?_
    refine j_dcmp C dX6_floor_15 ?_
    refine j_if_le C 23 hg dX6_floor_16 (by decide) (fun hg => ?_) (fun hg => ?_)
    · exact j_re [1, 0] rfl (L_23 (FP.l2d (FP.d2l x0)) hg)
    · refine j_dload_n C dX6_floor_19 0 rfl rfl ?_
      refine j_dconst1 C dX6_floor_20 ?_
      refine j_dsub C hg dX6_floor_21 (fun hg => ?_)
      refine j_dstore_n C [(2, .double (FP.dsub (FP.l2d (FP.d2l x0)) FP.dconst1)), (0, .double x0)] dX6_floor_22 rfl (by decide) rfl ?_
      exact j_re [1, 0] rfl (L_23 (FP.dsub (FP.l2d (FP.d2l x0)) FP.dconst1) hg)
  · refine j_dload_n C dX6_floor_7 0 rfl rfl ?_
    exact j_dret C dX6_floor_8 (by rw [← Option.some.inj hg]) rfl rfl
end
section
def gX6_nearest_66 (x0 : UInt64) (v4 : Int64) : Option UInt64 := if (lg_cmp v4 (0 : Int64)) = 0 then ((gX6_zeroLike x0).bind (fun r2 => some r2)) else (if 0 ≤ (Op.cmpValue (FP.dcmp x0 FP.dconst0) CmpOp.g) then (some (FP.l2d v4)) else (some (FP.l2d (-v4))))
def gX6_nearest_60 (x0 : UInt64) (v4 : Int64) : Option UInt64 := gX6_nearest_66 x0 (v4 + (1 : Int64))
def gX6_nearest_21 (x0 : UInt64) (s0 : UInt64) : Option UInt64 := if FP.dIsNaN (FP.dsub s0 (FP.l2d (FP.d2l s0))) = false then (if 0 < (Op.cmpValue (FP.dcmp (FP.dsub s0 (FP.l2d (FP.d2l s0))) (4602678819172646912 : UInt64)) CmpOp.l) then (gX6_nearest_60 x0 (FP.d2l s0)) else (if (Op.cmpValue (FP.dcmp (FP.dsub s0 (FP.l2d (FP.d2l s0))) (4602678819172646912 : UInt64)) CmpOp.l) = 0 then (if (lg_cmp ((FP.d2l s0) &&& (1 : Int64)) (0 : Int64)) = 0 then (gX6_nearest_66 x0 (FP.d2l s0)) else (gX6_nearest_60 x0 (FP.d2l s0))) else (gX6_nearest_66 x0 (FP.d2l s0)))) else none
def gX6_nearest (x0 : UInt64) : Option UInt64 := (gX6_isSurelyWhole x0).bind (fun r1 => if r1 = 0 then (if 0 ≤ (Op.cmpValue (FP.dcmp x0 FP.dconst0) CmpOp.g) then (gX6_nearest_21 x0 x0) else (gX6_nearest_21 x0 (FP.dneg x0))) else (some x0))
theorem hd_X6_nearest : yX6_nearest.cls ≠ "java/lang/invoke/MethodHandle" ∧ yX6_nearest.cls ≠ "java/lang/invoke/VarHandle" ∧ (parseMethodDescriptor yX6_nearest.desc).map (fun d => d.parameters.length) = some 1 := by decide +kernel
set_option maxHeartbeats 4000000 in
set_option maxRecDepth 100000 in
theorem tX6_nearest {G : GG} {l : Launch} {z N : Nat} {ct : Nat → va_E} (x0 : UInt64) {r : UInt64} (hg : gX6_nearest x0 = some r) : Ct G l yX6_nearest cX6_nearest 8 (some .double) ({ frames := 1, cells := 0, slots := 0, locals := 21 } : Room) [.double x0] z ct N (some (.double r)) ct N := by
  refine Ct.of (lv := [(0, .double x0)]) (by decide +kernel) (Nat.le_of_ble_eq_true rfl) rfl (fun p e s m args below meth c C => ?_)
  have L_66 : ∀ (v4 : Int64), gX6_nearest_66 x0 v4 = some r → J G p l e ({ frames := 1, cells := 0, slots := 0, locals := 21 } : Room) s m args below meth c z 8 (MQ below (Qd G z (some (.double r)) ct N) args s 0 0 (zA z)) ct N 0 0 66 [(0, .double x0), (4, .long v4)] [] := by
    intro v4 hg
    rw [gX6_nearest_66] at hg
    refine j_lload C dX6_nearest_66 1 rfl ?_
    refine j_lconst (v := 0) C dX6_nearest_68 (by decide) ?_
    refine j_lcmp C dX6_nearest_69 ?_
    refine j_if_ne C 78 hg dX6_nearest_70 (by decide) (fun hg => ?_) (fun hg => ?_)
    · refine j_dload_n C dX6_nearest_78 0 rfl rfl ?_
      refine j_dconst0 C dX6_nearest_79 ?_
      refine j_dcmp C dX6_nearest_80 ?_
      refine j_if_ge C 91 hg dX6_nearest_81 (by decide) (fun hg => ?_) (fun hg => ?_)
      · refine j_lload C dX6_nearest_91 1 rfl ?_
        refine j_l2d C dX6_nearest_93 ?_
        exact j_dret C dX6_nearest_94 (by rw [← Option.some.inj hg]) rfl rfl
      · refine j_lload C dX6_nearest_84 1 rfl ?_
        refine j_lneg C dX6_nearest_86 ?_
        refine j_l2d C dX6_nearest_87 ?_
        refine j_goto C 94 dX6_nearest_88 (by decide) ?_
        exact j_dret C dX6_nearest_94 (by rw [← Option.some.inj hg]) rfl rfl
    · refine j_dload_n C dX6_nearest_73 0 rfl rfl ?_
      obtain ⟨r2, hr2, hg⟩ := ob hg
      refine j_callS C [.double x0] (tX6_zeroLike x0 hr2) q2_120 q1_10 q2_119 q2_118 hd_X6_zeroLike rfl dX6_nearest_74 rfl (Nat.le_of_ble_eq_true rfl) ⟨(Nat.le_of_ble_eq_true rfl), (Nat.le_of_ble_eq_true rfl)⟩ ⟨(Nat.le_of_ble_eq_true rfl), (Nat.le_of_ble_eq_true rfl)⟩ ?_
      exact j_dret C dX6_nearest_77 (by rw [← Option.some.inj hg]) rfl rfl
  have L_60 : ∀ (v4 : Int64), gX6_nearest_60 x0 v4 = some r → J G p l e ({ frames := 1, cells := 0, slots := 0, locals := 21 } : Room) s m args below meth c z 8 (MQ below (Qd G z (some (.double r)) ct N) args s 0 0 (zA z)) ct N 0 0 60 [(0, .double x0), (4, .long v4)] [] := by
    intro v4 hg
    rw [gX6_nearest_60] at hg
    refine j_lload C dX6_nearest_60 1 rfl ?_
    refine j_lconst (v := 1) C dX6_nearest_62 (by decide) ?_
    refine j_ladd C dX6_nearest_63 ?_
    refine j_lstore C [(4, .long (v4 + (1 : Int64))), (0, .double x0)] dX6_nearest_64 (by decide) rfl ?_
    exact j_re [1, 0] rfl (L_66 (v4 + (1 : Int64)) hg)
  have L_21 : ∀ (s0 : UInt64), gX6_nearest_21 x0 s0 = some r → J G p l e ({ frames := 1, cells := 0, slots := 0, locals := 21 } : Room) s m args below meth c z 8 (MQ below (Qd G z (some (.double r)) ct N) args s 0 0 (zA z)) ct N 0 0 21 [(0, .double x0)] [.double s0] := by
    intro s0 hg
    rw [gX6_nearest_21] at hg
    refine j_dstore_n C [(2, .double s0), (0, .double x0)] dX6_nearest_21 rfl (by decide) rfl ?_
    refine j_dload_n C dX6_nearest_22 0 rfl rfl ?_
    refine j_d2l C dX6_nearest_23 ?_
    refine j_lstore C [(4, .long (FP.d2l s0)), (2, .double s0), (0, .double x0)] dX6_nearest_24 (by decide) rfl ?_
    refine j_dload_n C dX6_nearest_26 1 rfl rfl ?_
    refine j_lload C dX6_nearest_27 0 rfl ?_
    refine j_l2d C dX6_nearest_29 ?_
    refine j_dsub C hg dX6_nearest_30 (fun hg => ?_)
    refine j_dstore C [(6, .double (FP.dsub s0 (FP.l2d (FP.d2l s0)))), (4, .long (FP.d2l s0)), (2, .double s0), (0, .double x0)] dX6_nearest_31 (by decide) rfl ?_
    refine j_dload C dX6_nearest_33 0 rfl ?_
    refine j_ldc2d C q1_225 dX6_nearest_35 ?_
    refine j_dcmp C dX6_nearest_38 ?_
    refine j_if_gt C 60 hg dX6_nearest_39 (by decide) (fun hg => ?_) (fun hg => ?_)
    · exact j_re [3, 1] rfl (L_60 (FP.d2l s0) hg)
    · refine j_dload C dX6_nearest_42 0 rfl ?_
      refine j_ldc2d C q1_225 dX6_nearest_44 ?_
      refine j_dcmp C dX6_nearest_47 ?_
      refine j_if_ne C 66 hg dX6_nearest_48 (by decide) (fun hg => ?_) (fun hg => ?_)
      · exact j_re [3, 1] rfl (L_66 (FP.d2l s0) hg)
      · refine j_lload C dX6_nearest_51 1 rfl ?_
        refine j_lconst (v := 1) C dX6_nearest_53 (by decide) ?_
        refine j_land C dX6_nearest_54 ?_
        refine j_lconst (v := 0) C dX6_nearest_55 (by decide) ?_
        refine j_lcmp C dX6_nearest_56 ?_
        refine j_if_eq C 66 hg dX6_nearest_57 (by decide) (fun hg => ?_) (fun hg => ?_)
        · exact j_re [3, 1] rfl (L_66 (FP.d2l s0) hg)
        · exact j_re [3, 1] rfl (L_60 (FP.d2l s0) hg)
  rw [gX6_nearest] at hg
  refine j_dload_n C dX6_nearest_0 0 rfl rfl ?_
  obtain ⟨r1, hr1, hg⟩ := ob hg
  refine j_callS C [.double x0] (tX6_isSurelyWhole x0 hr1) q2_115 q1_10 q2_114 q2_113 hd_X6_isSurelyWhole rfl dX6_nearest_1 rfl (Nat.le_of_ble_eq_true rfl) ⟨(Nat.le_of_ble_eq_true rfl), (Nat.le_of_ble_eq_true rfl)⟩ ⟨(Nat.le_of_ble_eq_true rfl), (Nat.le_of_ble_eq_true rfl)⟩ ?_
  refine j_if_eq C 9 hg dX6_nearest_4 (by decide) (fun hg => ?_) (fun hg => ?_)
  · refine j_dload_n C dX6_nearest_9 0 rfl rfl ?_
    refine j_dconst0 C dX6_nearest_10 ?_
    refine j_dcmp C dX6_nearest_11 ?_
    refine j_if_ge C 20 hg dX6_nearest_12 (by decide) (fun hg => ?_) (fun hg => ?_)
    · refine j_dload_n C dX6_nearest_20 0 rfl rfl ?_
      exact L_21 x0 hg
    · refine j_dload_n C dX6_nearest_15 0 rfl rfl ?_
      refine j_dneg C dX6_nearest_16 ?_
      refine j_goto C 21 dX6_nearest_17 (by decide) ?_
      exact L_21 (FP.dneg x0) hg
  · refine j_dload_n C dX6_nearest_7 0 rfl rfl ?_
    exact j_dret C dX6_nearest_8 (by rw [← Option.some.inj hg]) rfl rfl
end
section
def gX1_behindSign_169 (x0 : UInt64) (x1 : Int32) (v5 : UInt64) (v7 : UInt64) (s0 : Int32) (s1 : Int32) : Option Int64 := if FP.dIsNaN (FP.dsub v7 FP.dconst1) = false then (if FP.dIsNaN (FP.dmul (FP.dsub v7 FP.dconst1) v5) = false then (if x1 = 0 then (some ((((s1 + s0).toInt64) <<< ((52 : Int32).toInt64 &&& 63)) + (FP.d2l (FP.dmul (FP.dsub v7 FP.dconst1) v5)))) else (some ((((s1 + s0).toInt64) <<< ((23 : Int32).toInt64 &&& 63)) + (FP.d2l (FP.dmul (FP.dsub v7 FP.dconst1) v5))))) else none) else none
def gX1_behindSign_155 (x0 : UInt64) (x1 : Int32) (v5 : UInt64) (v7 : UInt64) (v9 : Int32) : Option Int64 := if x1 = 0 then (gX1_behindSign_169 x0 x1 v5 v7 (1023 : Int32) v9) else (gX1_behindSign_169 x0 x1 v5 v7 (127 : Int32) v9)
def gX1_behindSign_122 (x0 : UInt64) (x1 : Int32) (k122 : UInt64 → UInt64 → Int32 → Int32 → Option Int64) (v5 : UInt64) (v7 : UInt64) (v9 : Int32) (v10 : Int32) : Option Int64 := if (32 : Int32) ≤ v10 then (gX1_behindSign_155 x0 x1 v5 v7 v9) else (if (Op.cmpValue (FP.dcmp v7 (4611686018427387904 : UInt64)) CmpOp.l) < 0 then (gX1_behindSign_155 x0 x1 v5 v7 v9) else (if FP.dIsNaN (FP.dmul v7 (4602678819172646912 : UInt64)) = false then (k122 v5 (FP.dmul v7 (4602678819172646912 : UInt64)) (v9 + (1 : Int32)) (v10 + (1 : Int32))) else none))
def gX1_behindSign_119 (x0 : UInt64) (x1 : Int32) (v5 : UInt64) (v7 : UInt64) (v9 : Int32) : Option Int64 := lq4 (gX1_behindSign_122 x0 x1) 40 v5 v7 v9 (0 : Int32)
def gX1_behindSign_88 (x0 : UInt64) (x1 : Int32) (k88 : UInt64 → UInt64 → Int32 → Int32 → Option Int64) (v5 : UInt64) (v7 : UInt64) (v9 : Int32) (v10 : Int32) : Option Int64 := if (32 : Int32) ≤ v10 then (gX1_behindSign_119 x0 x1 v5 v7 v9) else (if 0 ≤ (Op.cmpValue (FP.dcmp v7 FP.dconst1) CmpOp.g) then (gX1_behindSign_119 x0 x1 v5 v7 v9) else (if FP.dIsNaN (FP.dmul v7 (4751297606875873280 : UInt64)) = false then (k88 v5 (FP.dmul v7 (4751297606875873280 : UInt64)) (v9 + (-32 : Int32)) (v10 + (1 : Int32))) else none))
def gX1_behindSign_85 (x0 : UInt64) (x1 : Int32) (v5 : UInt64) (v7 : UInt64) (v9 : Int32) : Option Int64 := lq4 (gX1_behindSign_88 x0 x1) 40 v5 v7 v9 (0 : Int32)
def gX1_behindSign_52 (x0 : UInt64) (x1 : Int32) (k52 : UInt64 → UInt64 → Int32 → Int32 → Option Int64) (v5 : UInt64) (v7 : UInt64) (v9 : Int32) (v10 : Int32) : Option Int64 := if (32 : Int32) ≤ v10 then (gX1_behindSign_85 x0 x1 v5 v7 v9) else (if (Op.cmpValue (FP.dcmp v7 (4751297606875873280 : UInt64)) CmpOp.l) < 0 then (gX1_behindSign_85 x0 x1 v5 v7 v9) else (if FP.dIsNaN (FP.dmul v7 (4463067230724161536 : UInt64)) = false then (k52 v5 (FP.dmul v7 (4463067230724161536 : UInt64)) (v9 + (32 : Int32)) (v10 + (1 : Int32))) else none))
def gX1_behindSign_27 (x0 : UInt64) (x1 : Int32) (v3 : UInt64) (s0 : UInt64) : Option Int64 := if 0 ≤ (Op.cmpValue (FP.dcmp x0 v3) CmpOp.g) then (lq4 (gX1_behindSign_52 x0 x1) 40 s0 x0 (0 : Int32) (0 : Int32)) else (if FP.dIsNaN (FP.ddiv x0 v3) = false then (if FP.dIsNaN (FP.dmul (FP.ddiv x0 v3) s0) = false then (some (FP.d2l (FP.dmul (FP.ddiv x0 v3) s0))) else none) else none)
def gX1_behindSign_13 (x0 : UInt64) (x1 : Int32) (s0 : UInt64) : Option Int64 := if x1 = 0 then (gX1_behindSign_27 x0 x1 s0 (4841369599423283200 : UInt64)) else (gX1_behindSign_27 x0 x1 s0 (4710765210229538816 : UInt64))
def gX1_behindSign (x0 : UInt64) (x1 : Int32) : Option Int64 := if x1 = 0 then (gX1_behindSign_13 x0 x1 (4503599627370496 : UInt64)) else (gX1_behindSign_13 x0 x1 (4039728865751334912 : UInt64))
theorem hd_X1_behindSign : yX1_behindSign.cls ≠ "java/lang/invoke/MethodHandle" ∧ yX1_behindSign.cls ≠ "java/lang/invoke/VarHandle" ∧ (parseMethodDescriptor yX1_behindSign.desc).map (fun d => d.parameters.length) = some 2 := by decide +kernel
set_option maxHeartbeats 4000000 in
set_option maxRecDepth 100000 in
theorem tX1_behindSign {G : GG} {l : Launch} {z N : Nat} {ct : Nat → va_E} (x0 : UInt64) (x1 : Int32) {r : Int64} (hg : gX1_behindSign x0 x1 = some r) : Ct G l yX1_behindSign cX1_behindSign 14 (some .long) ({ frames := 0, cells := 0, slots := 0, locals := 0 } : Room) [.double x0, .int x1] z ct N (some (.long r)) ct N := by
  refine Ct.of (lv := [(0, .double x0), (2, .int x1)]) (by decide +kernel) (Nat.le_of_ble_eq_true rfl) rfl (fun p e s m args below meth c C => ?_)
  have L_169 : ∀ (v5 : UInt64) (v7 : UInt64) (s0 : Int32) (s1 : Int32), gX1_behindSign_169 x0 x1 v5 v7 s0 s1 = some r → J G p l e ({ frames := 0, cells := 0, slots := 0, locals := 0 } : Room) s m args below meth c z 14 (MQ below (Qd G z (some (.long r)) ct N) args s 0 0 (zA z)) ct N 0 0 169 [(2, .int x1), (5, .double v5), (7, .double v7)] [.int s0, .int s1] := by
    intro v5 v7 s0 s1 hg
    rw [gX1_behindSign_169] at hg
    refine j_iadd C dX1_behindSign_169 ?_
    refine j_i2l C dX1_behindSign_170 ?_
    refine j_lstore C [(10, .long ((s1 + s0).toInt64)), (2, .int x1), (5, .double v5), (7, .double v7)] dX1_behindSign_171 (by decide) rfl ?_
    refine j_dload C dX1_behindSign_173 3 rfl ?_
    refine j_dconst1 C dX1_behindSign_175 ?_
    refine j_dsub C hg dX1_behindSign_176 (fun hg => ?_)
    refine j_dload C dX1_behindSign_177 2 rfl ?_
    refine j_dmul C hg dX1_behindSign_179 (fun hg => ?_)
    refine j_d2l C dX1_behindSign_180 ?_
    refine j_lstore C [(12, .long (FP.d2l (FP.dmul (FP.dsub v7 FP.dconst1) v5))), (10, .long ((s1 + s0).toInt64)), (2, .int x1), (5, .double v5), (7, .double v7)] dX1_behindSign_181 (by decide) rfl ?_
    refine j_lload C dX1_behindSign_183 1 rfl ?_
    refine j_iload_n C dX1_behindSign_185 2 rfl rfl ?_
    refine j_if_eq C 194 hg dX1_behindSign_186 (by decide) (fun hg => ?_) (fun hg => ?_)
    · refine j_bipush (v := 52) C dX1_behindSign_194 (by decide) ?_
      refine j_lshl C dX1_behindSign_196 ?_
      refine j_lload C dX1_behindSign_197 0 rfl ?_
      refine j_ladd C dX1_behindSign_199 ?_
      exact j_lret C dX1_behindSign_200 (by rw [← Option.some.inj hg]) rfl rfl
    · refine j_bipush (v := 23) C dX1_behindSign_189 (by decide) ?_
      refine j_goto C 196 dX1_behindSign_191 (by decide) ?_
      refine j_lshl C dX1_behindSign_196 ?_
      refine j_lload C dX1_behindSign_197 0 rfl ?_
      refine j_ladd C dX1_behindSign_199 ?_
      exact j_lret C dX1_behindSign_200 (by rw [← Option.some.inj hg]) rfl rfl
  have L_155 : ∀ (v5 : UInt64) (v7 : UInt64) (v9 : Int32), gX1_behindSign_155 x0 x1 v5 v7 v9 = some r → J G p l e ({ frames := 0, cells := 0, slots := 0, locals := 0 } : Room) s m args below meth c z 14 (MQ below (Qd G z (some (.long r)) ct N) args s 0 0 (zA z)) ct N 0 0 155 [(2, .int x1), (5, .double v5), (7, .double v7), (9, .int v9)] [] := by
    intro v5 v7 v9 hg
    rw [gX1_behindSign_155] at hg
    refine j_iload C dX1_behindSign_155 3 rfl ?_
    refine j_iload_n C dX1_behindSign_157 0 rfl rfl ?_
    refine j_if_eq C 166 hg dX1_behindSign_158 (by decide) (fun hg => ?_) (fun hg => ?_)
    · refine j_sipush (v := 1023) C dX1_behindSign_166 (by decide) ?_
      exact j_re [0, 1, 2] rfl (L_169 v5 v7 (1023 : Int32) v9 hg)
    · refine j_bipush (v := 127) C dX1_behindSign_161 (by decide) ?_
      refine j_goto C 169 dX1_behindSign_163 (by decide) ?_
      exact j_re [0, 1, 2] rfl (L_169 v5 v7 (127 : Int32) v9 hg)
  have L_122 : ∀ (n122 : Nat) (v5 : UInt64) (v7 : UInt64) (v9 : Int32) (v10 : Int32), lq4 (gX1_behindSign_122 x0 x1) n122 v5 v7 v9 v10 = some r → J G p l e ({ frames := 0, cells := 0, slots := 0, locals := 0 } : Room) s m args below meth c z 14 (MQ below (Qd G z (some (.long r)) ct N) args s 0 0 (zA z)) ct N 0 0 122 [(2, .int x1), (5, .double v5), (7, .double v7), (9, .int v9), (10, .int v10)] [] := by
    intro n122
    induction n122 with
    | zero => intro v5 v7 v9 v10 hg; cases hg
    | succ n122 ih122 =>
      intro v5 v7 v9 v10 hg
      replace hg : gX1_behindSign_122 x0 x1 (lq4 (gX1_behindSign_122 x0 x1) n122) v5 v7 v9 v10 = some r := hg
      rw [gX1_behindSign_122] at hg
      refine j_iload C dX1_behindSign_122 4 rfl ?_
      refine j_bipush (v := 32) C dX1_behindSign_124 (by decide) ?_
      refine j_icmp_ge C 155 hg dX1_behindSign_126 (by decide) (fun hg => ?_) (fun hg => ?_)
      · exact j_re [0, 1, 2, 3] rfl (L_155 v5 v7 v9 hg)
      · refine j_dload C dX1_behindSign_129 2 rfl ?_
        refine j_ldc2d C q2_161 dX1_behindSign_131 ?_
        refine j_dcmp C dX1_behindSign_134 ?_
        refine j_if_lt C 155 hg dX1_behindSign_135 (by decide) (fun hg => ?_) (fun hg => ?_)
        · exact j_re [0, 1, 2, 3] rfl (L_155 v5 v7 v9 hg)
        · refine j_dload C dX1_behindSign_138 2 rfl ?_
          refine j_ldc2d C q2_162 dX1_behindSign_140 ?_
          refine j_dmul C hg dX1_behindSign_143 (fun hg => ?_)
          refine j_dstore C [(7, .double (FP.dmul v7 (4602678819172646912 : UInt64))), (2, .int x1), (5, .double v5), (9, .int v9), (10, .int v10)] dX1_behindSign_144 (by decide) rfl ?_
          refine j_iinc C [(9, .int (v9 + (1 : Int32))), (7, .double (FP.dmul v7 (4602678819172646912 : UInt64))), (2, .int x1), (5, .double v5), (10, .int v10)] dX1_behindSign_146 3 rfl rfl (by decide) rfl ?_
          refine j_iinc C [(10, .int (v10 + (1 : Int32))), (9, .int (v9 + (1 : Int32))), (7, .double (FP.dmul v7 (4602678819172646912 : UInt64))), (2, .int x1), (5, .double v5)] dX1_behindSign_149 4 rfl rfl (by decide) rfl ?_
          refine j_goto C 122 dX1_behindSign_152 (by decide) ?_
          exact j_re [3, 4, 2, 1, 0] rfl (ih122 v5 (FP.dmul v7 (4602678819172646912 : UInt64)) (v9 + (1 : Int32)) (v10 + (1 : Int32)) hg)
  have L_119 : ∀ (v5 : UInt64) (v7 : UInt64) (v9 : Int32), gX1_behindSign_119 x0 x1 v5 v7 v9 = some r → J G p l e ({ frames := 0, cells := 0, slots := 0, locals := 0 } : Room) s m args below meth c z 14 (MQ below (Qd G z (some (.long r)) ct N) args s 0 0 (zA z)) ct N 0 0 119 [(2, .int x1), (5, .double v5), (7, .double v7), (9, .int v9)] [] := by
    intro v5 v7 v9 hg
    rw [gX1_behindSign_119] at hg
    refine j_iconst (v := 0) C dX1_behindSign_119 (by decide) ?_
    refine j_istore C [(10, .int (0 : Int32)), (2, .int x1), (5, .double v5), (7, .double v7), (9, .int v9)] dX1_behindSign_120 (by decide) rfl ?_
    exact j_re [1, 2, 3, 4, 0] rfl (L_122 40 v5 v7 v9 (0 : Int32) hg)
  have L_88 : ∀ (n88 : Nat) (v5 : UInt64) (v7 : UInt64) (v9 : Int32) (v10 : Int32), lq4 (gX1_behindSign_88 x0 x1) n88 v5 v7 v9 v10 = some r → J G p l e ({ frames := 0, cells := 0, slots := 0, locals := 0 } : Room) s m args below meth c z 14 (MQ below (Qd G z (some (.long r)) ct N) args s 0 0 (zA z)) ct N 0 0 88 [(2, .int x1), (5, .double v5), (7, .double v7), (9, .int v9), (10, .int v10)] [] := by
    intro n88
    induction n88 with
    | zero => intro v5 v7 v9 v10 hg; cases hg
    | succ n88 ih88 =>
      intro v5 v7 v9 v10 hg
      replace hg : gX1_behindSign_88 x0 x1 (lq4 (gX1_behindSign_88 x0 x1) n88) v5 v7 v9 v10 = some r := hg
      rw [gX1_behindSign_88] at hg
      refine j_iload C dX1_behindSign_88 4 rfl ?_
      refine j_bipush (v := 32) C dX1_behindSign_90 (by decide) ?_
      refine j_icmp_ge C 119 hg dX1_behindSign_92 (by decide) (fun hg => ?_) (fun hg => ?_)
      · exact j_re [0, 1, 2, 3] rfl (L_119 v5 v7 v9 hg)
      · refine j_dload C dX1_behindSign_95 2 rfl ?_
        refine j_dconst1 C dX1_behindSign_97 ?_
        refine j_dcmp C dX1_behindSign_98 ?_
        refine j_if_ge C 119 hg dX1_behindSign_99 (by decide) (fun hg => ?_) (fun hg => ?_)
        · exact j_re [0, 1, 2, 3] rfl (L_119 v5 v7 v9 hg)
        · refine j_dload C dX1_behindSign_102 2 rfl ?_
          refine j_ldc2d C q2_159 dX1_behindSign_104 ?_
          refine j_dmul C hg dX1_behindSign_107 (fun hg => ?_)
          refine j_dstore C [(7, .double (FP.dmul v7 (4751297606875873280 : UInt64))), (2, .int x1), (5, .double v5), (9, .int v9), (10, .int v10)] dX1_behindSign_108 (by decide) rfl ?_
          refine j_iinc C [(9, .int (v9 + (-32 : Int32))), (7, .double (FP.dmul v7 (4751297606875873280 : UInt64))), (2, .int x1), (5, .double v5), (10, .int v10)] dX1_behindSign_110 3 rfl rfl (by decide) rfl ?_
          refine j_iinc C [(10, .int (v10 + (1 : Int32))), (9, .int (v9 + (-32 : Int32))), (7, .double (FP.dmul v7 (4751297606875873280 : UInt64))), (2, .int x1), (5, .double v5)] dX1_behindSign_113 4 rfl rfl (by decide) rfl ?_
          refine j_goto C 88 dX1_behindSign_116 (by decide) ?_
          exact j_re [3, 4, 2, 1, 0] rfl (ih88 v5 (FP.dmul v7 (4751297606875873280 : UInt64)) (v9 + (-32 : Int32)) (v10 + (1 : Int32)) hg)
  have L_85 : ∀ (v5 : UInt64) (v7 : UInt64) (v9 : Int32), gX1_behindSign_85 x0 x1 v5 v7 v9 = some r → J G p l e ({ frames := 0, cells := 0, slots := 0, locals := 0 } : Room) s m args below meth c z 14 (MQ below (Qd G z (some (.long r)) ct N) args s 0 0 (zA z)) ct N 0 0 85 [(2, .int x1), (5, .double v5), (7, .double v7), (9, .int v9)] [] := by
    intro v5 v7 v9 hg
    rw [gX1_behindSign_85] at hg
    refine j_iconst (v := 0) C dX1_behindSign_85 (by decide) ?_
    refine j_istore C [(10, .int (0 : Int32)), (2, .int x1), (5, .double v5), (7, .double v7), (9, .int v9)] dX1_behindSign_86 (by decide) rfl ?_
    exact j_re [1, 2, 3, 4, 0] rfl (L_88 40 v5 v7 v9 (0 : Int32) hg)
  have L_52 : ∀ (n52 : Nat) (v5 : UInt64) (v7 : UInt64) (v9 : Int32) (v10 : Int32), lq4 (gX1_behindSign_52 x0 x1) n52 v5 v7 v9 v10 = some r → J G p l e ({ frames := 0, cells := 0, slots := 0, locals := 0 } : Room) s m args below meth c z 14 (MQ below (Qd G z (some (.long r)) ct N) args s 0 0 (zA z)) ct N 0 0 52 [(2, .int x1), (5, .double v5), (7, .double v7), (9, .int v9), (10, .int v10)] [] := by
    intro n52
    induction n52 with
    | zero => intro v5 v7 v9 v10 hg; cases hg
    | succ n52 ih52 =>
      intro v5 v7 v9 v10 hg
      replace hg : gX1_behindSign_52 x0 x1 (lq4 (gX1_behindSign_52 x0 x1) n52) v5 v7 v9 v10 = some r := hg
      rw [gX1_behindSign_52] at hg
      refine j_iload C dX1_behindSign_52 4 rfl ?_
      refine j_bipush (v := 32) C dX1_behindSign_54 (by decide) ?_
      refine j_icmp_ge C 85 hg dX1_behindSign_56 (by decide) (fun hg => ?_) (fun hg => ?_)
      · exact j_re [0, 1, 2, 3] rfl (L_85 v5 v7 v9 hg)
      · refine j_dload C dX1_behindSign_59 2 rfl ?_
        refine j_ldc2d C q2_159 dX1_behindSign_61 ?_
        refine j_dcmp C dX1_behindSign_64 ?_
        refine j_if_lt C 85 hg dX1_behindSign_65 (by decide) (fun hg => ?_) (fun hg => ?_)
        · exact j_re [0, 1, 2, 3] rfl (L_85 v5 v7 v9 hg)
        · refine j_dload C dX1_behindSign_68 2 rfl ?_
          refine j_ldc2d C q2_160 dX1_behindSign_70 ?_
          refine j_dmul C hg dX1_behindSign_73 (fun hg => ?_)
          refine j_dstore C [(7, .double (FP.dmul v7 (4463067230724161536 : UInt64))), (2, .int x1), (5, .double v5), (9, .int v9), (10, .int v10)] dX1_behindSign_74 (by decide) rfl ?_
          refine j_iinc C [(9, .int (v9 + (32 : Int32))), (7, .double (FP.dmul v7 (4463067230724161536 : UInt64))), (2, .int x1), (5, .double v5), (10, .int v10)] dX1_behindSign_76 3 rfl rfl (by decide) rfl ?_
          refine j_iinc C [(10, .int (v10 + (1 : Int32))), (9, .int (v9 + (32 : Int32))), (7, .double (FP.dmul v7 (4463067230724161536 : UInt64))), (2, .int x1), (5, .double v5)] dX1_behindSign_79 4 rfl rfl (by decide) rfl ?_
          refine j_goto C 52 dX1_behindSign_82 (by decide) ?_
          exact j_re [3, 4, 2, 1, 0] rfl (ih52 v5 (FP.dmul v7 (4463067230724161536 : UInt64)) (v9 + (32 : Int32)) (v10 + (1 : Int32)) hg)
  have L_27 : ∀ (v3 : UInt64) (s0 : UInt64), gX1_behindSign_27 x0 x1 v3 s0 = some r → J G p l e ({ frames := 0, cells := 0, slots := 0, locals := 0 } : Room) s m args below meth c z 14 (MQ below (Qd G z (some (.long r)) ct N) args s 0 0 (zA z)) ct N 0 0 27 [(0, .double x0), (2, .int x1), (3, .double v3)] [.double s0] := by
    intro v3 s0 hg
    rw [gX1_behindSign_27] at hg
    refine j_dstore C [(5, .double s0), (0, .double x0), (2, .int x1), (3, .double v3)] dX1_behindSign_27 (by decide) rfl ?_
    refine j_dload_n C dX1_behindSign_29 1 rfl rfl ?_
    refine j_dload_n C dX1_behindSign_30 3 rfl rfl ?_
    refine j_dcmp C dX1_behindSign_31 ?_
    refine j_if_ge C 43 hg dX1_behindSign_32 (by decide) (fun hg => ?_) (fun hg => ?_)
    · refine j_dload_n C dX1_behindSign_43 1 rfl rfl ?_
      refine j_dstore C [(7, .double x0), (5, .double s0), (0, .double x0), (2, .int x1), (3, .double v3)] dX1_behindSign_44 (by decide) rfl ?_
      refine j_iconst (v := 0) C dX1_behindSign_46 (by decide) ?_
      refine j_istore C [(9, .int (0 : Int32)), (7, .double x0), (5, .double s0), (0, .double x0), (2, .int x1), (3, .double v3)] dX1_behindSign_47 (by decide) rfl ?_
      refine j_iconst (v := 0) C dX1_behindSign_49 (by decide) ?_
      refine j_istore C [(10, .int (0 : Int32)), (9, .int (0 : Int32)), (7, .double x0), (5, .double s0), (0, .double x0), (2, .int x1), (3, .double v3)] dX1_behindSign_50 (by decide) rfl ?_
      exact j_re [5, 3, 2, 1, 0] rfl (L_52 40 s0 x0 (0 : Int32) (0 : Int32) hg)
    · refine j_dload_n C dX1_behindSign_35 1 rfl rfl ?_
      refine j_dload_n C dX1_behindSign_36 3 rfl rfl ?_
      refine j_ddiv C hg dX1_behindSign_37 (fun hg => ?_)
      refine j_dload C dX1_behindSign_38 0 rfl ?_
      refine j_dmul C hg dX1_behindSign_40 (fun hg => ?_)
      refine j_d2l C dX1_behindSign_41 ?_
      exact j_lret C dX1_behindSign_42 (by rw [← Option.some.inj hg]) rfl rfl
  have L_13 : ∀ (s0 : UInt64), gX1_behindSign_13 x0 x1 s0 = some r → J G p l e ({ frames := 0, cells := 0, slots := 0, locals := 0 } : Room) s m args below meth c z 14 (MQ below (Qd G z (some (.long r)) ct N) args s 0 0 (zA z)) ct N 0 0 13 [(0, .double x0), (2, .int x1)] [.double s0] := by
    intro s0 hg
    rw [gX1_behindSign_13] at hg
    refine j_dstore_n C [(3, .double s0), (0, .double x0), (2, .int x1)] dX1_behindSign_13 rfl (by decide) rfl ?_
    refine j_iload_n C dX1_behindSign_14 2 rfl rfl ?_
    refine j_if_eq C 24 hg dX1_behindSign_15 (by decide) (fun hg => ?_) (fun hg => ?_)
    · refine j_ldc2d C q2_158 dX1_behindSign_24 ?_
      exact j_re [1, 2, 0] rfl (L_27 s0 (4841369599423283200 : UInt64) hg)
    · refine j_ldc2d C q2_157 dX1_behindSign_18 ?_
      refine j_goto C 27 dX1_behindSign_21 (by decide) ?_
      exact j_re [1, 2, 0] rfl (L_27 s0 (4710765210229538816 : UInt64) hg)
  rw [gX1_behindSign] at hg
  refine j_iload_n C dX1_behindSign_0 1 rfl rfl ?_
  refine j_if_eq C 10 hg dX1_behindSign_1 (by decide) (fun hg => ?_) (fun hg => ?_)
  · refine j_ldc2d C q2_156 dX1_behindSign_10 ?_
    exact L_13 (4503599627370496 : UInt64) hg
  · refine j_ldc2d C q2_155 dX1_behindSign_4 ?_
    refine j_goto C 13 dX1_behindSign_7 (by decide) ?_
    exact L_13 (4039728865751334912 : UInt64) hg
end
section
def gX1_wideDigits (x0 : Int64) : Option Int64 := if (lg_cmp x0 (x0 &&& (4503599627370495 : Int64))) = 0 then (some (x0 &&& (4503599627370495 : Int64))) else (some ((x0 &&& (4503599627370495 : Int64)) + (4503599627370496 : Int64)))
theorem hd_X1_wideDigits : yX1_wideDigits.cls ≠ "java/lang/invoke/MethodHandle" ∧ yX1_wideDigits.cls ≠ "java/lang/invoke/VarHandle" ∧ (parseMethodDescriptor yX1_wideDigits.desc).map (fun d => d.parameters.length) = some 1 := by decide +kernel
set_option maxHeartbeats 4000000 in
set_option maxRecDepth 100000 in
theorem tX1_wideDigits {G : GG} {l : Launch} {z N : Nat} {ct : Nat → va_E} (x0 : Int64) {r : Int64} (hg : gX1_wideDigits x0 = some r) : Ct G l yX1_wideDigits cX1_wideDigits 4 (some .long) ({ frames := 0, cells := 0, slots := 0, locals := 0 } : Room) [.long x0] z ct N (some (.long r)) ct N := by
  refine Ct.of (lv := [(0, .long x0)]) (by decide +kernel) (Nat.le_of_ble_eq_true rfl) rfl (fun p e s m args below meth c C => ?_)
  rw [gX1_wideDigits] at hg
  refine j_lload_n C dX1_wideDigits_0 0 rfl rfl ?_
  refine j_ldc2 C q2_166 dX1_wideDigits_1 ?_
  refine j_land C dX1_wideDigits_4 ?_
  refine j_lstore_n C [(2, .long (x0 &&& (4503599627370495 : Int64))), (0, .long x0)] dX1_wideDigits_5 rfl (by decide) rfl ?_
  refine j_lload_n C dX1_wideDigits_6 1 rfl rfl ?_
  refine j_lload_n C dX1_wideDigits_7 0 rfl rfl ?_
  refine j_lcmp C dX1_wideDigits_8 ?_
  refine j_if_ne C 16 hg dX1_wideDigits_9 (by decide) (fun hg => ?_) (fun hg => ?_)
  · refine j_lload_n C dX1_wideDigits_16 0 rfl rfl ?_
    refine j_ldc2 C q2_167 dX1_wideDigits_17 ?_
    refine j_ladd C dX1_wideDigits_20 ?_
    exact j_lret C dX1_wideDigits_21 (by rw [← Option.some.inj hg]) rfl rfl
  · refine j_lload_n C dX1_wideDigits_12 0 rfl rfl ?_
    refine j_goto C 21 dX1_wideDigits_13 (by decide) ?_
    exact j_lret C dX1_wideDigits_21 (by rw [← Option.some.inj hg]) rfl rfl
end
section
def gX1_widePower (x0 : Int64) : Option Int32 := if ((x0 >>> ((52 : Int32).toInt64 &&& 63)).toInt32) = 0 then (some (((1 : Int32) - (1023 : Int32)) - (52 : Int32))) else (some ((((x0 >>> ((52 : Int32).toInt64 &&& 63)).toInt32) - (1023 : Int32)) - (52 : Int32)))
theorem hd_X1_widePower : yX1_widePower.cls ≠ "java/lang/invoke/MethodHandle" ∧ yX1_widePower.cls ≠ "java/lang/invoke/VarHandle" ∧ (parseMethodDescriptor yX1_widePower.desc).map (fun d => d.parameters.length) = some 1 := by decide +kernel
set_option maxHeartbeats 4000000 in
set_option maxRecDepth 100000 in
theorem tX1_widePower {G : GG} {l : Launch} {z N : Nat} {ct : Nat → va_E} (x0 : Int64) {r : Int32} (hg : gX1_widePower x0 = some r) : Ct G l yX1_widePower cX1_widePower 3 (some .int) ({ frames := 0, cells := 0, slots := 0, locals := 0 } : Room) [.long x0] z ct N (some (.int r)) ct N := by
  refine Ct.of (lv := [(0, .long x0)]) (by decide +kernel) (Nat.le_of_ble_eq_true rfl) rfl (fun p e s m args below meth c C => ?_)
  rw [gX1_widePower] at hg
  refine j_lload_n C dX1_widePower_0 0 rfl rfl ?_
  refine j_bipush (v := 52) C dX1_widePower_1 (by decide) ?_
  refine j_lshr C dX1_widePower_3 ?_
  refine j_l2i C dX1_widePower_4 ?_
  refine j_istore_n C [(2, .int ((x0 >>> ((52 : Int32).toInt64 &&& 63)).toInt32)), (0, .long x0)] dX1_widePower_5 rfl (by decide) rfl ?_
  refine j_iload_n C dX1_widePower_6 0 rfl rfl ?_
  refine j_if_ne C 14 hg dX1_widePower_7 (by decide) (fun hg => ?_) (fun hg => ?_)
  · refine j_iload_n C dX1_widePower_14 0 rfl rfl ?_
    refine j_sipush (v := 1023) C dX1_widePower_15 (by decide) ?_
    refine j_isub C dX1_widePower_18 ?_
    refine j_bipush (v := 52) C dX1_widePower_19 (by decide) ?_
    refine j_isub C dX1_widePower_21 ?_
    exact j_iret C dX1_widePower_22 (by rw [← Option.some.inj hg]) rfl rfl
  · refine j_iconst (v := 1) C dX1_widePower_10 (by decide) ?_
    refine j_goto C 15 dX1_widePower_11 (by decide) ?_
    refine j_sipush (v := 1023) C dX1_widePower_15 (by decide) ?_
    refine j_isub C dX1_widePower_18 ?_
    refine j_bipush (v := 52) C dX1_widePower_19 (by decide) ?_
    refine j_isub C dX1_widePower_21 ?_
    exact j_iret C dX1_widePower_22 (by rw [← Option.some.inj hg]) rfl rfl
end
section
def gX6_remainder_97 (x0 : UInt64) (x1 : UInt64) (k97 : Int64 → Int32 → Int64 → Int32 → Option UInt64) (v12 : Int64) (v14 : Int32) (v15 : Int64) (v17 : Int32) : Option UInt64 := if v17 ≤ 0 then ((gX6_twoTo v14).bind (fun r7 => if FP.dIsNaN (FP.dmul (FP.l2d v15) r7) = false then (if 0 ≤ (Op.cmpValue (FP.dcmp x0 FP.dconst0) CmpOp.g) then (some (FP.dmul (FP.l2d v15) r7)) else (some (FP.dneg (FP.dmul (FP.l2d v15) r7)))) else none)) else (if ¬ v12 = 0 then (k97 v12 v14 ((v15 <<< ((if (10 : Int32) < v17 then (10 : Int32) else v17).toInt64 &&& 63)) - (v15 <<< ((if (10 : Int32) < v17 then (10 : Int32) else v17).toInt64 &&& 63)) / v12 * v12) (v17 + (-10 : Int32))) else none)
def gX6_remainder_26 (x0 : UInt64) (x1 : UInt64) (v4 : UInt64) (s0 : UInt64) : Option UInt64 := if 0 ≤ (Op.cmpValue (FP.dcmp v4 s0) CmpOp.g) then ((gX1_behindSign v4 (0 : Int32)).bind (fun r1 => (gX1_behindSign s0 (0 : Int32)).bind (fun r2 => (gX1_wideDigits r2).bind (fun r3 => if 0 < (lg_cmp r3 (0 : Int64)) then ((gX1_widePower r2).bind (fun r4 => (gX1_wideDigits r1).bind (fun r5 => if ¬ r3 = 0 then ((gX1_widePower r1).bind (fun r6 => lq4 (gX6_remainder_97 x0 x1) 300 r3 r4 (r5 - r5 / r3 * r3) (r6 - r4))) else none))) else (some x0))))) else (some x0)
def gX6_remainder_12 (x0 : UInt64) (x1 : UInt64) (s0 : UInt64) : Option UInt64 := if 0 ≤ (Op.cmpValue (FP.dcmp x1 FP.dconst0) CmpOp.g) then (gX6_remainder_26 x0 x1 s0 x1) else (gX6_remainder_26 x0 x1 s0 (FP.dneg x1))
def gX6_remainder (x0 : UInt64) (x1 : UInt64) : Option UInt64 := if 0 ≤ (Op.cmpValue (FP.dcmp x0 FP.dconst0) CmpOp.g) then (gX6_remainder_12 x0 x1 x0) else (gX6_remainder_12 x0 x1 (FP.dneg x0))
theorem hd_X6_remainder : yX6_remainder.cls ≠ "java/lang/invoke/MethodHandle" ∧ yX6_remainder.cls ≠ "java/lang/invoke/VarHandle" ∧ (parseMethodDescriptor yX6_remainder.desc).map (fun d => d.parameters.length) = some 2 := by decide +kernel
set_option maxHeartbeats 4000000 in
set_option maxRecDepth 100000 in
theorem tX6_remainder {G : GG} {l : Launch} {z N : Nat} {ct : Nat → va_E} (x0 : UInt64) (x1 : UInt64) {r : UInt64} (hg : gX6_remainder x0 x1 = some r) : Ct G l yX6_remainder cX6_remainder 19 (some .double) ({ frames := 1, cells := 0, slots := 0, locals := 33 } : Room) [.double x0, .double x1] z ct N (some (.double r)) ct N := by
  refine Ct.of (lv := [(0, .double x0), (2, .double x1)]) (by decide +kernel) (Nat.le_of_ble_eq_true rfl) rfl (fun p e s m args below meth c C => ?_)
  have L_97 : ∀ (n97 : Nat) (v12 : Int64) (v14 : Int32) (v15 : Int64) (v17 : Int32), lq4 (gX6_remainder_97 x0 x1) n97 v12 v14 v15 v17 = some r → J G p l e ({ frames := 1, cells := 0, slots := 0, locals := 33 } : Room) s m args below meth c z 19 (MQ below (Qd G z (some (.double r)) ct N) args s 0 0 (zA z)) ct N 0 0 97 [(0, .double x0), (12, .long v12), (14, .int v14), (15, .long v15), (17, .int v17)] [] := by
    intro n97
    induction n97 with
    | zero => intro v12 v14 v15 v17 hg; cases hg
    | succ n97 ih97 =>
      intro v12 v14 v15 v17 hg
      replace hg : gX6_remainder_97 x0 x1 (lq4 (gX6_remainder_97 x0 x1) n97) v12 v14 v15 v17 = some r := hg
      rw [gX6_remainder_97] at hg
      refine j_iload C dX6_remainder_97 4 rfl ?_
      refine j_if_le C 123 hg dX6_remainder_99 (by decide) (fun hg => ?_) (fun hg => ?_)
      · refine j_lload C dX6_remainder_123 3 rfl ?_
        refine j_l2d C dX6_remainder_125 ?_
        refine j_iload C dX6_remainder_126 2 rfl ?_
        obtain ⟨r7, hr7, hg⟩ := ob hg
        refine j_callS C [.int v14] (tX6_twoTo v14 hr7) q1_224 q1_10 q1_223 q2_172 hd_X6_twoTo rfl dX6_remainder_128 rfl (Nat.le_of_ble_eq_true rfl) ⟨(Nat.le_of_ble_eq_true rfl), (Nat.le_of_ble_eq_true rfl)⟩ ⟨(Nat.le_of_ble_eq_true rfl), (Nat.le_of_ble_eq_true rfl)⟩ ?_
        refine j_dmul C hg dX6_remainder_131 (fun hg => ?_)
        refine j_dstore C [(17, .double (FP.dmul (FP.l2d v15) r7)), (0, .double x0), (12, .long v12), (14, .int v14), (15, .long v15)] dX6_remainder_132 (by decide) rfl ?_
        refine j_dload_n C dX6_remainder_134 1 rfl rfl ?_
        refine j_dconst0 C dX6_remainder_135 ?_
        refine j_dcmp C dX6_remainder_136 ?_
        refine j_if_ge C 146 hg dX6_remainder_137 (by decide) (fun hg => ?_) (fun hg => ?_)
        · refine j_dload C dX6_remainder_146 0 rfl ?_
          exact j_dret C dX6_remainder_148 (by rw [← Option.some.inj hg]) rfl rfl
        · refine j_dload C dX6_remainder_140 0 rfl ?_
          refine j_dneg C dX6_remainder_142 ?_
          refine j_goto C 148 dX6_remainder_143 (by decide) ?_
          exact j_dret C dX6_remainder_148 (by rw [← Option.some.inj hg]) rfl rfl
      · refine j_lload C dX6_remainder_102 3 rfl ?_
        refine j_iload C dX6_remainder_104 4 rfl ?_
        refine j_bipush (v := 10) C dX6_remainder_106 (by decide) ?_
        refine j_mmin C q2_171 q1_220 q1_9 q1_221 (Nat.le_of_ble_eq_true rfl) (Nat.le_of_ble_eq_true rfl) (Nat.le_of_ble_eq_true rfl) (Nat.le_of_ble_eq_true rfl) dX6_remainder_108 ?_
        refine j_lshl C dX6_remainder_111 ?_
        refine j_lload C dX6_remainder_112 1 rfl ?_
        refine j_lrem C hg dX6_remainder_114 (fun hg => ?_)
        refine j_lstore C [(15, .long ((v15 <<< ((if (10 : Int32) < v17 then (10 : Int32) else v17).toInt64 &&& 63)) - (v15 <<< ((if (10 : Int32) < v17 then (10 : Int32) else v17).toInt64 &&& 63)) / v12 * v12)), (0, .double x0), (12, .long v12), (14, .int v14), (17, .int v17)] dX6_remainder_115 (by decide) rfl ?_
        refine j_iinc C [(17, .int (v17 + (-10 : Int32))), (15, .long ((v15 <<< ((if (10 : Int32) < v17 then (10 : Int32) else v17).toInt64 &&& 63)) - (v15 <<< ((if (10 : Int32) < v17 then (10 : Int32) else v17).toInt64 &&& 63)) / v12 * v12)), (0, .double x0), (12, .long v12), (14, .int v14)] dX6_remainder_117 4 rfl rfl (by decide) rfl ?_
        refine j_goto C 97 dX6_remainder_120 (by decide) ?_
        exact j_re [2, 3, 4, 1, 0] rfl (ih97 v12 v14 ((v15 <<< ((if (10 : Int32) < v17 then (10 : Int32) else v17).toInt64 &&& 63)) - (v15 <<< ((if (10 : Int32) < v17 then (10 : Int32) else v17).toInt64 &&& 63)) / v12 * v12) (v17 + (-10 : Int32)) hg)
  have L_26 : ∀ (v4 : UInt64) (s0 : UInt64), gX6_remainder_26 x0 x1 v4 s0 = some r → J G p l e ({ frames := 1, cells := 0, slots := 0, locals := 33 } : Room) s m args below meth c z 19 (MQ below (Qd G z (some (.double r)) ct N) args s 0 0 (zA z)) ct N 0 0 26 [(0, .double x0), (4, .double v4)] [.double s0] := by
    intro v4 s0 hg
    rw [gX6_remainder_26] at hg
    refine j_dstore C [(6, .double s0), (0, .double x0), (4, .double v4)] dX6_remainder_26 (by decide) rfl ?_
    refine j_dload C dX6_remainder_28 2 rfl ?_
    refine j_dload C dX6_remainder_30 0 rfl ?_
    refine j_dcmp C dX6_remainder_32 ?_
    refine j_if_ge C 38 hg dX6_remainder_33 (by decide) (fun hg => ?_) (fun hg => ?_)
    · refine j_dload C dX6_remainder_38 2 rfl ?_
      refine j_iconst (v := 0) C dX6_remainder_40 (by decide) ?_
      obtain ⟨r1, hr1, hg⟩ := ob hg
      refine j_callS C [.double v4, .int (0 : Int32)] (tX1_behindSign v4 (0 : Int32) hr1) q2_154 q1_12 q2_153 q2_152 hd_X1_behindSign rfl dX6_remainder_41 rfl (Nat.le_of_ble_eq_true rfl) ⟨(Nat.le_of_ble_eq_true rfl), (Nat.le_of_ble_eq_true rfl)⟩ ⟨(Nat.le_of_ble_eq_true rfl), (Nat.le_of_ble_eq_true rfl)⟩ ?_
      refine j_lstore C [(8, .long r1), (6, .double s0), (0, .double x0), (4, .double v4)] dX6_remainder_44 (by decide) rfl ?_
      refine j_dload C dX6_remainder_46 1 rfl ?_
      refine j_iconst (v := 0) C dX6_remainder_48 (by decide) ?_
      obtain ⟨r2, hr2, hg⟩ := ob hg
      refine j_callS C [.double s0, .int (0 : Int32)] (tX1_behindSign s0 (0 : Int32) hr2) q2_154 q1_12 q2_153 q2_152 hd_X1_behindSign rfl dX6_remainder_49 rfl (Nat.le_of_ble_eq_true rfl) ⟨(Nat.le_of_ble_eq_true rfl), (Nat.le_of_ble_eq_true rfl)⟩ ⟨(Nat.le_of_ble_eq_true rfl), (Nat.le_of_ble_eq_true rfl)⟩ ?_
      refine j_lstore C [(10, .long r2), (8, .long r1), (6, .double s0), (0, .double x0), (4, .double v4)] dX6_remainder_52 (by decide) rfl ?_
      refine j_lload C dX6_remainder_54 0 rfl ?_
      obtain ⟨r3, hr3, hg⟩ := ob hg
      refine j_callS C [.long r2] (tX1_wideDigits r2 hr3) q2_165 q1_12 q2_164 q2_163 hd_X1_wideDigits rfl dX6_remainder_56 rfl (Nat.le_of_ble_eq_true rfl) ⟨(Nat.le_of_ble_eq_true rfl), (Nat.le_of_ble_eq_true rfl)⟩ ⟨(Nat.le_of_ble_eq_true rfl), (Nat.le_of_ble_eq_true rfl)⟩ ?_
      refine j_lstore C [(12, .long r3), (10, .long r2), (8, .long r1), (6, .double s0), (0, .double x0), (4, .double v4)] dX6_remainder_59 (by decide) rfl ?_
      refine j_lload C dX6_remainder_61 0 rfl ?_
      refine j_lconst (v := 0) C dX6_remainder_63 (by decide) ?_
      refine j_lcmp C dX6_remainder_64 ?_
      refine j_if_gt C 70 hg dX6_remainder_65 (by decide) (fun hg => ?_) (fun hg => ?_)
      · refine j_lload C dX6_remainder_70 1 rfl ?_
        obtain ⟨r4, hr4, hg⟩ := ob hg
        refine j_callS C [.long r2] (tX1_widePower r2 hr4) q2_170 q1_12 q2_169 q2_168 hd_X1_widePower rfl dX6_remainder_72 rfl (Nat.le_of_ble_eq_true rfl) ⟨(Nat.le_of_ble_eq_true rfl), (Nat.le_of_ble_eq_true rfl)⟩ ⟨(Nat.le_of_ble_eq_true rfl), (Nat.le_of_ble_eq_true rfl)⟩ ?_
        refine j_istore C [(14, .int r4), (12, .long r3), (10, .long r2), (8, .long r1), (6, .double s0), (0, .double x0), (4, .double v4)] dX6_remainder_75 (by decide) rfl ?_
        refine j_lload C dX6_remainder_77 3 rfl ?_
        obtain ⟨r5, hr5, hg⟩ := ob hg
        refine j_callS C [.long r1] (tX1_wideDigits r1 hr5) q2_165 q1_12 q2_164 q2_163 hd_X1_wideDigits rfl dX6_remainder_79 rfl (Nat.le_of_ble_eq_true rfl) ⟨(Nat.le_of_ble_eq_true rfl), (Nat.le_of_ble_eq_true rfl)⟩ ⟨(Nat.le_of_ble_eq_true rfl), (Nat.le_of_ble_eq_true rfl)⟩ ?_
        refine j_lload C dX6_remainder_82 1 rfl ?_
        refine j_lrem C hg dX6_remainder_84 (fun hg => ?_)
        refine j_lstore C [(15, .long (r5 - r5 / r3 * r3)), (14, .int r4), (12, .long r3), (10, .long r2), (8, .long r1), (6, .double s0), (0, .double x0), (4, .double v4)] dX6_remainder_85 (by decide) rfl ?_
        refine j_lload C dX6_remainder_87 4 rfl ?_
        obtain ⟨r6, hr6, hg⟩ := ob hg
        refine j_callS C [.long r1] (tX1_widePower r1 hr6) q2_170 q1_12 q2_169 q2_168 hd_X1_widePower rfl dX6_remainder_89 rfl (Nat.le_of_ble_eq_true rfl) ⟨(Nat.le_of_ble_eq_true rfl), (Nat.le_of_ble_eq_true rfl)⟩ ⟨(Nat.le_of_ble_eq_true rfl), (Nat.le_of_ble_eq_true rfl)⟩ ?_
        refine j_iload C dX6_remainder_92 1 rfl ?_
        refine j_isub C dX6_remainder_94 ?_
        refine j_istore C [(17, .int (r6 - r4)), (15, .long (r5 - r5 / r3 * r3)), (14, .int r4), (12, .long r3), (10, .long r2), (8, .long r1), (6, .double s0), (0, .double x0), (4, .double v4)] dX6_remainder_95 (by decide) rfl ?_
        exact j_re [7, 3, 2, 1, 0] rfl (L_97 300 r3 r4 (r5 - r5 / r3 * r3) (r6 - r4) hg)
      · refine j_dload_n C dX6_remainder_68 4 rfl rfl ?_
        exact j_dret C dX6_remainder_69 (by rw [← Option.some.inj hg]) rfl rfl
    · refine j_dload_n C dX6_remainder_36 1 rfl rfl ?_
      exact j_dret C dX6_remainder_37 (by rw [← Option.some.inj hg]) rfl rfl
  have L_12 : ∀ (s0 : UInt64), gX6_remainder_12 x0 x1 s0 = some r → J G p l e ({ frames := 1, cells := 0, slots := 0, locals := 33 } : Room) s m args below meth c z 19 (MQ below (Qd G z (some (.double r)) ct N) args s 0 0 (zA z)) ct N 0 0 12 [(0, .double x0), (2, .double x1)] [.double s0] := by
    intro s0 hg
    rw [gX6_remainder_12] at hg
    refine j_dstore C [(4, .double s0), (0, .double x0), (2, .double x1)] dX6_remainder_12 (by decide) rfl ?_
    refine j_dload_n C dX6_remainder_14 2 rfl rfl ?_
    refine j_dconst0 C dX6_remainder_15 ?_
    refine j_dcmp C dX6_remainder_16 ?_
    refine j_if_ge C 25 hg dX6_remainder_17 (by decide) (fun hg => ?_) (fun hg => ?_)
    · refine j_dload_n C dX6_remainder_25 2 rfl rfl ?_
      exact j_re [1, 0] rfl (L_26 s0 x1 hg)
    · refine j_dload_n C dX6_remainder_20 2 rfl rfl ?_
      refine j_dneg C dX6_remainder_21 ?_
      refine j_goto C 26 dX6_remainder_22 (by decide) ?_
      exact j_re [1, 0] rfl (L_26 s0 (FP.dneg x1) hg)
  rw [gX6_remainder] at hg
  refine j_dload_n C dX6_remainder_0 0 rfl rfl ?_
  refine j_dconst0 C dX6_remainder_1 ?_
  refine j_dcmp C dX6_remainder_2 ?_
  refine j_if_ge C 11 hg dX6_remainder_3 (by decide) (fun hg => ?_) (fun hg => ?_)
  · refine j_dload_n C dX6_remainder_11 0 rfl rfl ?_
    exact L_12 x0 hg
  · refine j_dload_n C dX6_remainder_6 0 rfl rfl ?_
    refine j_dneg C dX6_remainder_7 ?_
    refine j_goto C 12 dX6_remainder_8 (by decide) ?_
    exact L_12 (FP.dneg x0) hg
end
section
def gX6_ofOne (x0 : Int32) (x1 : UInt64) (x2 : Int32) : Option UInt64 := if x0 = (1 : Int32) then ((gX6_withSign x1 (0 : Int32)).bind (fun r7 => some r7)) else (if x0 = (2 : Int32) then ((gX6_floor x1).bind (fun r6 => some r6)) else (if x0 = (3 : Int32) then ((gX6_floor (FP.dneg x1)).bind (fun r5 => some (FP.dneg r5))) else (if x0 = (4 : Int32) then ((gX6_nearest x1).bind (fun r4 => some r4)) else (if x0 = (5 : Int32) then (if (Op.cmpValue (FP.dcmp x1 FP.dconst0) CmpOp.l) ≤ 0 then (if 0 ≤ (Op.cmpValue (FP.dcmp x1 FP.dconst0) CmpOp.g) then (some x1) else (some (13830554455654793216 : UInt64))) else (some FP.dconst1)) else (if x0 = (6 : Int32) then ((gX6_quotient x1 (4611686018427387904 : UInt64) x2).bind (fun r3 => some r3)) else (if x0 = (7 : Int32) then ((gX6_product x1 (4611686018427387904 : UInt64) x2).bind (fun r2 => some r2)) else (if x0 = (8 : Int32) then (some (FP.dneg x1)) else (some x1))))))))
theorem hd_X6_ofOne : yX6_ofOne.cls ≠ "java/lang/invoke/MethodHandle" ∧ yX6_ofOne.cls ≠ "java/lang/invoke/VarHandle" ∧ (parseMethodDescriptor yX6_ofOne.desc).map (fun d => d.parameters.length) = some 3 := by decide +kernel
set_option maxHeartbeats 4000000 in
set_option maxRecDepth 100000 in
theorem tX6_ofOne {G : GG} {l : Launch} {z N : Nat} {ct : Nat → va_E} (x0 : Int32) (x1 : UInt64) (x2 : Int32) {r : UInt64} (hg : gX6_ofOne x0 x1 x2 = some r) : Ct G l yX6_ofOne cX6_ofOne 4 (some .double) ({ frames := 2, cells := 0, slots := 0, locals := 48 } : Room) [.int x0, .double x1, .int x2] z ct N (some (.double r)) ct N := by
  refine Ct.of (lv := [(0, .int x0), (1, .double x1), (3, .int x2)]) (by decide +kernel) (Nat.le_of_ble_eq_true rfl) rfl (fun p e s m args below meth c C => ?_)
  rw [gX6_ofOne] at hg
  refine j_iload_n C dX6_ofOne_0 0 rfl rfl ?_
  by_cases c1_0 : x0 = (1 : Int32)
  · replace hg := (if_pos c1_0).symm.trans hg
    refine j_tableIn (off := 47) C 48 dX6_ofOne_1 (by rw [c1_0]; decide) (by rw [c1_0]; decide) (by rw [c1_0]; rfl) (by decide) ?_
    refine j_dload_n C dX6_ofOne_48 1 rfl rfl ?_
    refine j_iconst (v := 0) C dX6_ofOne_49 (by decide) ?_
    obtain ⟨r7, hr7, hg⟩ := ob hg
    refine j_callS C [.double x1, .int (0 : Int32)] (tX6_withSign x1 (0 : Int32) hr7) q2_106 q1_10 q2_105 q2_104 hd_X6_withSign rfl dX6_ofOne_50 rfl (Nat.le_of_ble_eq_true rfl) ⟨(Nat.le_of_ble_eq_true rfl), (Nat.le_of_ble_eq_true rfl)⟩ ⟨(Nat.le_of_ble_eq_true rfl), (Nat.le_of_ble_eq_true rfl)⟩ ?_
    exact j_dret C dX6_ofOne_53 (by rw [← Option.some.inj hg]) rfl rfl
  · replace hg := (if_neg c1_0).symm.trans hg
    by_cases c1_1 : x0 = (2 : Int32)
    · replace hg := (if_pos c1_1).symm.trans hg
      refine j_tableIn (off := 53) C 54 dX6_ofOne_1 (by rw [c1_1]; decide) (by rw [c1_1]; decide) (by rw [c1_1]; rfl) (by decide) ?_
      refine j_dload_n C dX6_ofOne_54 1 rfl rfl ?_
      obtain ⟨r6, hr6, hg⟩ := ob hg
      refine j_callS C [.double x1] (tX6_floor x1 hr6) q2_112 q1_10 q2_111 q2_110 hd_X6_floor rfl dX6_ofOne_55 rfl (Nat.le_of_ble_eq_true rfl) ⟨(Nat.le_of_ble_eq_true rfl), (Nat.le_of_ble_eq_true rfl)⟩ ⟨(Nat.le_of_ble_eq_true rfl), (Nat.le_of_ble_eq_true rfl)⟩ ?_
      exact j_dret C dX6_ofOne_58 (by rw [← Option.some.inj hg]) rfl rfl
    · replace hg := (if_neg c1_1).symm.trans hg
      by_cases c1_2 : x0 = (3 : Int32)
      · replace hg := (if_pos c1_2).symm.trans hg
        refine j_tableIn (off := 58) C 59 dX6_ofOne_1 (by rw [c1_2]; decide) (by rw [c1_2]; decide) (by rw [c1_2]; rfl) (by decide) ?_
        refine j_dload_n C dX6_ofOne_59 1 rfl rfl ?_
        refine j_dneg C dX6_ofOne_60 ?_
        obtain ⟨r5, hr5, hg⟩ := ob hg
        refine j_callS C [.double (FP.dneg x1)] (tX6_floor (FP.dneg x1) hr5) q2_112 q1_10 q2_111 q2_110 hd_X6_floor rfl dX6_ofOne_61 rfl (Nat.le_of_ble_eq_true rfl) ⟨(Nat.le_of_ble_eq_true rfl), (Nat.le_of_ble_eq_true rfl)⟩ ⟨(Nat.le_of_ble_eq_true rfl), (Nat.le_of_ble_eq_true rfl)⟩ ?_
        refine j_dneg C dX6_ofOne_64 ?_
        exact j_dret C dX6_ofOne_65 (by rw [← Option.some.inj hg]) rfl rfl
      · replace hg := (if_neg c1_2).symm.trans hg
        by_cases c1_3 : x0 = (4 : Int32)
        · replace hg := (if_pos c1_3).symm.trans hg
          refine j_tableIn (off := 65) C 66 dX6_ofOne_1 (by rw [c1_3]; decide) (by rw [c1_3]; decide) (by rw [c1_3]; rfl) (by decide) ?_
          refine j_dload_n C dX6_ofOne_66 1 rfl rfl ?_
          obtain ⟨r4, hr4, hg⟩ := ob hg
          refine j_callS C [.double x1] (tX6_nearest x1 hr4) q2_123 q1_10 q2_122 q2_121 hd_X6_nearest rfl dX6_ofOne_67 rfl (Nat.le_of_ble_eq_true rfl) ⟨(Nat.le_of_ble_eq_true rfl), (Nat.le_of_ble_eq_true rfl)⟩ ⟨(Nat.le_of_ble_eq_true rfl), (Nat.le_of_ble_eq_true rfl)⟩ ?_
          exact j_dret C dX6_ofOne_70 (by rw [← Option.some.inj hg]) rfl rfl
        · replace hg := (if_neg c1_3).symm.trans hg
          by_cases c1_4 : x0 = (5 : Int32)
          · replace hg := (if_pos c1_4).symm.trans hg
            refine j_tableIn (off := 70) C 71 dX6_ofOne_1 (by rw [c1_4]; decide) (by rw [c1_4]; decide) (by rw [c1_4]; rfl) (by decide) ?_
            refine j_dload_n C dX6_ofOne_71 1 rfl rfl ?_
            refine j_dconst0 C dX6_ofOne_72 ?_
            refine j_dcmp C dX6_ofOne_73 ?_
            refine j_if_le C 81 hg dX6_ofOne_74 (by decide) (fun hg => ?_) (fun hg => ?_)
            · refine j_dload_n C dX6_ofOne_81 1 rfl rfl ?_
              refine j_dconst0 C dX6_ofOne_82 ?_
              refine j_dcmp C dX6_ofOne_83 ?_
              refine j_if_ge C 93 hg dX6_ofOne_84 (by decide) (fun hg => ?_) (fun hg => ?_)
              · refine j_dload_n C dX6_ofOne_93 1 rfl rfl ?_
                exact j_dret C dX6_ofOne_94 (by rw [← Option.some.inj hg]) rfl rfl
              · refine j_ldc2d C q2_124 dX6_ofOne_87 ?_
                refine j_goto C 94 dX6_ofOne_90 (by decide) ?_
                exact j_dret C dX6_ofOne_94 (by rw [← Option.some.inj hg]) rfl rfl
            · refine j_dconst1 C dX6_ofOne_77 ?_
              refine j_goto C 94 dX6_ofOne_78 (by decide) ?_
              exact j_dret C dX6_ofOne_94 (by rw [← Option.some.inj hg]) rfl rfl
          · replace hg := (if_neg c1_4).symm.trans hg
            by_cases c1_5 : x0 = (6 : Int32)
            · replace hg := (if_pos c1_5).symm.trans hg
              refine j_tableIn (off := 94) C 95 dX6_ofOne_1 (by rw [c1_5]; decide) (by rw [c1_5]; decide) (by rw [c1_5]; rfl) (by decide) ?_
              refine j_dload_n C dX6_ofOne_95 1 rfl rfl ?_
              refine j_ldc2d C q1_226 dX6_ofOne_96 ?_
              refine j_iload_n C dX6_ofOne_99 2 rfl rfl ?_
              obtain ⟨r3, hr3, hg⟩ := ob hg
              refine j_callS C [.double x1, .double (4611686018427387904 : UInt64), .int x2] (tX6_quotient x1 (4611686018427387904 : UInt64) x2 hr3) q2_127 q1_10 q2_126 q2_125 hd_X6_quotient rfl dX6_ofOne_100 rfl (Nat.le_of_ble_eq_true rfl) ⟨(Nat.le_of_ble_eq_true rfl), (Nat.le_of_ble_eq_true rfl)⟩ ⟨(Nat.le_of_ble_eq_true rfl), (Nat.le_of_ble_eq_true rfl)⟩ ?_
              exact j_dret C dX6_ofOne_103 (by rw [← Option.some.inj hg]) rfl rfl
            · replace hg := (if_neg c1_5).symm.trans hg
              by_cases c1_6 : x0 = (7 : Int32)
              · replace hg := (if_pos c1_6).symm.trans hg
                refine j_tableIn (off := 103) C 104 dX6_ofOne_1 (by rw [c1_6]; decide) (by rw [c1_6]; decide) (by rw [c1_6]; rfl) (by decide) ?_
                refine j_dload_n C dX6_ofOne_104 1 rfl rfl ?_
                refine j_ldc2d C q1_226 dX6_ofOne_105 ?_
                refine j_iload_n C dX6_ofOne_108 2 rfl rfl ?_
                obtain ⟨r2, hr2, hg⟩ := ob hg
                refine j_callS C [.double x1, .double (4611686018427387904 : UInt64), .int x2] (tX6_product x1 (4611686018427387904 : UInt64) x2 hr2) q2_130 q1_10 q2_129 q2_128 hd_X6_product rfl dX6_ofOne_109 rfl (Nat.le_of_ble_eq_true rfl) ⟨(Nat.le_of_ble_eq_true rfl), (Nat.le_of_ble_eq_true rfl)⟩ ⟨(Nat.le_of_ble_eq_true rfl), (Nat.le_of_ble_eq_true rfl)⟩ ?_
                exact j_dret C dX6_ofOne_112 (by rw [← Option.some.inj hg]) rfl rfl
              · replace hg := (if_neg c1_6).symm.trans hg
                by_cases c1_7 : x0 = (8 : Int32)
                · replace hg := (if_pos c1_7).symm.trans hg
                  refine j_tableIn (off := 112) C 113 dX6_ofOne_1 (by rw [c1_7]; decide) (by rw [c1_7]; decide) (by rw [c1_7]; rfl) (by decide) ?_
                  refine j_dload_n C dX6_ofOne_113 1 rfl rfl ?_
                  refine j_dneg C dX6_ofOne_114 ?_
                  exact j_dret C dX6_ofOne_115 (by rw [← Option.some.inj hg]) rfl rfl
                · replace hg := (if_neg c1_7).symm.trans hg
                  have nc1_0 : ¬ x0.toInt = 1 := fun h => c1_0 (Int32.toInt_inj.mp (h.trans (by decide)))
                  have nc1_1 : ¬ x0.toInt = 2 := fun h => c1_1 (Int32.toInt_inj.mp (h.trans (by decide)))
                  have nc1_2 : ¬ x0.toInt = 3 := fun h => c1_2 (Int32.toInt_inj.mp (h.trans (by decide)))
                  have nc1_3 : ¬ x0.toInt = 4 := fun h => c1_3 (Int32.toInt_inj.mp (h.trans (by decide)))
                  have nc1_4 : ¬ x0.toInt = 5 := fun h => c1_4 (Int32.toInt_inj.mp (h.trans (by decide)))
                  have nc1_5 : ¬ x0.toInt = 6 := fun h => c1_5 (Int32.toInt_inj.mp (h.trans (by decide)))
                  have nc1_6 : ¬ x0.toInt = 7 := fun h => c1_6 (Int32.toInt_inj.mp (h.trans (by decide)))
                  have nc1_7 : ¬ x0.toInt = 8 := fun h => c1_7 (Int32.toInt_inj.mp (h.trans (by decide)))
                  refine j_tableOut C 116 dX6_ofOne_1 (by omega) (by decide) ?_
                  refine j_dload_n C dX6_ofOne_116 1 rfl rfl ?_
                  exact j_dret C dX6_ofOne_117 (by rw [← Option.some.inj hg]) rfl rfl
end
section
def gX6_isVoid_184 (x0 : Int32) (x1 : UInt64) (x2 : UInt64) : Option Int32 := (gX6_isInfinite x1).bind (fun r9 => if r9 = 0 then (some (0 : Int32)) else ((gX6_isInfinite x2).bind (fun r10 => if r10 = 0 then (some (0 : Int32)) else (some (1 : Int32)))))
def gX6_isVoid_153 (x0 : Int32) (x1 : UInt64) (x2 : UInt64) : Option Int32 := (gX6_isInfinite x1).bind (fun r11 => if r11 = 0 then (some (0 : Int32)) else (if (Op.cmpValue (FP.dcmp x2 FP.dconst0) CmpOp.l) = 0 then (some (1 : Int32)) else (some (0 : Int32))))
def gX6_isVoid (x0 : Int32) (x1 : UInt64) (x2 : UInt64) : Option Int32 := if x0 = (9 : Int32) then ((gX6_isInfinite x1).bind (fun r7 => if r7 = 0 then (some (0 : Int32)) else ((gX6_isInfinite x2).bind (fun r8 => if r8 = 0 then (some (0 : Int32)) else (if (Op.cmpValue (FP.dcmp x1 x2) CmpOp.l) = 0 then (some (0 : Int32)) else (some (1 : Int32))))))) else (if x0 = (10 : Int32) then ((gX6_isInfinite x1).bind (fun r5 => if r5 = 0 then (some (0 : Int32)) else ((gX6_isInfinite x2).bind (fun r6 => if r6 = 0 then (some (0 : Int32)) else (if (Op.cmpValue (FP.dcmp x1 x2) CmpOp.l) = 0 then (some (1 : Int32)) else (some (0 : Int32))))))) else (if x0 = (11 : Int32) then (if (Op.cmpValue (FP.dcmp x1 FP.dconst0) CmpOp.l) = 0 then ((gX6_isInfinite x2).bind (fun r4 => if r4 = 0 then (gX6_isVoid_153 x0 x1 x2 ) else (some (1 : Int32)))) else (gX6_isVoid_153 x0 x1 x2 )) else (if x0 = (12 : Int32) then (if (Op.cmpValue (FP.dcmp x1 FP.dconst0) CmpOp.l) = 0 then (if (Op.cmpValue (FP.dcmp x2 FP.dconst0) CmpOp.l) = 0 then (some (1 : Int32)) else (gX6_isVoid_184 x0 x1 x2 )) else (gX6_isVoid_184 x0 x1 x2 )) else (if x0 = (13 : Int32) then (if (Op.cmpValue (FP.dcmp x2 FP.dconst0) CmpOp.l) = 0 then (some (1 : Int32)) else ((gX6_isInfinite x1).bind (fun r3 => if r3 = 0 then (some (0 : Int32)) else (some (1 : Int32))))) else (if x0 = (26 : Int32) then (if (Op.cmpValue (FP.dcmp x2 FP.dconst0) CmpOp.l) = 0 then (some (1 : Int32)) else ((gX6_isInfinite x2).bind (fun r2 => if r2 = 0 then (some (0 : Int32)) else (some (1 : Int32))))) else (some (0 : Int32)))))))
theorem hd_X6_isVoid : yX6_isVoid.cls ≠ "java/lang/invoke/MethodHandle" ∧ yX6_isVoid.cls ≠ "java/lang/invoke/VarHandle" ∧ (parseMethodDescriptor yX6_isVoid.desc).map (fun d => d.parameters.length) = some 3 := by decide +kernel
set_option maxHeartbeats 4000000 in
set_option maxRecDepth 100000 in
theorem tX6_isVoid {G : GG} {l : Launch} {z N : Nat} {ct : Nat → va_E} (x0 : Int32) (x1 : UInt64) (x2 : UInt64) {r : Int32} (hg : gX6_isVoid x0 x1 x2 = some r) : Ct G l yX6_isVoid cX6_isVoid 5 (some .boolean) ({ frames := 1, cells := 0, slots := 0, locals := 21 } : Room) [.int x0, .double x1, .double x2] z ct N (some (.int r)) ct N := by
  refine Ct.of (lv := [(0, .int x0), (1, .double x1), (3, .double x2)]) (by decide +kernel) (Nat.le_of_ble_eq_true rfl) rfl (fun p e s m args below meth c C => ?_)
  have L_184 : gX6_isVoid_184 x0 x1 x2 = some r → J G p l e ({ frames := 1, cells := 0, slots := 0, locals := 21 } : Room) s m args below meth c z 5 (MQ below (Qd G z (some (.int r)) ct N) args s 0 0 (zA z)) ct N 0 0 184 [(1, .double x1), (3, .double x2)] [] := by
    intro  hg
    rw [gX6_isVoid_184] at hg
    refine j_dload_n C dX6_isVoid_184 0 rfl rfl ?_
    obtain ⟨r9, hr9, hg⟩ := ob hg
    refine j_callS C [.double x1] (tX6_isInfinite x1 hr9) q2_141 q1_10 q2_140 q2_139 hd_X6_isInfinite rfl dX6_isVoid_185 rfl (Nat.le_of_ble_eq_true rfl) ⟨(Nat.le_of_ble_eq_true rfl), (Nat.le_of_ble_eq_true rfl)⟩ ⟨(Nat.le_of_ble_eq_true rfl), (Nat.le_of_ble_eq_true rfl)⟩ ?_
    refine j_if_eq C 202 hg dX6_isVoid_188 (by decide) (fun hg => ?_) (fun hg => ?_)
    · refine j_iconst (v := 0) C dX6_isVoid_202 (by decide) ?_
      exact j_zret C dX6_isVoid_203 (by decide) (by rw [← Option.some.inj hg]) rfl rfl
    · refine j_dload_n C dX6_isVoid_191 1 rfl rfl ?_
      obtain ⟨r10, hr10, hg⟩ := ob hg
      refine j_callS C [.double x2] (tX6_isInfinite x2 hr10) q2_141 q1_10 q2_140 q2_139 hd_X6_isInfinite rfl dX6_isVoid_192 rfl (Nat.le_of_ble_eq_true rfl) ⟨(Nat.le_of_ble_eq_true rfl), (Nat.le_of_ble_eq_true rfl)⟩ ⟨(Nat.le_of_ble_eq_true rfl), (Nat.le_of_ble_eq_true rfl)⟩ ?_
      refine j_if_eq C 202 hg dX6_isVoid_195 (by decide) (fun hg => ?_) (fun hg => ?_)
      · refine j_iconst (v := 0) C dX6_isVoid_202 (by decide) ?_
        exact j_zret C dX6_isVoid_203 (by decide) (by rw [← Option.some.inj hg]) rfl rfl
      · refine j_iconst (v := 1) C dX6_isVoid_198 (by decide) ?_
        refine j_goto C 203 dX6_isVoid_199 (by decide) ?_
        exact j_zret C dX6_isVoid_203 (by decide) (by rw [← Option.some.inj hg]) rfl rfl
  have L_153 : gX6_isVoid_153 x0 x1 x2 = some r → J G p l e ({ frames := 1, cells := 0, slots := 0, locals := 21 } : Room) s m args below meth c z 5 (MQ below (Qd G z (some (.int r)) ct N) args s 0 0 (zA z)) ct N 0 0 153 [(1, .double x1), (3, .double x2)] [] := by
    intro  hg
    rw [gX6_isVoid_153] at hg
    refine j_dload_n C dX6_isVoid_153 0 rfl rfl ?_
    obtain ⟨r11, hr11, hg⟩ := ob hg
    refine j_callS C [.double x1] (tX6_isInfinite x1 hr11) q2_141 q1_10 q2_140 q2_139 hd_X6_isInfinite rfl dX6_isVoid_154 rfl (Nat.le_of_ble_eq_true rfl) ⟨(Nat.le_of_ble_eq_true rfl), (Nat.le_of_ble_eq_true rfl)⟩ ⟨(Nat.le_of_ble_eq_true rfl), (Nat.le_of_ble_eq_true rfl)⟩ ?_
    refine j_if_eq C 170 hg dX6_isVoid_157 (by decide) (fun hg => ?_) (fun hg => ?_)
    · refine j_iconst (v := 0) C dX6_isVoid_170 (by decide) ?_
      exact j_zret C dX6_isVoid_171 (by decide) (by rw [← Option.some.inj hg]) rfl rfl
    · refine j_dload_n C dX6_isVoid_160 1 rfl rfl ?_
      refine j_dconst0 C dX6_isVoid_161 ?_
      refine j_dcmp C dX6_isVoid_162 ?_
      refine j_if_ne C 170 hg dX6_isVoid_163 (by decide) (fun hg => ?_) (fun hg => ?_)
      · refine j_iconst (v := 0) C dX6_isVoid_170 (by decide) ?_
        exact j_zret C dX6_isVoid_171 (by decide) (by rw [← Option.some.inj hg]) rfl rfl
      · refine j_iconst (v := 1) C dX6_isVoid_166 (by decide) ?_
        refine j_goto C 171 dX6_isVoid_167 (by decide) ?_
        exact j_zret C dX6_isVoid_171 (by decide) (by rw [← Option.some.inj hg]) rfl rfl
  rw [gX6_isVoid] at hg
  refine j_iload_n C dX6_isVoid_0 0 rfl rfl ?_
  by_cases c1_0 : x0 = (9 : Int32)
  · replace hg := (if_pos c1_0).symm.trans hg
    refine j_tableIn (off := 87) C 88 dX6_isVoid_1 (by rw [c1_0]; decide) (by rw [c1_0]; decide) (by rw [c1_0]; rfl) (by decide) ?_
    refine j_dload_n C dX6_isVoid_88 1 rfl rfl ?_
    obtain ⟨r7, hr7, hg⟩ := ob hg
    refine j_callS C [.double x1] (tX6_isInfinite x1 hr7) q2_141 q1_10 q2_140 q2_139 hd_X6_isInfinite rfl dX6_isVoid_89 rfl (Nat.le_of_ble_eq_true rfl) ⟨(Nat.le_of_ble_eq_true rfl), (Nat.le_of_ble_eq_true rfl)⟩ ⟨(Nat.le_of_ble_eq_true rfl), (Nat.le_of_ble_eq_true rfl)⟩ ?_
    refine j_if_eq C 112 hg dX6_isVoid_92 (by decide) (fun hg => ?_) (fun hg => ?_)
    · refine j_iconst (v := 0) C dX6_isVoid_112 (by decide) ?_
      exact j_zret C dX6_isVoid_113 (by decide) (by rw [← Option.some.inj hg]) rfl rfl
    · refine j_dload_n C dX6_isVoid_95 2 rfl rfl ?_
      obtain ⟨r8, hr8, hg⟩ := ob hg
      refine j_callS C [.double x2] (tX6_isInfinite x2 hr8) q2_141 q1_10 q2_140 q2_139 hd_X6_isInfinite rfl dX6_isVoid_96 rfl (Nat.le_of_ble_eq_true rfl) ⟨(Nat.le_of_ble_eq_true rfl), (Nat.le_of_ble_eq_true rfl)⟩ ⟨(Nat.le_of_ble_eq_true rfl), (Nat.le_of_ble_eq_true rfl)⟩ ?_
      refine j_if_eq C 112 hg dX6_isVoid_99 (by decide) (fun hg => ?_) (fun hg => ?_)
      · refine j_iconst (v := 0) C dX6_isVoid_112 (by decide) ?_
        exact j_zret C dX6_isVoid_113 (by decide) (by rw [← Option.some.inj hg]) rfl rfl
      · refine j_dload_n C dX6_isVoid_102 1 rfl rfl ?_
        refine j_dload_n C dX6_isVoid_103 2 rfl rfl ?_
        refine j_dcmp C dX6_isVoid_104 ?_
        refine j_if_eq C 112 hg dX6_isVoid_105 (by decide) (fun hg => ?_) (fun hg => ?_)
        · refine j_iconst (v := 0) C dX6_isVoid_112 (by decide) ?_
          exact j_zret C dX6_isVoid_113 (by decide) (by rw [← Option.some.inj hg]) rfl rfl
        · refine j_iconst (v := 1) C dX6_isVoid_108 (by decide) ?_
          refine j_goto C 113 dX6_isVoid_109 (by decide) ?_
          exact j_zret C dX6_isVoid_113 (by decide) (by rw [← Option.some.inj hg]) rfl rfl
  · replace hg := (if_neg c1_0).symm.trans hg
    by_cases c1_1 : x0 = (10 : Int32)
    · replace hg := (if_pos c1_1).symm.trans hg
      refine j_tableIn (off := 113) C 114 dX6_isVoid_1 (by rw [c1_1]; decide) (by rw [c1_1]; decide) (by rw [c1_1]; rfl) (by decide) ?_
      refine j_dload_n C dX6_isVoid_114 1 rfl rfl ?_
      obtain ⟨r5, hr5, hg⟩ := ob hg
      refine j_callS C [.double x1] (tX6_isInfinite x1 hr5) q2_141 q1_10 q2_140 q2_139 hd_X6_isInfinite rfl dX6_isVoid_115 rfl (Nat.le_of_ble_eq_true rfl) ⟨(Nat.le_of_ble_eq_true rfl), (Nat.le_of_ble_eq_true rfl)⟩ ⟨(Nat.le_of_ble_eq_true rfl), (Nat.le_of_ble_eq_true rfl)⟩ ?_
      refine j_if_eq C 138 hg dX6_isVoid_118 (by decide) (fun hg => ?_) (fun hg => ?_)
      · refine j_iconst (v := 0) C dX6_isVoid_138 (by decide) ?_
        exact j_zret C dX6_isVoid_139 (by decide) (by rw [← Option.some.inj hg]) rfl rfl
      · refine j_dload_n C dX6_isVoid_121 2 rfl rfl ?_
        obtain ⟨r6, hr6, hg⟩ := ob hg
        refine j_callS C [.double x2] (tX6_isInfinite x2 hr6) q2_141 q1_10 q2_140 q2_139 hd_X6_isInfinite rfl dX6_isVoid_122 rfl (Nat.le_of_ble_eq_true rfl) ⟨(Nat.le_of_ble_eq_true rfl), (Nat.le_of_ble_eq_true rfl)⟩ ⟨(Nat.le_of_ble_eq_true rfl), (Nat.le_of_ble_eq_true rfl)⟩ ?_
        refine j_if_eq C 138 hg dX6_isVoid_125 (by decide) (fun hg => ?_) (fun hg => ?_)
        · refine j_iconst (v := 0) C dX6_isVoid_138 (by decide) ?_
          exact j_zret C dX6_isVoid_139 (by decide) (by rw [← Option.some.inj hg]) rfl rfl
        · refine j_dload_n C dX6_isVoid_128 1 rfl rfl ?_
          refine j_dload_n C dX6_isVoid_129 2 rfl rfl ?_
          refine j_dcmp C dX6_isVoid_130 ?_
          refine j_if_ne C 138 hg dX6_isVoid_131 (by decide) (fun hg => ?_) (fun hg => ?_)
          · refine j_iconst (v := 0) C dX6_isVoid_138 (by decide) ?_
            exact j_zret C dX6_isVoid_139 (by decide) (by rw [← Option.some.inj hg]) rfl rfl
          · refine j_iconst (v := 1) C dX6_isVoid_134 (by decide) ?_
            refine j_goto C 139 dX6_isVoid_135 (by decide) ?_
            exact j_zret C dX6_isVoid_139 (by decide) (by rw [← Option.some.inj hg]) rfl rfl
    · replace hg := (if_neg c1_1).symm.trans hg
      by_cases c1_2 : x0 = (11 : Int32)
      · replace hg := (if_pos c1_2).symm.trans hg
        refine j_tableIn (off := 139) C 140 dX6_isVoid_1 (by rw [c1_2]; decide) (by rw [c1_2]; decide) (by rw [c1_2]; rfl) (by decide) ?_
        refine j_dload_n C dX6_isVoid_140 1 rfl rfl ?_
        refine j_dconst0 C dX6_isVoid_141 ?_
        refine j_dcmp C dX6_isVoid_142 ?_
        refine j_if_ne C 153 hg dX6_isVoid_143 (by decide) (fun hg => ?_) (fun hg => ?_)
        · exact j_re [1, 2] rfl (L_153  hg)
        · refine j_dload_n C dX6_isVoid_146 2 rfl rfl ?_
          obtain ⟨r4, hr4, hg⟩ := ob hg
          refine j_callS C [.double x2] (tX6_isInfinite x2 hr4) q2_141 q1_10 q2_140 q2_139 hd_X6_isInfinite rfl dX6_isVoid_147 rfl (Nat.le_of_ble_eq_true rfl) ⟨(Nat.le_of_ble_eq_true rfl), (Nat.le_of_ble_eq_true rfl)⟩ ⟨(Nat.le_of_ble_eq_true rfl), (Nat.le_of_ble_eq_true rfl)⟩ ?_
          refine j_if_ne C 166 hg dX6_isVoid_150 (by decide) (fun hg => ?_) (fun hg => ?_)
          · refine j_iconst (v := 1) C dX6_isVoid_166 (by decide) ?_
            refine j_goto C 171 dX6_isVoid_167 (by decide) ?_
            exact j_zret C dX6_isVoid_171 (by decide) (by rw [← Option.some.inj hg]) rfl rfl
          · exact j_re [1, 2] rfl (L_153  hg)
      · replace hg := (if_neg c1_2).symm.trans hg
        by_cases c1_3 : x0 = (12 : Int32)
        · replace hg := (if_pos c1_3).symm.trans hg
          refine j_tableIn (off := 171) C 172 dX6_isVoid_1 (by rw [c1_3]; decide) (by rw [c1_3]; decide) (by rw [c1_3]; rfl) (by decide) ?_
          refine j_dload_n C dX6_isVoid_172 1 rfl rfl ?_
          refine j_dconst0 C dX6_isVoid_173 ?_
          refine j_dcmp C dX6_isVoid_174 ?_
          refine j_if_ne C 184 hg dX6_isVoid_175 (by decide) (fun hg => ?_) (fun hg => ?_)
          · exact j_re [1, 2] rfl (L_184  hg)
          · refine j_dload_n C dX6_isVoid_178 2 rfl rfl ?_
            refine j_dconst0 C dX6_isVoid_179 ?_
            refine j_dcmp C dX6_isVoid_180 ?_
            refine j_if_eq C 198 hg dX6_isVoid_181 (by decide) (fun hg => ?_) (fun hg => ?_)
            · refine j_iconst (v := 1) C dX6_isVoid_198 (by decide) ?_
              refine j_goto C 203 dX6_isVoid_199 (by decide) ?_
              exact j_zret C dX6_isVoid_203 (by decide) (by rw [← Option.some.inj hg]) rfl rfl
            · exact j_re [1, 2] rfl (L_184  hg)
        · replace hg := (if_neg c1_3).symm.trans hg
          by_cases c1_4 : x0 = (13 : Int32)
          · replace hg := (if_pos c1_4).symm.trans hg
            refine j_tableIn (off := 203) C 204 dX6_isVoid_1 (by rw [c1_4]; decide) (by rw [c1_4]; decide) (by rw [c1_4]; rfl) (by decide) ?_
            refine j_dload_n C dX6_isVoid_204 2 rfl rfl ?_
            refine j_dconst0 C dX6_isVoid_205 ?_
            refine j_dcmp C dX6_isVoid_206 ?_
            refine j_if_eq C 217 hg dX6_isVoid_207 (by decide) (fun hg => ?_) (fun hg => ?_)
            · refine j_iconst (v := 1) C dX6_isVoid_217 (by decide) ?_
              refine j_goto C 222 dX6_isVoid_218 (by decide) ?_
              exact j_zret C dX6_isVoid_222 (by decide) (by rw [← Option.some.inj hg]) rfl rfl
            · refine j_dload_n C dX6_isVoid_210 1 rfl rfl ?_
              obtain ⟨r3, hr3, hg⟩ := ob hg
              refine j_callS C [.double x1] (tX6_isInfinite x1 hr3) q2_141 q1_10 q2_140 q2_139 hd_X6_isInfinite rfl dX6_isVoid_211 rfl (Nat.le_of_ble_eq_true rfl) ⟨(Nat.le_of_ble_eq_true rfl), (Nat.le_of_ble_eq_true rfl)⟩ ⟨(Nat.le_of_ble_eq_true rfl), (Nat.le_of_ble_eq_true rfl)⟩ ?_
              refine j_if_eq C 221 hg dX6_isVoid_214 (by decide) (fun hg => ?_) (fun hg => ?_)
              · refine j_iconst (v := 0) C dX6_isVoid_221 (by decide) ?_
                exact j_zret C dX6_isVoid_222 (by decide) (by rw [← Option.some.inj hg]) rfl rfl
              · refine j_iconst (v := 1) C dX6_isVoid_217 (by decide) ?_
                refine j_goto C 222 dX6_isVoid_218 (by decide) ?_
                exact j_zret C dX6_isVoid_222 (by decide) (by rw [← Option.some.inj hg]) rfl rfl
          · replace hg := (if_neg c1_4).symm.trans hg
            by_cases c1_5 : x0 = (26 : Int32)
            · replace hg := (if_pos c1_5).symm.trans hg
              refine j_tableIn (off := 222) C 223 dX6_isVoid_1 (by rw [c1_5]; decide) (by rw [c1_5]; decide) (by rw [c1_5]; rfl) (by decide) ?_
              refine j_dload_n C dX6_isVoid_223 2 rfl rfl ?_
              refine j_dconst0 C dX6_isVoid_224 ?_
              refine j_dcmp C dX6_isVoid_225 ?_
              refine j_if_eq C 236 hg dX6_isVoid_226 (by decide) (fun hg => ?_) (fun hg => ?_)
              · refine j_iconst (v := 1) C dX6_isVoid_236 (by decide) ?_
                refine j_goto C 241 dX6_isVoid_237 (by decide) ?_
                exact j_zret C dX6_isVoid_241 (by decide) (by rw [← Option.some.inj hg]) rfl rfl
              · refine j_dload_n C dX6_isVoid_229 2 rfl rfl ?_
                obtain ⟨r2, hr2, hg⟩ := ob hg
                refine j_callS C [.double x2] (tX6_isInfinite x2 hr2) q2_141 q1_10 q2_140 q2_139 hd_X6_isInfinite rfl dX6_isVoid_230 rfl (Nat.le_of_ble_eq_true rfl) ⟨(Nat.le_of_ble_eq_true rfl), (Nat.le_of_ble_eq_true rfl)⟩ ⟨(Nat.le_of_ble_eq_true rfl), (Nat.le_of_ble_eq_true rfl)⟩ ?_
                refine j_if_eq C 240 hg dX6_isVoid_233 (by decide) (fun hg => ?_) (fun hg => ?_)
                · refine j_iconst (v := 0) C dX6_isVoid_240 (by decide) ?_
                  exact j_zret C dX6_isVoid_241 (by decide) (by rw [← Option.some.inj hg]) rfl rfl
                · refine j_iconst (v := 1) C dX6_isVoid_236 (by decide) ?_
                  refine j_goto C 241 dX6_isVoid_237 (by decide) ?_
                  exact j_zret C dX6_isVoid_241 (by decide) (by rw [← Option.some.inj hg]) rfl rfl
            · replace hg := (if_neg c1_5).symm.trans hg
              have nc1_0 : ¬ x0.toInt = 9 := fun h => c1_0 (Int32.toInt_inj.mp (h.trans (by decide)))
              have nc1_1 : ¬ x0.toInt = 10 := fun h => c1_1 (Int32.toInt_inj.mp (h.trans (by decide)))
              have nc1_2 : ¬ x0.toInt = 11 := fun h => c1_2 (Int32.toInt_inj.mp (h.trans (by decide)))
              have nc1_3 : ¬ x0.toInt = 12 := fun h => c1_3 (Int32.toInt_inj.mp (h.trans (by decide)))
              have nc1_4 : ¬ x0.toInt = 13 := fun h => c1_4 (Int32.toInt_inj.mp (h.trans (by decide)))
              have nc1_5 : ¬ x0.toInt = 26 := fun h => c1_5 (Int32.toInt_inj.mp (h.trans (by decide)))
              have hD : J G p l e ({ frames := 1, cells := 0, slots := 0, locals := 21 } : Room) s m args below meth c z 5 (MQ below (Qd G z (some (.int r)) ct N) args s 0 0 (zA z)) ct N 0 0 242 [(0, .int x0), (1, .double x1), (3, .double x2)] [] := by
                refine j_iconst (v := 0) C dX6_isVoid_242 (by decide) ?_
                exact j_zret C dX6_isVoid_243 (by decide) (by rw [← Option.some.inj hg]) rfl rfl
              have ec1_5 : x0.toInt = 14 → x0 = (14 : Int32) := fun h => Int32.toInt_inj.mp (h.trans (by decide))
              have ec1_6 : x0.toInt = 15 → x0 = (15 : Int32) := fun h => Int32.toInt_inj.mp (h.trans (by decide))
              have ec1_7 : x0.toInt = 16 → x0 = (16 : Int32) := fun h => Int32.toInt_inj.mp (h.trans (by decide))
              have ec1_8 : x0.toInt = 17 → x0 = (17 : Int32) := fun h => Int32.toInt_inj.mp (h.trans (by decide))
              have ec1_9 : x0.toInt = 18 → x0 = (18 : Int32) := fun h => Int32.toInt_inj.mp (h.trans (by decide))
              have ec1_10 : x0.toInt = 19 → x0 = (19 : Int32) := fun h => Int32.toInt_inj.mp (h.trans (by decide))
              have ec1_11 : x0.toInt = 20 → x0 = (20 : Int32) := fun h => Int32.toInt_inj.mp (h.trans (by decide))
              have ec1_12 : x0.toInt = 21 → x0 = (21 : Int32) := fun h => Int32.toInt_inj.mp (h.trans (by decide))
              have ec1_13 : x0.toInt = 22 → x0 = (22 : Int32) := fun h => Int32.toInt_inj.mp (h.trans (by decide))
              have ec1_14 : x0.toInt = 23 → x0 = (23 : Int32) := fun h => Int32.toInt_inj.mp (h.trans (by decide))
              have ec1_15 : x0.toInt = 24 → x0 = (24 : Int32) := fun h => Int32.toInt_inj.mp (h.trans (by decide))
              have ec1_16 : x0.toInt = 25 → x0 = (25 : Int32) := fun h => Int32.toInt_inj.mp (h.trans (by decide))
              rcases (show (x0.toInt < 9 ∨ 26 < x0.toInt) ∨ x0.toInt = 14 ∨ x0.toInt = 15 ∨ x0.toInt = 16 ∨ x0.toInt = 17 ∨ x0.toInt = 18 ∨ x0.toInt = 19 ∨ x0.toInt = 20 ∨ x0.toInt = 21 ∨ x0.toInt = 22 ∨ x0.toInt = 23 ∨ x0.toInt = 24 ∨ x0.toInt = 25 by omega) with h9 | h9 | h9 | h9 | h9 | h9 | h9 | h9 | h9 | h9 | h9 | h9 | h9
              · exact j_tableOut C 242 dX6_isVoid_1 h9 (by decide) hD
              · exact j_tableIn (off := 241) C 242 dX6_isVoid_1 (by rw [h9]; decide) (by rw [h9]; decide) (by rw [h9]; rfl) (by decide) hD
              · exact j_tableIn (off := 241) C 242 dX6_isVoid_1 (by rw [h9]; decide) (by rw [h9]; decide) (by rw [h9]; rfl) (by decide) hD
              · exact j_tableIn (off := 241) C 242 dX6_isVoid_1 (by rw [h9]; decide) (by rw [h9]; decide) (by rw [h9]; rfl) (by decide) hD
              · exact j_tableIn (off := 241) C 242 dX6_isVoid_1 (by rw [h9]; decide) (by rw [h9]; decide) (by rw [h9]; rfl) (by decide) hD
              · exact j_tableIn (off := 241) C 242 dX6_isVoid_1 (by rw [h9]; decide) (by rw [h9]; decide) (by rw [h9]; rfl) (by decide) hD
              · exact j_tableIn (off := 241) C 242 dX6_isVoid_1 (by rw [h9]; decide) (by rw [h9]; decide) (by rw [h9]; rfl) (by decide) hD
              · exact j_tableIn (off := 241) C 242 dX6_isVoid_1 (by rw [h9]; decide) (by rw [h9]; decide) (by rw [h9]; rfl) (by decide) hD
              · exact j_tableIn (off := 241) C 242 dX6_isVoid_1 (by rw [h9]; decide) (by rw [h9]; decide) (by rw [h9]; rfl) (by decide) hD
              · exact j_tableIn (off := 241) C 242 dX6_isVoid_1 (by rw [h9]; decide) (by rw [h9]; decide) (by rw [h9]; rfl) (by decide) hD
              · exact j_tableIn (off := 241) C 242 dX6_isVoid_1 (by rw [h9]; decide) (by rw [h9]; decide) (by rw [h9]; rfl) (by decide) hD
              · exact j_tableIn (off := 241) C 242 dX6_isVoid_1 (by rw [h9]; decide) (by rw [h9]; decide) (by rw [h9]; rfl) (by decide) hD
              · exact j_tableIn (off := 241) C 242 dX6_isVoid_1 (by rw [h9]; decide) (by rw [h9]; decide) (by rw [h9]; rfl) (by decide) hD
end
section
def gX6_ofTwo (x0 : Int32) (x1 : UInt64) (x2 : UInt64) (x3 : Int32) : Option UInt64 := if x0 = (9 : Int32) then ((gX6_sum x1 x2 x3).bind (fun r13 => some r13)) else (if x0 = (10 : Int32) then ((gX6_sum x1 (FP.dneg x2) x3).bind (fun r12 => some r12)) else (if x0 = (11 : Int32) then ((gX6_product x1 x2 x3).bind (fun r11 => some r11)) else (if x0 = (12 : Int32) then ((gX6_quotient x1 x2 x3).bind (fun r10 => some r10)) else (if x0 = (13 : Int32) then ((gX6_remainder x1 x2).bind (fun r9 => some r9)) else (if x0 = (14 : Int32) then ((gX6_lesser x1 x2).bind (fun r8 => some r8)) else (if x0 = (15 : Int32) then ((gX6_greater x1 x2).bind (fun r7 => some r7)) else (if x0 = (16 : Int32) then ((gX6_hasMinus x2).bind (fun r5 => (gX6_withSign x1 r5).bind (fun r6 => some r6))) else ((gX6_quotient x1 x2 x3).bind (fun r2 => (gX6_nearest r2).bind (fun r3 => (gX6_product r3 x2 x3).bind (fun r4 => some r4)))))))))))
theorem hd_X6_ofTwo : yX6_ofTwo.cls ≠ "java/lang/invoke/MethodHandle" ∧ yX6_ofTwo.cls ≠ "java/lang/invoke/VarHandle" ∧ (parseMethodDescriptor yX6_ofTwo.desc).map (fun d => d.parameters.length) = some 4 := by decide +kernel
set_option maxHeartbeats 4000000 in
set_option maxRecDepth 100000 in
theorem tX6_ofTwo {G : GG} {l : Launch} {z N : Nat} {ct : Nat → va_E} (x0 : Int32) (x1 : UInt64) (x2 : UInt64) (x3 : Int32) {r : UInt64} (hg : gX6_ofTwo x0 x1 x2 x3 = some r) : Ct G l yX6_ofTwo cX6_ofTwo 6 (some .double) ({ frames := 2, cells := 0, slots := 0, locals := 71 } : Room) [.int x0, .double x1, .double x2, .int x3] z ct N (some (.double r)) ct N := by
  refine Ct.of (lv := [(0, .int x0), (1, .double x1), (3, .double x2), (5, .int x3)]) (by decide +kernel) (Nat.le_of_ble_eq_true rfl) rfl (fun p e s m args below meth c C => ?_)
  rw [gX6_ofTwo] at hg
  refine j_iload_n C dX6_ofTwo_0 0 rfl rfl ?_
  by_cases c1_0 : x0 = (9 : Int32)
  · replace hg := (if_pos c1_0).symm.trans hg
    refine j_tableIn (off := 47) C 48 dX6_ofTwo_1 (by rw [c1_0]; decide) (by rw [c1_0]; decide) (by rw [c1_0]; rfl) (by decide) ?_
    refine j_dload_n C dX6_ofTwo_48 1 rfl rfl ?_
    refine j_dload_n C dX6_ofTwo_49 2 rfl rfl ?_
    refine j_iload C dX6_ofTwo_50 3 rfl ?_
    obtain ⟨r13, hr13, hg⟩ := ob hg
    refine j_callS C [.double x1, .double x2, .int x3] (tX6_sum x1 x2 x3 hr13) q2_148 q1_10 q2_147 q2_146 hd_X6_sum rfl dX6_ofTwo_52 rfl (Nat.le_of_ble_eq_true rfl) ⟨(Nat.le_of_ble_eq_true rfl), (Nat.le_of_ble_eq_true rfl)⟩ ⟨(Nat.le_of_ble_eq_true rfl), (Nat.le_of_ble_eq_true rfl)⟩ ?_
    exact j_dret C dX6_ofTwo_55 (by rw [← Option.some.inj hg]) rfl rfl
  · replace hg := (if_neg c1_0).symm.trans hg
    by_cases c1_1 : x0 = (10 : Int32)
    · replace hg := (if_pos c1_1).symm.trans hg
      refine j_tableIn (off := 55) C 56 dX6_ofTwo_1 (by rw [c1_1]; decide) (by rw [c1_1]; decide) (by rw [c1_1]; rfl) (by decide) ?_
      refine j_dload_n C dX6_ofTwo_56 1 rfl rfl ?_
      refine j_dload_n C dX6_ofTwo_57 2 rfl rfl ?_
      refine j_dneg C dX6_ofTwo_58 ?_
      refine j_iload C dX6_ofTwo_59 3 rfl ?_
      obtain ⟨r12, hr12, hg⟩ := ob hg
      refine j_callS C [.double x1, .double (FP.dneg x2), .int x3] (tX6_sum x1 (FP.dneg x2) x3 hr12) q2_148 q1_10 q2_147 q2_146 hd_X6_sum rfl dX6_ofTwo_61 rfl (Nat.le_of_ble_eq_true rfl) ⟨(Nat.le_of_ble_eq_true rfl), (Nat.le_of_ble_eq_true rfl)⟩ ⟨(Nat.le_of_ble_eq_true rfl), (Nat.le_of_ble_eq_true rfl)⟩ ?_
      exact j_dret C dX6_ofTwo_64 (by rw [← Option.some.inj hg]) rfl rfl
    · replace hg := (if_neg c1_1).symm.trans hg
      by_cases c1_2 : x0 = (11 : Int32)
      · replace hg := (if_pos c1_2).symm.trans hg
        refine j_tableIn (off := 64) C 65 dX6_ofTwo_1 (by rw [c1_2]; decide) (by rw [c1_2]; decide) (by rw [c1_2]; rfl) (by decide) ?_
        refine j_dload_n C dX6_ofTwo_65 1 rfl rfl ?_
        refine j_dload_n C dX6_ofTwo_66 2 rfl rfl ?_
        refine j_iload C dX6_ofTwo_67 3 rfl ?_
        obtain ⟨r11, hr11, hg⟩ := ob hg
        refine j_callS C [.double x1, .double x2, .int x3] (tX6_product x1 x2 x3 hr11) q2_130 q1_10 q2_129 q2_128 hd_X6_product rfl dX6_ofTwo_69 rfl (Nat.le_of_ble_eq_true rfl) ⟨(Nat.le_of_ble_eq_true rfl), (Nat.le_of_ble_eq_true rfl)⟩ ⟨(Nat.le_of_ble_eq_true rfl), (Nat.le_of_ble_eq_true rfl)⟩ ?_
        exact j_dret C dX6_ofTwo_72 (by rw [← Option.some.inj hg]) rfl rfl
      · replace hg := (if_neg c1_2).symm.trans hg
        by_cases c1_3 : x0 = (12 : Int32)
        · replace hg := (if_pos c1_3).symm.trans hg
          refine j_tableIn (off := 72) C 73 dX6_ofTwo_1 (by rw [c1_3]; decide) (by rw [c1_3]; decide) (by rw [c1_3]; rfl) (by decide) ?_
          refine j_dload_n C dX6_ofTwo_73 1 rfl rfl ?_
          refine j_dload_n C dX6_ofTwo_74 2 rfl rfl ?_
          refine j_iload C dX6_ofTwo_75 3 rfl ?_
          obtain ⟨r10, hr10, hg⟩ := ob hg
          refine j_callS C [.double x1, .double x2, .int x3] (tX6_quotient x1 x2 x3 hr10) q2_127 q1_10 q2_126 q2_125 hd_X6_quotient rfl dX6_ofTwo_77 rfl (Nat.le_of_ble_eq_true rfl) ⟨(Nat.le_of_ble_eq_true rfl), (Nat.le_of_ble_eq_true rfl)⟩ ⟨(Nat.le_of_ble_eq_true rfl), (Nat.le_of_ble_eq_true rfl)⟩ ?_
          exact j_dret C dX6_ofTwo_80 (by rw [← Option.some.inj hg]) rfl rfl
        · replace hg := (if_neg c1_3).symm.trans hg
          by_cases c1_4 : x0 = (13 : Int32)
          · replace hg := (if_pos c1_4).symm.trans hg
            refine j_tableIn (off := 80) C 81 dX6_ofTwo_1 (by rw [c1_4]; decide) (by rw [c1_4]; decide) (by rw [c1_4]; rfl) (by decide) ?_
            refine j_dload_n C dX6_ofTwo_81 1 rfl rfl ?_
            refine j_dload_n C dX6_ofTwo_82 2 rfl rfl ?_
            obtain ⟨r9, hr9, hg⟩ := ob hg
            refine j_callS C [.double x1, .double x2] (tX6_remainder x1 x2 hr9) q2_151 q1_10 q2_150 q2_149 hd_X6_remainder rfl dX6_ofTwo_83 rfl (Nat.le_of_ble_eq_true rfl) ⟨(Nat.le_of_ble_eq_true rfl), (Nat.le_of_ble_eq_true rfl)⟩ ⟨(Nat.le_of_ble_eq_true rfl), (Nat.le_of_ble_eq_true rfl)⟩ ?_
            exact j_dret C dX6_ofTwo_86 (by rw [← Option.some.inj hg]) rfl rfl
          · replace hg := (if_neg c1_4).symm.trans hg
            by_cases c1_5 : x0 = (14 : Int32)
            · replace hg := (if_pos c1_5).symm.trans hg
              refine j_tableIn (off := 86) C 87 dX6_ofTwo_1 (by rw [c1_5]; decide) (by rw [c1_5]; decide) (by rw [c1_5]; rfl) (by decide) ?_
              refine j_dload_n C dX6_ofTwo_87 1 rfl rfl ?_
              refine j_dload_n C dX6_ofTwo_88 2 rfl rfl ?_
              obtain ⟨r8, hr8, hg⟩ := ob hg
              refine j_callS C [.double x1, .double x2] (tX6_lesser x1 x2 hr8) q2_175 q1_10 q2_174 q2_173 hd_X6_lesser rfl dX6_ofTwo_89 rfl (Nat.le_of_ble_eq_true rfl) ⟨(Nat.le_of_ble_eq_true rfl), (Nat.le_of_ble_eq_true rfl)⟩ ⟨(Nat.le_of_ble_eq_true rfl), (Nat.le_of_ble_eq_true rfl)⟩ ?_
              exact j_dret C dX6_ofTwo_92 (by rw [← Option.some.inj hg]) rfl rfl
            · replace hg := (if_neg c1_5).symm.trans hg
              by_cases c1_6 : x0 = (15 : Int32)
              · replace hg := (if_pos c1_6).symm.trans hg
                refine j_tableIn (off := 92) C 93 dX6_ofTwo_1 (by rw [c1_6]; decide) (by rw [c1_6]; decide) (by rw [c1_6]; rfl) (by decide) ?_
                refine j_dload_n C dX6_ofTwo_93 1 rfl rfl ?_
                refine j_dload_n C dX6_ofTwo_94 2 rfl rfl ?_
                obtain ⟨r7, hr7, hg⟩ := ob hg
                refine j_callS C [.double x1, .double x2] (tX6_greater x1 x2 hr7) q2_181 q1_10 q2_180 q2_179 hd_X6_greater rfl dX6_ofTwo_95 rfl (Nat.le_of_ble_eq_true rfl) ⟨(Nat.le_of_ble_eq_true rfl), (Nat.le_of_ble_eq_true rfl)⟩ ⟨(Nat.le_of_ble_eq_true rfl), (Nat.le_of_ble_eq_true rfl)⟩ ?_
                exact j_dret C dX6_ofTwo_98 (by rw [← Option.some.inj hg]) rfl rfl
              · replace hg := (if_neg c1_6).symm.trans hg
                by_cases c1_7 : x0 = (16 : Int32)
                · replace hg := (if_pos c1_7).symm.trans hg
                  refine j_tableIn (off := 98) C 99 dX6_ofTwo_1 (by rw [c1_7]; decide) (by rw [c1_7]; decide) (by rw [c1_7]; rfl) (by decide) ?_
                  refine j_dload_n C dX6_ofTwo_99 1 rfl rfl ?_
                  refine j_dload_n C dX6_ofTwo_100 2 rfl rfl ?_
                  obtain ⟨r5, hr5, hg⟩ := ob hg
                  refine j_callS C [.double x2] (tX6_hasMinus x2 hr5) q2_109 q1_10 q2_108 q2_107 hd_X6_hasMinus rfl dX6_ofTwo_101 rfl (Nat.le_of_ble_eq_true rfl) ⟨(Nat.le_of_ble_eq_true rfl), (Nat.le_of_ble_eq_true rfl)⟩ ⟨(Nat.le_of_ble_eq_true rfl), (Nat.le_of_ble_eq_true rfl)⟩ ?_
                  obtain ⟨r6, hr6, hg⟩ := ob hg
                  refine j_callS C [.double x1, .int r5] (tX6_withSign x1 r5 hr6) q2_106 q1_10 q2_105 q2_104 hd_X6_withSign rfl dX6_ofTwo_104 rfl (Nat.le_of_ble_eq_true rfl) ⟨(Nat.le_of_ble_eq_true rfl), (Nat.le_of_ble_eq_true rfl)⟩ ⟨(Nat.le_of_ble_eq_true rfl), (Nat.le_of_ble_eq_true rfl)⟩ ?_
                  exact j_dret C dX6_ofTwo_107 (by rw [← Option.some.inj hg]) rfl rfl
                · replace hg := (if_neg c1_7).symm.trans hg
                  have nc1_0 : ¬ x0.toInt = 9 := fun h => c1_0 (Int32.toInt_inj.mp (h.trans (by decide)))
                  have nc1_1 : ¬ x0.toInt = 10 := fun h => c1_1 (Int32.toInt_inj.mp (h.trans (by decide)))
                  have nc1_2 : ¬ x0.toInt = 11 := fun h => c1_2 (Int32.toInt_inj.mp (h.trans (by decide)))
                  have nc1_3 : ¬ x0.toInt = 12 := fun h => c1_3 (Int32.toInt_inj.mp (h.trans (by decide)))
                  have nc1_4 : ¬ x0.toInt = 13 := fun h => c1_4 (Int32.toInt_inj.mp (h.trans (by decide)))
                  have nc1_5 : ¬ x0.toInt = 14 := fun h => c1_5 (Int32.toInt_inj.mp (h.trans (by decide)))
                  have nc1_6 : ¬ x0.toInt = 15 := fun h => c1_6 (Int32.toInt_inj.mp (h.trans (by decide)))
                  have nc1_7 : ¬ x0.toInt = 16 := fun h => c1_7 (Int32.toInt_inj.mp (h.trans (by decide)))
                  refine j_tableOut C 108 dX6_ofTwo_1 (by omega) (by decide) ?_
                  refine j_dload_n C dX6_ofTwo_108 1 rfl rfl ?_
                  refine j_dload_n C dX6_ofTwo_109 2 rfl rfl ?_
                  refine j_iload C dX6_ofTwo_110 3 rfl ?_
                  obtain ⟨r2, hr2, hg⟩ := ob hg
                  refine j_callS C [.double x1, .double x2, .int x3] (tX6_quotient x1 x2 x3 hr2) q2_127 q1_10 q2_126 q2_125 hd_X6_quotient rfl dX6_ofTwo_112 rfl (Nat.le_of_ble_eq_true rfl) ⟨(Nat.le_of_ble_eq_true rfl), (Nat.le_of_ble_eq_true rfl)⟩ ⟨(Nat.le_of_ble_eq_true rfl), (Nat.le_of_ble_eq_true rfl)⟩ ?_
                  obtain ⟨r3, hr3, hg⟩ := ob hg
                  refine j_callS C [.double r2] (tX6_nearest r2 hr3) q2_123 q1_10 q2_122 q2_121 hd_X6_nearest rfl dX6_ofTwo_115 rfl (Nat.le_of_ble_eq_true rfl) ⟨(Nat.le_of_ble_eq_true rfl), (Nat.le_of_ble_eq_true rfl)⟩ ⟨(Nat.le_of_ble_eq_true rfl), (Nat.le_of_ble_eq_true rfl)⟩ ?_
                  refine j_dload_n C dX6_ofTwo_118 2 rfl rfl ?_
                  refine j_iload C dX6_ofTwo_119 3 rfl ?_
                  obtain ⟨r4, hr4, hg⟩ := ob hg
                  refine j_callS C [.double r3, .double x2, .int x3] (tX6_product r3 x2 x3 hr4) q2_130 q1_10 q2_129 q2_128 hd_X6_product rfl dX6_ofTwo_121 rfl (Nat.le_of_ble_eq_true rfl) ⟨(Nat.le_of_ble_eq_true rfl), (Nat.le_of_ble_eq_true rfl)⟩ ⟨(Nat.le_of_ble_eq_true rfl), (Nat.le_of_ble_eq_true rfl)⟩ ?_
                  exact j_dret C dX6_ofTwo_124 (by rw [← Option.some.inj hg]) rfl rfl
end
section
def gX1_ofInfinite (x0 : Int32) : Option Int64 := if x0 = 0 then (some (9218868437227405312 : Int64)) else (some (2139095040 : Int64))
theorem hd_X1_ofInfinite : yX1_ofInfinite.cls ≠ "java/lang/invoke/MethodHandle" ∧ yX1_ofInfinite.cls ≠ "java/lang/invoke/VarHandle" ∧ (parseMethodDescriptor yX1_ofInfinite.desc).map (fun d => d.parameters.length) = some 1 := by decide +kernel
set_option maxHeartbeats 4000000 in
set_option maxRecDepth 100000 in
theorem tX1_ofInfinite {G : GG} {l : Launch} {z N : Nat} {ct : Nat → va_E} (x0 : Int32) {r : Int64} (hg : gX1_ofInfinite x0 = some r) : Ct G l yX1_ofInfinite cX1_ofInfinite 1 (some .long) ({ frames := 0, cells := 0, slots := 0, locals := 0 } : Room) [.int x0] z ct N (some (.long r)) ct N := by
  refine Ct.of (lv := [(0, .int x0)]) (by decide +kernel) (Nat.le_of_ble_eq_true rfl) rfl (fun p e s m args below meth c C => ?_)
  rw [gX1_ofInfinite] at hg
  refine j_iload_n C dX1_ofInfinite_0 0 rfl rfl ?_
  refine j_if_eq C 10 hg dX1_ofInfinite_1 (by decide) (fun hg => ?_) (fun hg => ?_)
  · refine j_ldc2 C q3_58 dX1_ofInfinite_10 ?_
    exact j_lret C dX1_ofInfinite_13 (by rw [← Option.some.inj hg]) rfl rfl
  · refine j_ldc2 C q3_57 dX1_ofInfinite_4 ?_
    refine j_goto C 13 dX1_ofInfinite_7 (by decide) ?_
    exact j_lret C dX1_ofInfinite_13 (by rw [← Option.some.inj hg]) rfl rfl
end
section
def gX1_of_37 (x0 : UInt64) (x1 : Int32) (v3 : Int64) (s0 : Int64) : Option Int64 := (gX6_hasMinus x0).bind (fun r5 => if r5 = 0 then (some s0) else (some (s0 ||| v3)))
def gX1_of_13 (x0 : UInt64) (x1 : Int32) (s0 : Int64) : Option Int64 := (gX6_isInfinite x0).bind (fun r1 => if r1 = 0 then ((gX6_withSign x0 (0 : Int32)).bind (fun r2 => (gX1_behindSign r2 x1).bind (fun r3 => gX1_of_37 x0 x1 s0 r3))) else ((gX1_ofInfinite x1).bind (fun r4 => gX1_of_37 x0 x1 s0 r4)))
def gX1_of (x0 : UInt64) (x1 : Int32) : Option Int64 := if x1 = 0 then (gX1_of_13 x0 x1 (-9223372036854775808 : Int64)) else (gX1_of_13 x0 x1 (-2147483648 : Int64))
theorem hd_X1_of : yX1_of.cls ≠ "java/lang/invoke/MethodHandle" ∧ yX1_of.cls ≠ "java/lang/invoke/VarHandle" ∧ (parseMethodDescriptor yX1_of.desc).map (fun d => d.parameters.length) = some 2 := by decide +kernel
set_option maxHeartbeats 4000000 in
set_option maxRecDepth 100000 in
theorem tX1_of {G : GG} {l : Launch} {z N : Nat} {ct : Nat → va_E} (x0 : UInt64) (x1 : Int32) {r : Int64} (hg : gX1_of x0 x1 = some r) : Ct G l yX1_of cX1_of 7 (some .long) ({ frames := 2, cells := 0, slots := 0, locals := 43 } : Room) [.double x0, .int x1] z ct N (some (.long r)) ct N := by
  refine Ct.of (lv := [(0, .double x0), (2, .int x1)]) (by decide +kernel) (Nat.le_of_ble_eq_true rfl) rfl (fun p e s m args below meth c C => ?_)
  have L_37 : ∀ (v3 : Int64) (s0 : Int64), gX1_of_37 x0 x1 v3 s0 = some r → J G p l e ({ frames := 2, cells := 0, slots := 0, locals := 43 } : Room) s m args below meth c z 7 (MQ below (Qd G z (some (.long r)) ct N) args s 0 0 (zA z)) ct N 0 0 37 [(0, .double x0), (3, .long v3)] [.long s0] := by
    intro v3 s0 hg
    rw [gX1_of_37] at hg
    refine j_lstore C [(5, .long s0), (0, .double x0), (3, .long v3)] dX1_of_37 (by decide) rfl ?_
    refine j_dload_n C dX1_of_39 1 rfl rfl ?_
    obtain ⟨r5, hr5, hg⟩ := ob hg
    refine j_callS C [.double x0] (tX6_hasMinus x0 hr5) q2_109 q1_10 q2_108 q3_61 hd_X6_hasMinus rfl dX1_of_40 rfl (Nat.le_of_ble_eq_true rfl) ⟨(Nat.le_of_ble_eq_true rfl), (Nat.le_of_ble_eq_true rfl)⟩ ⟨(Nat.le_of_ble_eq_true rfl), (Nat.le_of_ble_eq_true rfl)⟩ ?_
    refine j_if_eq C 53 hg dX1_of_43 (by decide) (fun hg => ?_) (fun hg => ?_)
    · refine j_lload C dX1_of_53 0 rfl ?_
      exact j_lret C dX1_of_55 (by rw [← Option.some.inj hg]) rfl rfl
    · refine j_lload C dX1_of_46 0 rfl ?_
      refine j_lload_n C dX1_of_48 2 rfl rfl ?_
      refine j_lor C dX1_of_49 ?_
      refine j_goto C 55 dX1_of_50 (by decide) ?_
      exact j_lret C dX1_of_55 (by rw [← Option.some.inj hg]) rfl rfl
  have L_13 : ∀ (s0 : Int64), gX1_of_13 x0 x1 s0 = some r → J G p l e ({ frames := 2, cells := 0, slots := 0, locals := 43 } : Room) s m args below meth c z 7 (MQ below (Qd G z (some (.long r)) ct N) args s 0 0 (zA z)) ct N 0 0 13 [(0, .double x0), (2, .int x1)] [.long s0] := by
    intro s0 hg
    rw [gX1_of_13] at hg
    refine j_lstore_n C [(3, .long s0), (0, .double x0), (2, .int x1)] dX1_of_13 rfl (by decide) rfl ?_
    refine j_dload_n C dX1_of_14 1 rfl rfl ?_
    obtain ⟨r1, hr1, hg⟩ := ob hg
    refine j_callS C [.double x0] (tX6_isInfinite x0 hr1) q2_141 q1_10 q2_140 q3_53 hd_X6_isInfinite rfl dX1_of_15 rfl (Nat.le_of_ble_eq_true rfl) ⟨(Nat.le_of_ble_eq_true rfl), (Nat.le_of_ble_eq_true rfl)⟩ ⟨(Nat.le_of_ble_eq_true rfl), (Nat.le_of_ble_eq_true rfl)⟩ ?_
    refine j_if_eq C 28 hg dX1_of_18 (by decide) (fun hg => ?_) (fun hg => ?_)
    · refine j_dload_n C dX1_of_28 1 rfl rfl ?_
      refine j_iconst (v := 0) C dX1_of_29 (by decide) ?_
      obtain ⟨r2, hr2, hg⟩ := ob hg
      refine j_callS C [.double x0, .int (0 : Int32)] (tX6_withSign x0 (0 : Int32) hr2) q2_106 q1_10 q2_105 q3_59 hd_X6_withSign rfl dX1_of_30 rfl (Nat.le_of_ble_eq_true rfl) ⟨(Nat.le_of_ble_eq_true rfl), (Nat.le_of_ble_eq_true rfl)⟩ ⟨(Nat.le_of_ble_eq_true rfl), (Nat.le_of_ble_eq_true rfl)⟩ ?_
      refine j_iload_n C dX1_of_33 2 rfl rfl ?_
      obtain ⟨r3, hr3, hg⟩ := ob hg
      refine j_callS C [.double r2, .int x1] (tX1_behindSign r2 x1 hr3) q2_154 q1_12 q2_153 q3_60 hd_X1_behindSign rfl dX1_of_34 rfl (Nat.le_of_ble_eq_true rfl) ⟨(Nat.le_of_ble_eq_true rfl), (Nat.le_of_ble_eq_true rfl)⟩ ⟨(Nat.le_of_ble_eq_true rfl), (Nat.le_of_ble_eq_true rfl)⟩ ?_
      exact j_re [1, 0] rfl (L_37 s0 r3 hg)
    · refine j_iload_n C dX1_of_21 2 rfl rfl ?_
      obtain ⟨r4, hr4, hg⟩ := ob hg
      refine j_callS C [.int x1] (tX1_ofInfinite x1 hr4) q3_56 q1_12 q3_55 q3_54 hd_X1_ofInfinite rfl dX1_of_22 rfl (Nat.le_of_ble_eq_true rfl) ⟨(Nat.le_of_ble_eq_true rfl), (Nat.le_of_ble_eq_true rfl)⟩ ⟨(Nat.le_of_ble_eq_true rfl), (Nat.le_of_ble_eq_true rfl)⟩ ?_
      refine j_goto C 37 dX1_of_25 (by decide) ?_
      exact j_re [1, 0] rfl (L_37 s0 r4 hg)
  rw [gX1_of] at hg
  refine j_iload_n C dX1_of_0 1 rfl rfl ?_
  refine j_if_eq C 10 hg dX1_of_1 (by decide) (fun hg => ?_) (fun hg => ?_)
  · refine j_ldc2 C q3_52 dX1_of_10 ?_
    exact L_13 (-9223372036854775808 : Int64) hg
  · refine j_ldc2 C q3_51 dX1_of_4 ?_
    refine j_goto C 13 dX1_of_7 (by decide) ?_
    exact L_13 (-2147483648 : Int64) hg
end
section
def gX5_isSoOf (x0 : Int32) (x1 : UInt64) (x2 : UInt64) : Option Int32 := if x0 = (0 : Int32) then (if 0 ≤ (Op.cmpValue (FP.dcmp x1 x2) CmpOp.g) then (some (0 : Int32)) else (some (1 : Int32))) else (if x0 = (1 : Int32) then (if 0 < (Op.cmpValue (FP.dcmp x1 x2) CmpOp.g) then (some (0 : Int32)) else (some (1 : Int32))) else (if x0 = (2 : Int32) then (if (Op.cmpValue (FP.dcmp x1 x2) CmpOp.l) ≤ 0 then (some (0 : Int32)) else (some (1 : Int32))) else (if x0 = (3 : Int32) then (if (Op.cmpValue (FP.dcmp x1 x2) CmpOp.l) < 0 then (some (0 : Int32)) else (some (1 : Int32))) else (if x0 = (4 : Int32) then (if (Op.cmpValue (FP.dcmp x1 x2) CmpOp.l) = 0 then (some (1 : Int32)) else (some (0 : Int32))) else (if (Op.cmpValue (FP.dcmp x1 x2) CmpOp.l) = 0 then (some (0 : Int32)) else (some (1 : Int32)))))))
theorem hd_X5_isSoOf : yX5_isSoOf.cls ≠ "java/lang/invoke/MethodHandle" ∧ yX5_isSoOf.cls ≠ "java/lang/invoke/VarHandle" ∧ (parseMethodDescriptor yX5_isSoOf.desc).map (fun d => d.parameters.length) = some 3 := by decide +kernel
set_option maxHeartbeats 4000000 in
set_option maxRecDepth 100000 in
theorem tX5_isSoOf {G : GG} {l : Launch} {z N : Nat} {ct : Nat → va_E} (x0 : Int32) (x1 : UInt64) (x2 : UInt64) {r : Int32} (hg : gX5_isSoOf x0 x1 x2 = some r) : Ct G l yX5_isSoOf cX5_isSoOf 5 (some .boolean) ({ frames := 0, cells := 0, slots := 0, locals := 0 } : Room) [.int x0, .double x1, .double x2] z ct N (some (.int r)) ct N := by
  refine Ct.of (lv := [(0, .int x0), (1, .double x1), (3, .double x2)]) (by decide +kernel) (Nat.le_of_ble_eq_true rfl) rfl (fun p e s m args below meth c C => ?_)
  rw [gX5_isSoOf] at hg
  refine j_iload_n C dX5_isSoOf_0 0 rfl rfl ?_
  by_cases c1_0 : x0 = (0 : Int32)
  · replace hg := (if_pos c1_0).symm.trans hg
    refine j_tableIn (off := 35) C 36 dX5_isSoOf_1 (by rw [c1_0]; decide) (by rw [c1_0]; decide) (by rw [c1_0]; rfl) (by decide) ?_
    refine j_dload_n C dX5_isSoOf_36 1 rfl rfl ?_
    refine j_dload_n C dX5_isSoOf_37 2 rfl rfl ?_
    refine j_dcmp C dX5_isSoOf_38 ?_
    refine j_if_ge C 46 hg dX5_isSoOf_39 (by decide) (fun hg => ?_) (fun hg => ?_)
    · refine j_iconst (v := 0) C dX5_isSoOf_46 (by decide) ?_
      exact j_zret C dX5_isSoOf_47 (by decide) (by rw [← Option.some.inj hg]) rfl rfl
    · refine j_iconst (v := 1) C dX5_isSoOf_42 (by decide) ?_
      refine j_goto C 47 dX5_isSoOf_43 (by decide) ?_
      exact j_zret C dX5_isSoOf_47 (by decide) (by rw [← Option.some.inj hg]) rfl rfl
  · replace hg := (if_neg c1_0).symm.trans hg
    by_cases c1_1 : x0 = (1 : Int32)
    · replace hg := (if_pos c1_1).symm.trans hg
      refine j_tableIn (off := 47) C 48 dX5_isSoOf_1 (by rw [c1_1]; decide) (by rw [c1_1]; decide) (by rw [c1_1]; rfl) (by decide) ?_
      refine j_dload_n C dX5_isSoOf_48 1 rfl rfl ?_
      refine j_dload_n C dX5_isSoOf_49 2 rfl rfl ?_
      refine j_dcmp C dX5_isSoOf_50 ?_
      refine j_if_gt C 58 hg dX5_isSoOf_51 (by decide) (fun hg => ?_) (fun hg => ?_)
      · refine j_iconst (v := 0) C dX5_isSoOf_58 (by decide) ?_
        exact j_zret C dX5_isSoOf_59 (by decide) (by rw [← Option.some.inj hg]) rfl rfl
      · refine j_iconst (v := 1) C dX5_isSoOf_54 (by decide) ?_
        refine j_goto C 59 dX5_isSoOf_55 (by decide) ?_
        exact j_zret C dX5_isSoOf_59 (by decide) (by rw [← Option.some.inj hg]) rfl rfl
    · replace hg := (if_neg c1_1).symm.trans hg
      by_cases c1_2 : x0 = (2 : Int32)
      · replace hg := (if_pos c1_2).symm.trans hg
        refine j_tableIn (off := 59) C 60 dX5_isSoOf_1 (by rw [c1_2]; decide) (by rw [c1_2]; decide) (by rw [c1_2]; rfl) (by decide) ?_
        refine j_dload_n C dX5_isSoOf_60 1 rfl rfl ?_
        refine j_dload_n C dX5_isSoOf_61 2 rfl rfl ?_
        refine j_dcmp C dX5_isSoOf_62 ?_
        refine j_if_le C 70 hg dX5_isSoOf_63 (by decide) (fun hg => ?_) (fun hg => ?_)
        · refine j_iconst (v := 0) C dX5_isSoOf_70 (by decide) ?_
          exact j_zret C dX5_isSoOf_71 (by decide) (by rw [← Option.some.inj hg]) rfl rfl
        · refine j_iconst (v := 1) C dX5_isSoOf_66 (by decide) ?_
          refine j_goto C 71 dX5_isSoOf_67 (by decide) ?_
          exact j_zret C dX5_isSoOf_71 (by decide) (by rw [← Option.some.inj hg]) rfl rfl
      · replace hg := (if_neg c1_2).symm.trans hg
        by_cases c1_3 : x0 = (3 : Int32)
        · replace hg := (if_pos c1_3).symm.trans hg
          refine j_tableIn (off := 71) C 72 dX5_isSoOf_1 (by rw [c1_3]; decide) (by rw [c1_3]; decide) (by rw [c1_3]; rfl) (by decide) ?_
          refine j_dload_n C dX5_isSoOf_72 1 rfl rfl ?_
          refine j_dload_n C dX5_isSoOf_73 2 rfl rfl ?_
          refine j_dcmp C dX5_isSoOf_74 ?_
          refine j_if_lt C 82 hg dX5_isSoOf_75 (by decide) (fun hg => ?_) (fun hg => ?_)
          · refine j_iconst (v := 0) C dX5_isSoOf_82 (by decide) ?_
            exact j_zret C dX5_isSoOf_83 (by decide) (by rw [← Option.some.inj hg]) rfl rfl
          · refine j_iconst (v := 1) C dX5_isSoOf_78 (by decide) ?_
            refine j_goto C 83 dX5_isSoOf_79 (by decide) ?_
            exact j_zret C dX5_isSoOf_83 (by decide) (by rw [← Option.some.inj hg]) rfl rfl
        · replace hg := (if_neg c1_3).symm.trans hg
          by_cases c1_4 : x0 = (4 : Int32)
          · replace hg := (if_pos c1_4).symm.trans hg
            refine j_tableIn (off := 83) C 84 dX5_isSoOf_1 (by rw [c1_4]; decide) (by rw [c1_4]; decide) (by rw [c1_4]; rfl) (by decide) ?_
            refine j_dload_n C dX5_isSoOf_84 1 rfl rfl ?_
            refine j_dload_n C dX5_isSoOf_85 2 rfl rfl ?_
            refine j_dcmp C dX5_isSoOf_86 ?_
            refine j_if_ne C 94 hg dX5_isSoOf_87 (by decide) (fun hg => ?_) (fun hg => ?_)
            · refine j_iconst (v := 0) C dX5_isSoOf_94 (by decide) ?_
              exact j_zret C dX5_isSoOf_95 (by decide) (by rw [← Option.some.inj hg]) rfl rfl
            · refine j_iconst (v := 1) C dX5_isSoOf_90 (by decide) ?_
              refine j_goto C 95 dX5_isSoOf_91 (by decide) ?_
              exact j_zret C dX5_isSoOf_95 (by decide) (by rw [← Option.some.inj hg]) rfl rfl
          · replace hg := (if_neg c1_4).symm.trans hg
            have nc1_0 : ¬ x0.toInt = 0 := fun h => c1_0 (Int32.toInt_inj.mp (h.trans (by decide)))
            have nc1_1 : ¬ x0.toInt = 1 := fun h => c1_1 (Int32.toInt_inj.mp (h.trans (by decide)))
            have nc1_2 : ¬ x0.toInt = 2 := fun h => c1_2 (Int32.toInt_inj.mp (h.trans (by decide)))
            have nc1_3 : ¬ x0.toInt = 3 := fun h => c1_3 (Int32.toInt_inj.mp (h.trans (by decide)))
            have nc1_4 : ¬ x0.toInt = 4 := fun h => c1_4 (Int32.toInt_inj.mp (h.trans (by decide)))
            refine j_tableOut C 96 dX5_isSoOf_1 (by omega) (by decide) ?_
            refine j_dload_n C dX5_isSoOf_96 1 rfl rfl ?_
            refine j_dload_n C dX5_isSoOf_97 2 rfl rfl ?_
            refine j_dcmp C dX5_isSoOf_98 ?_
            refine j_if_eq C 106 hg dX5_isSoOf_99 (by decide) (fun hg => ?_) (fun hg => ?_)
            · refine j_iconst (v := 0) C dX5_isSoOf_106 (by decide) ?_
              exact j_zret C dX5_isSoOf_107 (by decide) (by rw [← Option.some.inj hg]) rfl rfl
            · refine j_iconst (v := 1) C dX5_isSoOf_102 (by decide) ?_
              refine j_goto C 107 dX5_isSoOf_103 (by decide) ?_
              exact j_zret C dX5_isSoOf_107 (by decide) (by rw [← Option.some.inj hg]) rfl rfl
end
