section
-- ===== PART A: goes FIRST, ahead of the names: the tables' words, and 'selects' of the private methods out of them =====
/-- a private method of a class that the tables say can be made, by its rows of tables_1 -/
def lw_okq (q : MethodName × Nat) : Prop := (q.1.cls ≠ "java/lang/invoke/MethodHandle" ∧ q.1.cls ≠ "java/lang/invoke/VarHandle") ∧ Cond.instantiable q.1.cls q.2 ∈ tables_1 ∧ Cond.privateMethod q.1 ∈ tables_1 ∧ Cond.instanceMethod q.1 ∈ tables_1
theorem lw_p0 : lw_okq (⟨"UsherRows", "refuseBad", "(I)I"⟩, 12) := ⟨⟨by decide +kernel, by decide +kernel⟩, List.mem_of_getElem? (i := 18) (by decide +kernel), List.mem_of_getElem? (i := 235) (by decide +kernel), List.mem_of_getElem? (i := 236) (by decide +kernel)⟩
theorem lw_p1 : lw_okq (⟨"UsherRows", "refuseFull", "()I"⟩, 12) := ⟨⟨by decide +kernel, by decide +kernel⟩, List.mem_of_getElem? (i := 18) (by decide +kernel), List.mem_of_getElem? (i := 244) (by decide +kernel), List.mem_of_getElem? (i := 245) (by decide +kernel)⟩
theorem lw_p2 : lw_okq (⟨"UsherRows$Text", "advance", "()V"⟩, 7) := ⟨⟨by decide +kernel, by decide +kernel⟩, List.mem_of_getElem? (i := 118) (by decide +kernel), List.mem_of_getElem? (i := 281) (by decide +kernel), List.mem_of_getElem? (i := 282) (by decide +kernel)⟩
theorem lw_p3 : lw_okq (⟨"UsherRows$Text", "takeFigures", "()V"⟩, 7) := ⟨⟨by decide +kernel, by decide +kernel⟩, List.mem_of_getElem? (i := 118) (by decide +kernel), List.mem_of_getElem? (i := 291) (by decide +kernel), List.mem_of_getElem? (i := 292) (by decide +kernel)⟩
theorem lw_p4 : lw_okq (⟨"UsherRows$Text", "readItem", "(Z)Z"⟩, 7) := ⟨⟨by decide +kernel, by decide +kernel⟩, List.mem_of_getElem? (i := 118) (by decide +kernel), List.mem_of_getElem? (i := 295) (by decide +kernel), List.mem_of_getElem? (i := 296) (by decide +kernel)⟩
theorem lw_p5 : lw_okq (⟨"UsherRows$Text", "spells", "(Ljava/lang/String;)Z"⟩, 7) := ⟨⟨by decide +kernel, by decide +kernel⟩, List.mem_of_getElem? (i := 118) (by decide +kernel), List.mem_of_getElem? (i := 300) (by decide +kernel), List.mem_of_getElem? (i := 301) (by decide +kernel)⟩
theorem lw_p6 : lw_okq (⟨"UsherRows$Text", "readRowKinds", "()Z"⟩, 7) := ⟨⟨by decide +kernel, by decide +kernel⟩, List.mem_of_getElem? (i := 118) (by decide +kernel), List.mem_of_getElem? (i := 352) (by decide +kernel), List.mem_of_getElem? (i := 353) (by decide +kernel)⟩
theorem lw_p7 : lw_okq (⟨"UsherRows$Text", "readNumber", "(II)Z"⟩, 7) := ⟨⟨by decide +kernel, by decide +kernel⟩, List.mem_of_getElem? (i := 118) (by decide +kernel), List.mem_of_getElem? (i := 356) (by decide +kernel), List.mem_of_getElem? (i := 357) (by decide +kernel)⟩
theorem lw_p8 : lw_okq (⟨"UsherRows$Text", "readSoul", "()Z"⟩, 7) := ⟨⟨by decide +kernel, by decide +kernel⟩, List.mem_of_getElem? (i := 118) (by decide +kernel), List.mem_of_getElem? (i := 361) (by decide +kernel), List.mem_of_getElem? (i := 362) (by decide +kernel)⟩
theorem lw_p9 : lw_okq (⟨"UsherRows$Text", "readCoat", "()Z"⟩, 7) := ⟨⟨by decide +kernel, by decide +kernel⟩, List.mem_of_getElem? (i := 118) (by decide +kernel), List.mem_of_getElem? (i := 367) (by decide +kernel), List.mem_of_getElem? (i := 368) (by decide +kernel)⟩
theorem lw_p10 : lw_okq (⟨"UsherRows$Text", "readSit", "()Z"⟩, 7) := ⟨⟨by decide +kernel, by decide +kernel⟩, List.mem_of_getElem? (i := 118) (by decide +kernel), List.mem_of_getElem? (i := 387) (by decide +kernel), List.mem_of_getElem? (i := 388) (by decide +kernel)⟩
theorem lw_p11 : lw_okq (⟨"UsherRows$Hall", "settle", "(I)I"⟩, 12) := ⟨⟨by decide +kernel, by decide +kernel⟩, List.mem_of_getElem? (i := 26) (by decide +kernel), List.mem_of_getElem? (i := 410) (by decide +kernel), List.mem_of_getElem? (i := 411) (by decide +kernel)⟩
theorem lw_p12 : lw_okq (⟨"UsherRows$Text", "readOut", "()Z"⟩, 7) := ⟨⟨by decide +kernel, by decide +kernel⟩, List.mem_of_getElem? (i := 118) (by decide +kernel), List.mem_of_getElem? (i := 419) (by decide +kernel), List.mem_of_getElem? (i := 420) (by decide +kernel)⟩
theorem lw_p13 : lw_okq (⟨"UsherRows$Text", "readMinutes", "()Z"⟩, 7) := ⟨⟨by decide +kernel, by decide +kernel⟩, List.mem_of_getElem? (i := 118) (by decide +kernel), List.mem_of_getElem? (i := 428) (by decide +kernel), List.mem_of_getElem? (i := 429) (by decide +kernel)⟩
theorem lw_p14 : lw_okq (⟨"UsherRows$Text", "readStop", "()Z"⟩, 7) := ⟨⟨by decide +kernel, by decide +kernel⟩, List.mem_of_getElem? (i := 118) (by decide +kernel), List.mem_of_getElem? (i := 433) (by decide +kernel), List.mem_of_getElem? (i := 434) (by decide +kernel)⟩
theorem lw_p15 : lw_okq (⟨"UsherRows", "refuseNo", "(I)I"⟩, 12) := ⟨⟨by decide +kernel, by decide +kernel⟩, List.mem_of_getElem? (i := 18) (by decide +kernel), List.mem_of_getElem? (i := 461) (by decide +kernel), List.mem_of_getElem? (i := 462) (by decide +kernel)⟩
def lw_privs_1 : List (MethodName × Nat) := [(⟨"UsherRows", "refuseBad", "(I)I"⟩, 12), (⟨"UsherRows", "refuseFull", "()I"⟩, 12), (⟨"UsherRows$Text", "advance", "()V"⟩, 7), (⟨"UsherRows$Text", "takeFigures", "()V"⟩, 7), (⟨"UsherRows$Text", "readItem", "(Z)Z"⟩, 7), (⟨"UsherRows$Text", "spells", "(Ljava/lang/String;)Z"⟩, 7), (⟨"UsherRows$Text", "readRowKinds", "()Z"⟩, 7), (⟨"UsherRows$Text", "readNumber", "(II)Z"⟩, 7), (⟨"UsherRows$Text", "readSoul", "()Z"⟩, 7), (⟨"UsherRows$Text", "readCoat", "()Z"⟩, 7), (⟨"UsherRows$Text", "readSit", "()Z"⟩, 7), (⟨"UsherRows$Hall", "settle", "(I)I"⟩, 12), (⟨"UsherRows$Text", "readOut", "()Z"⟩, 7), (⟨"UsherRows$Text", "readMinutes", "()Z"⟩, 7), (⟨"UsherRows$Text", "readStop", "()Z"⟩, 7), (⟨"UsherRows", "refuseNo", "(I)I"⟩, 12)]
theorem lw_r1 : ∀ q ∈ lw_privs_1, lw_okq q := List.forall_mem_cons.mpr ⟨lw_p0, List.forall_mem_cons.mpr ⟨lw_p1, List.forall_mem_cons.mpr ⟨lw_p2, List.forall_mem_cons.mpr ⟨lw_p3, List.forall_mem_cons.mpr ⟨lw_p4, List.forall_mem_cons.mpr ⟨lw_p5, List.forall_mem_cons.mpr ⟨lw_p6, List.forall_mem_cons.mpr ⟨lw_p7, List.forall_mem_cons.mpr ⟨lw_p8, List.forall_mem_cons.mpr ⟨lw_p9, List.forall_mem_cons.mpr ⟨lw_p10, List.forall_mem_cons.mpr ⟨lw_p11, List.forall_mem_cons.mpr ⟨lw_p12, List.forall_mem_cons.mpr ⟨lw_p13, List.forall_mem_cons.mpr ⟨lw_p14, List.forall_mem_cons.mpr ⟨lw_p15, fun _ h => absurd h List.not_mem_nil⟩⟩⟩⟩⟩⟩⟩⟩⟩⟩⟩⟩⟩⟩⟩⟩
theorem lw_p16 : lw_okq (⟨"UsherRows$Plan", "leastBehind", "(LUsherRows$Hall;I)I"⟩, 2) := ⟨⟨by decide +kernel, by decide +kernel⟩, List.mem_of_getElem? (i := 152) (by decide +kernel), List.mem_of_getElem? (i := 569) (by decide +kernel), List.mem_of_getElem? (i := 570) (by decide +kernel)⟩
theorem lw_p17 : lw_okq (⟨"UsherRows$Plan", "fussByWay", "(LUsherRows$Hall;II)I"⟩, 2) := ⟨⟨by decide +kernel, by decide +kernel⟩, List.mem_of_getElem? (i := 152) (by decide +kernel), List.mem_of_getElem? (i := 574) (by decide +kernel), List.mem_of_getElem? (i := 575) (by decide +kernel)⟩
theorem lw_p18 : lw_okq (⟨"UsherRows$Plan", "nextOf", "(LUsherRows$Hall;I)I"⟩, 2) := ⟨⟨by decide +kernel, by decide +kernel⟩, List.mem_of_getElem? (i := 152) (by decide +kernel), List.mem_of_getElem? (i := 602) (by decide +kernel), List.mem_of_getElem? (i := 603) (by decide +kernel)⟩
theorem lw_p19 : lw_okq (⟨"UsherRows", "bestCell", "(I)I"⟩, 12) := ⟨⟨by decide +kernel, by decide +kernel⟩, List.mem_of_getElem? (i := 18) (by decide +kernel), List.mem_of_getElem? (i := 610) (by decide +kernel), List.mem_of_getElem? (i := 611) (by decide +kernel)⟩
theorem lw_p20 : lw_okq (⟨"UsherRows", "worth", "(II)I"⟩, 12) := ⟨⟨by decide +kernel, by decide +kernel⟩, List.mem_of_getElem? (i := 18) (by decide +kernel), List.mem_of_getElem? (i := 614) (by decide +kernel), List.mem_of_getElem? (i := 615) (by decide +kernel)⟩
theorem lw_p21 : lw_okq (⟨"UsherRows", "firstPlaceBeside", "(II)I"⟩, 12) := ⟨⟨by decide +kernel, by decide +kernel⟩, List.mem_of_getElem? (i := 18) (by decide +kernel), List.mem_of_getElem? (i := 622) (by decide +kernel), List.mem_of_getElem? (i := 623) (by decide +kernel)⟩
theorem lw_p22 : lw_okq (⟨"UsherRows", "areFreeNeighbours", "(II)Z"⟩, 12) := ⟨⟨by decide +kernel, by decide +kernel⟩, List.mem_of_getElem? (i := 18) (by decide +kernel), List.mem_of_getElem? (i := 626) (by decide +kernel), List.mem_of_getElem? (i := 627) (by decide +kernel)⟩
theorem lw_p23 : lw_okq (⟨"UsherRows", "fussBeside", "(IIII)I"⟩, 12) := ⟨⟨by decide +kernel, by decide +kernel⟩, List.mem_of_getElem? (i := 18) (by decide +kernel), List.mem_of_getElem? (i := 630) (by decide +kernel), List.mem_of_getElem? (i := 631) (by decide +kernel)⟩
theorem lw_p24 : lw_okq (⟨"UsherRows", "cellsThatFit", "(I)I"⟩, 12) := ⟨⟨by decide +kernel, by decide +kernel⟩, List.mem_of_getElem? (i := 18) (by decide +kernel), List.mem_of_getElem? (i := 669) (by decide +kernel), List.mem_of_getElem? (i := 670) (by decide +kernel)⟩
theorem lw_p25 : lw_okq (⟨"UsherRows", "fitsSightings", "(II)Z"⟩, 12) := ⟨⟨by decide +kernel, by decide +kernel⟩, List.mem_of_getElem? (i := 18) (by decide +kernel), List.mem_of_getElem? (i := 673) (by decide +kernel), List.mem_of_getElem? (i := 674) (by decide +kernel)⟩
theorem lw_p26 : lw_okq (⟨"UsherRows", "mostCellsAlike", "(III)I"⟩, 12) := ⟨⟨by decide +kernel, by decide +kernel⟩, List.mem_of_getElem? (i := 18) (by decide +kernel), List.mem_of_getElem? (i := 683) (by decide +kernel), List.mem_of_getElem? (i := 684) (by decide +kernel)⟩
theorem lw_p27 : lw_okq (⟨"UsherRows", "rowKindsThatFit", "(I)I"⟩, 12) := ⟨⟨by decide +kernel, by decide +kernel⟩, List.mem_of_getElem? (i := 18) (by decide +kernel), List.mem_of_getElem? (i := 718) (by decide +kernel), List.mem_of_getElem? (i := 719) (by decide +kernel)⟩
theorem lw_p28 : lw_okq (⟨"UsherRows", "fitsNotes", "(II)Z"⟩, 12) := ⟨⟨by decide +kernel, by decide +kernel⟩, List.mem_of_getElem? (i := 18) (by decide +kernel), List.mem_of_getElem? (i := 722) (by decide +kernel), List.mem_of_getElem? (i := 723) (by decide +kernel)⟩
theorem lw_p29 : lw_okq (⟨"UsherRows", "mostRowKindsAlike", "(II)I"⟩, 12) := ⟨⟨by decide +kernel, by decide +kernel⟩, List.mem_of_getElem? (i := 18) (by decide +kernel), List.mem_of_getElem? (i := 731) (by decide +kernel), List.mem_of_getElem? (i := 732) (by decide +kernel)⟩
theorem lw_p30 : lw_okq (⟨"UsherRows", "soulKindsThatFit", "(I)I"⟩, 12) := ⟨⟨by decide +kernel, by decide +kernel⟩, List.mem_of_getElem? (i := 18) (by decide +kernel), List.mem_of_getElem? (i := 739) (by decide +kernel), List.mem_of_getElem? (i := 740) (by decide +kernel)⟩
theorem lw_p31 : lw_okq (⟨"UsherRows", "fitsMarks", "(II)Z"⟩, 12) := ⟨⟨by decide +kernel, by decide +kernel⟩, List.mem_of_getElem? (i := 18) (by decide +kernel), List.mem_of_getElem? (i := 743) (by decide +kernel), List.mem_of_getElem? (i := 744) (by decide +kernel)⟩
def lw_privs_2 : List (MethodName × Nat) := [(⟨"UsherRows$Plan", "leastBehind", "(LUsherRows$Hall;I)I"⟩, 2), (⟨"UsherRows$Plan", "fussByWay", "(LUsherRows$Hall;II)I"⟩, 2), (⟨"UsherRows$Plan", "nextOf", "(LUsherRows$Hall;I)I"⟩, 2), (⟨"UsherRows", "bestCell", "(I)I"⟩, 12), (⟨"UsherRows", "worth", "(II)I"⟩, 12), (⟨"UsherRows", "firstPlaceBeside", "(II)I"⟩, 12), (⟨"UsherRows", "areFreeNeighbours", "(II)Z"⟩, 12), (⟨"UsherRows", "fussBeside", "(IIII)I"⟩, 12), (⟨"UsherRows", "cellsThatFit", "(I)I"⟩, 12), (⟨"UsherRows", "fitsSightings", "(II)Z"⟩, 12), (⟨"UsherRows", "mostCellsAlike", "(III)I"⟩, 12), (⟨"UsherRows", "rowKindsThatFit", "(I)I"⟩, 12), (⟨"UsherRows", "fitsNotes", "(II)Z"⟩, 12), (⟨"UsherRows", "mostRowKindsAlike", "(II)I"⟩, 12), (⟨"UsherRows", "soulKindsThatFit", "(I)I"⟩, 12), (⟨"UsherRows", "fitsMarks", "(II)Z"⟩, 12)]
theorem lw_r2 : ∀ q ∈ lw_privs_2, lw_okq q := List.forall_mem_cons.mpr ⟨lw_p16, List.forall_mem_cons.mpr ⟨lw_p17, List.forall_mem_cons.mpr ⟨lw_p18, List.forall_mem_cons.mpr ⟨lw_p19, List.forall_mem_cons.mpr ⟨lw_p20, List.forall_mem_cons.mpr ⟨lw_p21, List.forall_mem_cons.mpr ⟨lw_p22, List.forall_mem_cons.mpr ⟨lw_p23, List.forall_mem_cons.mpr ⟨lw_p24, List.forall_mem_cons.mpr ⟨lw_p25, List.forall_mem_cons.mpr ⟨lw_p26, List.forall_mem_cons.mpr ⟨lw_p27, List.forall_mem_cons.mpr ⟨lw_p28, List.forall_mem_cons.mpr ⟨lw_p29, List.forall_mem_cons.mpr ⟨lw_p30, List.forall_mem_cons.mpr ⟨lw_p31, fun _ h => absurd h List.not_mem_nil⟩⟩⟩⟩⟩⟩⟩⟩⟩⟩⟩⟩⟩⟩⟩⟩
theorem lw_p32 : lw_okq (⟨"UsherRows", "mostSoulKindsAlike", "(III)I"⟩, 12) := ⟨⟨by decide +kernel, by decide +kernel⟩, List.mem_of_getElem? (i := 18) (by decide +kernel), List.mem_of_getElem? (i := 751) (by decide +kernel), List.mem_of_getElem? (i := 752) (by decide +kernel)⟩
theorem lw_p33 : lw_okq (⟨"UsherRows", "setTenths", "(I)V"⟩, 12) := ⟨⟨by decide +kernel, by decide +kernel⟩, List.mem_of_getElem? (i := 18) (by decide +kernel), List.mem_of_getElem? (i := 763) (by decide +kernel), List.mem_of_getElem? (i := 764) (by decide +kernel)⟩
theorem lw_p34 : lw_okq (⟨"UsherRows", "howMany", "(I)I"⟩, 12) := ⟨⟨by decide +kernel, by decide +kernel⟩, List.mem_of_getElem? (i := 18) (by decide +kernel), List.mem_of_getElem? (i := 808) (by decide +kernel), List.mem_of_getElem? (i := 809) (by decide +kernel)⟩
theorem lw_p35 : lw_okq (⟨"UsherRowsModel", "bad", "()I"⟩, 16) := ⟨⟨by decide +kernel, by decide +kernel⟩, List.mem_of_getElem? (i := 833) (by decide +kernel), List.mem_of_getElem? (i := 904) (by decide +kernel), List.mem_of_getElem? (i := 905) (by decide +kernel)⟩
theorem lw_p36 : lw_okq (⟨"UsherRowsModel", "full", "()I"⟩, 16) := ⟨⟨by decide +kernel, by decide +kernel⟩, List.mem_of_getElem? (i := 833) (by decide +kernel), List.mem_of_getElem? (i := 916) (by decide +kernel), List.mem_of_getElem? (i := 917) (by decide +kernel)⟩
theorem lw_p37 : lw_okq (⟨"UsherRowsModel", "next", "()V"⟩, 16) := ⟨⟨by decide +kernel, by decide +kernel⟩, List.mem_of_getElem? (i := 833) (by decide +kernel), List.mem_of_getElem? (i := 936) (by decide +kernel), List.mem_of_getElem? (i := 937) (by decide +kernel)⟩
theorem lw_p38 : lw_okq (⟨"UsherRowsModel", "wordBy", "(I)I"⟩, 16) := ⟨⟨by decide +kernel, by decide +kernel⟩, List.mem_of_getElem? (i := 833) (by decide +kernel), List.mem_of_getElem? (i := 946) (by decide +kernel), List.mem_of_getElem? (i := 947) (by decide +kernel)⟩
theorem lw_p39 : lw_okq (⟨"UsherRowsModel", "must", "(Z)V"⟩, 16) := ⟨⟨by decide +kernel, by decide +kernel⟩, List.mem_of_getElem? (i := 833) (by decide +kernel), List.mem_of_getElem? (i := 958) (by decide +kernel), List.mem_of_getElem? (i := 959) (by decide +kernel)⟩
theorem lw_p40 : lw_okq (⟨"UsherRowsModel", "goOnReading", "()V"⟩, 16) := ⟨⟨by decide +kernel, by decide +kernel⟩, List.mem_of_getElem? (i := 833) (by decide +kernel), List.mem_of_getElem? (i := 962) (by decide +kernel), List.mem_of_getElem? (i := 963) (by decide +kernel)⟩
theorem lw_p41 : lw_okq (⟨"UsherRowsModel", "number", "(II)I"⟩, 16) := ⟨⟨by decide +kernel, by decide +kernel⟩, List.mem_of_getElem? (i := 833) (by decide +kernel), List.mem_of_getElem? (i := 966) (by decide +kernel), List.mem_of_getElem? (i := 967) (by decide +kernel)⟩
theorem lw_p42 : lw_okq (⟨"UsherRowsModel", "end", "()V"⟩, 16) := ⟨⟨by decide +kernel, by decide +kernel⟩, List.mem_of_getElem? (i := 833) (by decide +kernel), List.mem_of_getElem? (i := 970) (by decide +kernel), List.mem_of_getElem? (i := 971) (by decide +kernel)⟩
theorem lw_p43 : lw_okq (⟨"UsherRowsModel", "readSoul", "()V"⟩, 16) := ⟨⟨by decide +kernel, by decide +kernel⟩, List.mem_of_getElem? (i := 833) (by decide +kernel), List.mem_of_getElem? (i := 974) (by decide +kernel), List.mem_of_getElem? (i := 975) (by decide +kernel)⟩
theorem lw_p44 : lw_okq (⟨"UsherRowsModel", "readCoat", "()V"⟩, 16) := ⟨⟨by decide +kernel, by decide +kernel⟩, List.mem_of_getElem? (i := 833) (by decide +kernel), List.mem_of_getElem? (i := 978) (by decide +kernel), List.mem_of_getElem? (i := 979) (by decide +kernel)⟩
theorem lw_p45 : lw_okq (⟨"UsherRowsModel", "freeCell", "()I"⟩, 16) := ⟨⟨by decide +kernel, by decide +kernel⟩, List.mem_of_getElem? (i := 833) (by decide +kernel), List.mem_of_getElem? (i := 982) (by decide +kernel), List.mem_of_getElem? (i := 983) (by decide +kernel)⟩
theorem lw_p46 : lw_okq (⟨"UsherRowsModel", "readSit", "()V"⟩, 16) := ⟨⟨by decide +kernel, by decide +kernel⟩, List.mem_of_getElem? (i := 833) (by decide +kernel), List.mem_of_getElem? (i := 1001) (by decide +kernel), List.mem_of_getElem? (i := 1002) (by decide +kernel)⟩
theorem lw_p47 : lw_okq (⟨"UsherRowsModel", "soulThat", "(Z)I"⟩, 16) := ⟨⟨by decide +kernel, by decide +kernel⟩, List.mem_of_getElem? (i := 833) (by decide +kernel), List.mem_of_getElem? (i := 1005) (by decide +kernel), List.mem_of_getElem? (i := 1006) (by decide +kernel)⟩
def lw_privs_3 : List (MethodName × Nat) := [(⟨"UsherRows", "mostSoulKindsAlike", "(III)I"⟩, 12), (⟨"UsherRows", "setTenths", "(I)V"⟩, 12), (⟨"UsherRows", "howMany", "(I)I"⟩, 12), (⟨"UsherRowsModel", "bad", "()I"⟩, 16), (⟨"UsherRowsModel", "full", "()I"⟩, 16), (⟨"UsherRowsModel", "next", "()V"⟩, 16), (⟨"UsherRowsModel", "wordBy", "(I)I"⟩, 16), (⟨"UsherRowsModel", "must", "(Z)V"⟩, 16), (⟨"UsherRowsModel", "goOnReading", "()V"⟩, 16), (⟨"UsherRowsModel", "number", "(II)I"⟩, 16), (⟨"UsherRowsModel", "end", "()V"⟩, 16), (⟨"UsherRowsModel", "readSoul", "()V"⟩, 16), (⟨"UsherRowsModel", "readCoat", "()V"⟩, 16), (⟨"UsherRowsModel", "freeCell", "()I"⟩, 16), (⟨"UsherRowsModel", "readSit", "()V"⟩, 16), (⟨"UsherRowsModel", "soulThat", "(Z)I"⟩, 16)]
theorem lw_r3 : ∀ q ∈ lw_privs_3, lw_okq q := List.forall_mem_cons.mpr ⟨lw_p32, List.forall_mem_cons.mpr ⟨lw_p33, List.forall_mem_cons.mpr ⟨lw_p34, List.forall_mem_cons.mpr ⟨lw_p35, List.forall_mem_cons.mpr ⟨lw_p36, List.forall_mem_cons.mpr ⟨lw_p37, List.forall_mem_cons.mpr ⟨lw_p38, List.forall_mem_cons.mpr ⟨lw_p39, List.forall_mem_cons.mpr ⟨lw_p40, List.forall_mem_cons.mpr ⟨lw_p41, List.forall_mem_cons.mpr ⟨lw_p42, List.forall_mem_cons.mpr ⟨lw_p43, List.forall_mem_cons.mpr ⟨lw_p44, List.forall_mem_cons.mpr ⟨lw_p45, List.forall_mem_cons.mpr ⟨lw_p46, List.forall_mem_cons.mpr ⟨lw_p47, fun _ h => absurd h List.not_mem_nil⟩⟩⟩⟩⟩⟩⟩⟩⟩⟩⟩⟩⟩⟩⟩⟩
theorem lw_p48 : lw_okq (⟨"UsherRowsModel", "readOut", "()V"⟩, 16) := ⟨⟨by decide +kernel, by decide +kernel⟩, List.mem_of_getElem? (i := 833) (by decide +kernel), List.mem_of_getElem? (i := 1028) (by decide +kernel), List.mem_of_getElem? (i := 1029) (by decide +kernel)⟩
theorem lw_p49 : lw_okq (⟨"UsherRowsModel", "readMinutes", "()V"⟩, 16) := ⟨⟨by decide +kernel, by decide +kernel⟩, List.mem_of_getElem? (i := 833) (by decide +kernel), List.mem_of_getElem? (i := 1032) (by decide +kernel), List.mem_of_getElem? (i := 1033) (by decide +kernel)⟩
theorem lw_p50 : lw_okq (⟨"UsherRowsModel", "no", "()I"⟩, 16) := ⟨⟨by decide +kernel, by decide +kernel⟩, List.mem_of_getElem? (i := 833) (by decide +kernel), List.mem_of_getElem? (i := 1040) (by decide +kernel), List.mem_of_getElem? (i := 1041) (by decide +kernel)⟩
theorem lw_p51 : lw_okq (⟨"UsherRowsModel", "isSoul", "(I)Z"⟩, 16) := ⟨⟨by decide +kernel, by decide +kernel⟩, List.mem_of_getElem? (i := 833) (by decide +kernel), List.mem_of_getElem? (i := 1048) (by decide +kernel), List.mem_of_getElem? (i := 1049) (by decide +kernel)⟩
theorem lw_p52 : lw_okq (⟨"UsherRowsModel", "keep", "()V"⟩, 16) := ⟨⟨by decide +kernel, by decide +kernel⟩, List.mem_of_getElem? (i := 833) (by decide +kernel), List.mem_of_getElem? (i := 1052) (by decide +kernel), List.mem_of_getElem? (i := 1053) (by decide +kernel)⟩
theorem lw_p53 : lw_okq (⟨"UsherRowsModel", "isOut", "(I)Z"⟩, 16) := ⟨⟨by decide +kernel, by decide +kernel⟩, List.mem_of_getElem? (i := 833) (by decide +kernel), List.mem_of_getElem? (i := 1092) (by decide +kernel), List.mem_of_getElem? (i := 1093) (by decide +kernel)⟩
theorem lw_p54 : lw_okq (⟨"UsherRowsModel", "badAs", "(I)I"⟩, 16) := ⟨⟨by decide +kernel, by decide +kernel⟩, List.mem_of_getElem? (i := 833) (by decide +kernel), List.mem_of_getElem? (i := 1100) (by decide +kernel), List.mem_of_getElem? (i := 1101) (by decide +kernel)⟩
theorem lw_p55 : lw_okq (⟨"UsherRowsModel", "layTried", "()I"⟩, 16) := ⟨⟨by decide +kernel, by decide +kernel⟩, List.mem_of_getElem? (i := 833) (by decide +kernel), List.mem_of_getElem? (i := 1104) (by decide +kernel), List.mem_of_getElem? (i := 1105) (by decide +kernel)⟩
theorem lw_p56 : lw_okq (⟨"UsherRowsModel", "layFresh", "()V"⟩, 16) := ⟨⟨by decide +kernel, by decide +kernel⟩, List.mem_of_getElem? (i := 833) (by decide +kernel), List.mem_of_getElem? (i := 1108) (by decide +kernel), List.mem_of_getElem? (i := 1109) (by decide +kernel)⟩
theorem lw_p57 : lw_okq (⟨"UsherRowsModel", "nextOrder", "(I)Z"⟩, 16) := ⟨⟨by decide +kernel, by decide +kernel⟩, List.mem_of_getElem? (i := 833) (by decide +kernel), List.mem_of_getElem? (i := 1112) (by decide +kernel), List.mem_of_getElem? (i := 1113) (by decide +kernel)⟩
theorem lw_p58 : lw_okq (⟨"UsherRowsModel", "isBound", "(I)Z"⟩, 16) := ⟨⟨by decide +kernel, by decide +kernel⟩, List.mem_of_getElem? (i := 833) (by decide +kernel), List.mem_of_getElem? (i := 1132) (by decide +kernel), List.mem_of_getElem? (i := 1133) (by decide +kernel)⟩
theorem lw_p59 : lw_okq (⟨"UsherRowsModel", "inStubOf", "(I)I"⟩, 16) := ⟨⟨by decide +kernel, by decide +kernel⟩, List.mem_of_getElem? (i := 833) (by decide +kernel), List.mem_of_getElem? (i := 1136) (by decide +kernel), List.mem_of_getElem? (i := 1137) (by decide +kernel)⟩
theorem lw_p60 : lw_okq (⟨"UsherRowsModel", "mayBe", "(II)Z"⟩, 16) := ⟨⟨by decide +kernel, by decide +kernel⟩, List.mem_of_getElem? (i := 833) (by decide +kernel), List.mem_of_getElem? (i := 1152) (by decide +kernel), List.mem_of_getElem? (i := 1153) (by decide +kernel)⟩
theorem lw_p61 : lw_okq (⟨"UsherRowsModel", "told", "(IIII)I"⟩, 16) := ⟨⟨by decide +kernel, by decide +kernel⟩, List.mem_of_getElem? (i := 833) (by decide +kernel), List.mem_of_getElem? (i := 1156) (by decide +kernel), List.mem_of_getElem? (i := 1157) (by decide +kernel)⟩
theorem lw_p62 : lw_okq (⟨"UsherRowsModel", "passes", "(I)I"⟩, 16) := ⟨⟨by decide +kernel, by decide +kernel⟩, List.mem_of_getElem? (i := 833) (by decide +kernel), List.mem_of_getElem? (i := 1160) (by decide +kernel), List.mem_of_getElem? (i := 1161) (by decide +kernel)⟩
theorem lw_p63 : lw_okq (⟨"UsherRowsModel", "clearAlike", "()V"⟩, 16) := ⟨⟨by decide +kernel, by decide +kernel⟩, List.mem_of_getElem? (i := 833) (by decide +kernel), List.mem_of_getElem? (i := 1168) (by decide +kernel), List.mem_of_getElem? (i := 1169) (by decide +kernel)⟩
def lw_privs_4 : List (MethodName × Nat) := [(⟨"UsherRowsModel", "readOut", "()V"⟩, 16), (⟨"UsherRowsModel", "readMinutes", "()V"⟩, 16), (⟨"UsherRowsModel", "no", "()I"⟩, 16), (⟨"UsherRowsModel", "isSoul", "(I)Z"⟩, 16), (⟨"UsherRowsModel", "keep", "()V"⟩, 16), (⟨"UsherRowsModel", "isOut", "(I)Z"⟩, 16), (⟨"UsherRowsModel", "badAs", "(I)I"⟩, 16), (⟨"UsherRowsModel", "layTried", "()I"⟩, 16), (⟨"UsherRowsModel", "layFresh", "()V"⟩, 16), (⟨"UsherRowsModel", "nextOrder", "(I)Z"⟩, 16), (⟨"UsherRowsModel", "isBound", "(I)Z"⟩, 16), (⟨"UsherRowsModel", "inStubOf", "(I)I"⟩, 16), (⟨"UsherRowsModel", "mayBe", "(II)Z"⟩, 16), (⟨"UsherRowsModel", "told", "(IIII)I"⟩, 16), (⟨"UsherRowsModel", "passes", "(I)I"⟩, 16), (⟨"UsherRowsModel", "clearAlike", "()V"⟩, 16)]
theorem lw_r4 : ∀ q ∈ lw_privs_4, lw_okq q := List.forall_mem_cons.mpr ⟨lw_p48, List.forall_mem_cons.mpr ⟨lw_p49, List.forall_mem_cons.mpr ⟨lw_p50, List.forall_mem_cons.mpr ⟨lw_p51, List.forall_mem_cons.mpr ⟨lw_p52, List.forall_mem_cons.mpr ⟨lw_p53, List.forall_mem_cons.mpr ⟨lw_p54, List.forall_mem_cons.mpr ⟨lw_p55, List.forall_mem_cons.mpr ⟨lw_p56, List.forall_mem_cons.mpr ⟨lw_p57, List.forall_mem_cons.mpr ⟨lw_p58, List.forall_mem_cons.mpr ⟨lw_p59, List.forall_mem_cons.mpr ⟨lw_p60, List.forall_mem_cons.mpr ⟨lw_p61, List.forall_mem_cons.mpr ⟨lw_p62, List.forall_mem_cons.mpr ⟨lw_p63, fun _ h => absurd h List.not_mem_nil⟩⟩⟩⟩⟩⟩⟩⟩⟩⟩⟩⟩⟩⟩⟩⟩
theorem lw_p64 : lw_okq (⟨"UsherRowsModel", "mostAlike", "()I"⟩, 16) := ⟨⟨by decide +kernel, by decide +kernel⟩, List.mem_of_getElem? (i := 833) (by decide +kernel), List.mem_of_getElem? (i := 1172) (by decide +kernel), List.mem_of_getElem? (i := 1173) (by decide +kernel)⟩
theorem lw_p65 : lw_okq (⟨"UsherRowsModel", "isBits", "(I)I"⟩, 16) := ⟨⟨by decide +kernel, by decide +kernel⟩, List.mem_of_getElem? (i := 833) (by decide +kernel), List.mem_of_getElem? (i := 1193) (by decide +kernel), List.mem_of_getElem? (i := 1194) (by decide +kernel)⟩
theorem lw_p66 : lw_okq (⟨"UsherRowsModel", "whatBits", "(I)I"⟩, 16) := ⟨⟨by decide +kernel, by decide +kernel⟩, List.mem_of_getElem? (i := 833) (by decide +kernel), List.mem_of_getElem? (i := 1205) (by decide +kernel), List.mem_of_getElem? (i := 1206) (by decide +kernel)⟩
theorem lw_p67 : lw_okq (⟨"UsherRowsModel", "has0", "(IIZZ)I"⟩, 16) := ⟨⟨by decide +kernel, by decide +kernel⟩, List.mem_of_getElem? (i := 833) (by decide +kernel), List.mem_of_getElem? (i := 1217) (by decide +kernel), List.mem_of_getElem? (i := 1218) (by decide +kernel)⟩
theorem lw_p68 : lw_okq (⟨"UsherRowsModel", "fraction", "(JJ)I"⟩, 16) := ⟨⟨by decide +kernel, by decide +kernel⟩, List.mem_of_getElem? (i := 833) (by decide +kernel), List.mem_of_getElem? (i := 1226) (by decide +kernel), List.mem_of_getElem? (i := 1227) (by decide +kernel)⟩
theorem lw_p69 : lw_okq (⟨"UsherRowsModel", "counted", "(I)I"⟩, 16) := ⟨⟨by decide +kernel, by decide +kernel⟩, List.mem_of_getElem? (i := 833) (by decide +kernel), List.mem_of_getElem? (i := 1264) (by decide +kernel), List.mem_of_getElem? (i := 1265) (by decide +kernel)⟩
theorem lw_p70 : lw_okq (⟨"UsherRowsModel", "digestOf", "(JII)J"⟩, 16) := ⟨⟨by decide +kernel, by decide +kernel⟩, List.mem_of_getElem? (i := 833) (by decide +kernel), List.mem_of_getElem? (i := 1274) (by decide +kernel), List.mem_of_getElem? (i := 1275) (by decide +kernel)⟩
def lw_privs_5 : List (MethodName × Nat) := [(⟨"UsherRowsModel", "mostAlike", "()I"⟩, 16), (⟨"UsherRowsModel", "isBits", "(I)I"⟩, 16), (⟨"UsherRowsModel", "whatBits", "(I)I"⟩, 16), (⟨"UsherRowsModel", "has0", "(IIZZ)I"⟩, 16), (⟨"UsherRowsModel", "fraction", "(JJ)I"⟩, 16), (⟨"UsherRowsModel", "counted", "(I)I"⟩, 16), (⟨"UsherRowsModel", "digestOf", "(JII)J"⟩, 16)]
theorem lw_r5 : ∀ q ∈ lw_privs_5, lw_okq q := List.forall_mem_cons.mpr ⟨lw_p64, List.forall_mem_cons.mpr ⟨lw_p65, List.forall_mem_cons.mpr ⟨lw_p66, List.forall_mem_cons.mpr ⟨lw_p67, List.forall_mem_cons.mpr ⟨lw_p68, List.forall_mem_cons.mpr ⟨lw_p69, List.forall_mem_cons.mpr ⟨lw_p70, fun _ h => absurd h List.not_mem_nil⟩⟩⟩⟩⟩⟩⟩
def lw_privs : List (MethodName × Nat) := lw_privs_1 ++ (lw_privs_2 ++ (lw_privs_3 ++ (lw_privs_4 ++ (lw_privs_5))))
def lw_tbl : List Cond := k2_sels lw_privs ++ tables_1
theorem lw_privs_ok : ∀ q ∈ lw_privs, lw_okq q := by
  show ∀ q ∈ lw_privs_1 ++ (lw_privs_2 ++ (lw_privs_3 ++ (lw_privs_4 ++ (lw_privs_5)))), lw_okq q
  exact List.forall_mem_append.mpr ⟨lw_r1, List.forall_mem_append.mpr ⟨lw_r2, List.forall_mem_append.mpr ⟨lw_r3, List.forall_mem_append.mpr ⟨lw_r4, lw_r5⟩⟩⟩⟩
end
section
def RX0 : String := "UsherRows$Hall"
def TX0 : u_T := fun k => match k with
  | 0 => ("UsherRows$Hall", "rowKinds", "[I", true)
  | 1 => ("UsherRows$Hall", "soulKinds", "[I", true)
  | 2 => ("UsherRows$Hall", "stubs", "[I", true)
  | 3 => ("UsherRows$Hall", "cells", "[I", true)
  | 4 => ("UsherRows$Hall", "souls", "I", false)
  | 5 => ("UsherRows$Hall", "coats", "I", false)
  | 6 => ("UsherRows$Hall", "minute", "I", false)
  | 7 => ("UsherRows$Hall", "fuss", "I", false)
  | 8 => ("UsherRows$Hall", "sightings", "LUsherRows$Table;", true)
  | 9 => ("UsherRows$Hall", "notes", "LUsherRows$Table;", true)
  | 10 => ("UsherRows$Hall", "marks", "LUsherRows$Table;", true)
  | _ => ("UsherRows$Hall", "past", "LUsherRows$Table;", true)
def tyX0 : Nat → FieldType := fun k => match k with
  | 0 => .array .int
  | 1 => .array .int
  | 2 => .array .int
  | 3 => .array .int
  | 4 => .int
  | 5 => .int
  | 6 => .int
  | 7 => .int
  | 8 => .object "UsherRows$Table"
  | 9 => .object "UsherRows$Table"
  | 10 => .object "UsherRows$Table"
  | _ => .object "UsherRows$Table"
abbrev wsX00 : List Cond := u_ws RX0 TX0 12
theorem nmX0 : ∀ a, a < 12 → ∀ b, b < 12 → a ≠ b → (TX0 a).2.1 ≠ (TX0 b).2.1 := by decide +kernel
theorem tyX0_ok : ∀ k, k < 12 → parseFieldDescriptor (TX0 k).2.2.1 = some (tyX0 k) := by decide +kernel
abbrev cX0_init : ByteArray := prog_2_method_1_code
def yX0_init : MethodName := ⟨RX0, "<init>", "()V"⟩
abbrev cX0_reset : ByteArray := prog_2_method_2_code
def yX0_reset : MethodName := ⟨RX0, "reset", "()V"⟩
abbrev cX0_takeFrom : ByteArray := prog_2_method_3_code
def yX0_takeFrom : MethodName := ⟨RX0, "takeFrom", "(LUsherRows$Hall;)V"⟩
abbrev cX0_addSoul : ByteArray := prog_2_method_4_code
def yX0_addSoul : MethodName := ⟨RX0, "addSoul", "(II)I"⟩
abbrev cX0_isSoul : ByteArray := prog_2_method_5_code
def yX0_isSoul : MethodName := ⟨RX0, "isSoul", "(I)Z"⟩
abbrev cX0_sits : ByteArray := prog_2_method_6_code
def yX0_sits : MethodName := ⟨RX0, "sits", "(I)Z"⟩
abbrev cX0_howManySit : ByteArray := prog_2_method_7_code
def yX0_howManySit : MethodName := ⟨RX0, "howManySit", "()I"⟩
abbrev cX0_sitterAt : ByteArray := prog_2_method_8_code
def yX0_sitterAt : MethodName := ⟨RX0, "sitterAt", "(I)I"⟩
abbrev cX0_hasCoat : ByteArray := prog_2_method_9_code
def yX0_hasCoat : MethodName := ⟨RX0, "hasCoat", "(I)Z"⟩
abbrev cX0_isFree : ByteArray := prog_2_method_10_code
def yX0_isFree : MethodName := ⟨RX0, "isFree", "(I)Z"⟩
abbrev cX0_kneesTo : ByteArray := prog_2_method_11_code
def yX0_kneesTo : MethodName := ⟨RX0, "kneesTo", "(I)I"⟩
abbrev cX0_sightFrom : ByteArray := prog_2_method_12_code
def yX0_sightFrom : MethodName := ⟨RX0, "sightFrom", "(I)I"⟩
abbrev cX0_fussTo : ByteArray := prog_2_method_13_code
def yX0_fussTo : MethodName := ⟨RX0, "fussTo", "(II)I"⟩
abbrev cX0_showIn : ByteArray := prog_2_method_14_code
def yX0_showIn : MethodName := ⟨RX0, "showIn", "(II)I"⟩
abbrev cX0_moveTo : ByteArray := prog_2_method_15_code
def yX0_moveTo : MethodName := ⟨RX0, "moveTo", "(II)I"⟩
abbrev cX0_sendOut : ByteArray := prog_2_method_16_code
def yX0_sendOut : MethodName := ⟨RX0, "sendOut", "(I)I"⟩
abbrev cX0_settle : ByteArray := prog_2_method_17_code
def yX0_settle : MethodName := ⟨RX0, "settle", "(I)I"⟩
abbrev cX0_liveThrough : ByteArray := prog_2_method_18_code
def yX0_liveThrough : MethodName := ⟨RX0, "liveThrough", "(II)I"⟩
abbrev cX0_remember : ByteArray := prog_2_method_19_code
def yX0_remember : MethodName := ⟨RX0, "remember", "()V"⟩
abbrev cX0_goBack : ByteArray := prog_2_method_20_code
def yX0_goBack : MethodName := ⟨RX0, "goBack", "()V"⟩
abbrev cX0_mixInto : ByteArray := prog_2_method_21_code
def yX0_mixInto : MethodName := ⟨RX0, "mixInto", "(J)J"⟩
def RX1 : String := "UsherRows$Kinds"
def TX1 : u_T := fun k => match k with
  | _ => ("", "", "", false)
def tyX1 : Nat → FieldType := fun k => match k with
  | _ => .int
abbrev wsX10 : List Cond := u_ws RX1 TX1 0
theorem nmX1 : ∀ a, a < 0 → ∀ b, b < 0 → a ≠ b → (TX1 a).2.1 ≠ (TX1 b).2.1 := by decide +kernel
theorem tyX1_ok : ∀ k, k < 0 → parseFieldDescriptor (TX1 k).2.2.1 = some (tyX1 k) := by decide +kernel
abbrev cX1_sight : ByteArray := prog_3_method_2_code
def yX1_sight : MethodName := ⟨RX1, "sight", "(II)I"⟩
abbrev cX1_fuss : ByteArray := prog_3_method_3_code
def yX1_fuss : MethodName := ⟨RX1, "fuss", "(III)I"⟩
def RX2 : String := "UsherRows$Muddle"
def TX2 : u_T := fun k => match k with
  | _ => ("", "", "", false)
def tyX2 : Nat → FieldType := fun k => match k with
  | _ => .int
abbrev wsX20 : List Cond := u_ws RX2 TX2 0
theorem nmX2 : ∀ a, a < 0 → ∀ b, b < 0 → a ≠ b → (TX2 a).2.1 ≠ (TX2 b).2.1 := by decide +kernel
theorem tyX2_ok : ∀ k, k < 0 → parseFieldDescriptor (TX2 k).2.2.1 = some (tyX2 k) := by decide +kernel
abbrev cX2_fewestSwaps : ByteArray := prog_4_method_2_code
def yX2_fewestSwaps : MethodName := ⟨RX2, "fewestSwaps", "(LUsherRows$Hall;)I"⟩
abbrev cX2_owns : ByteArray := prog_4_method_3_code
def yX2_owns : MethodName := ⟨RX2, "owns", "(LUsherRows$Hall;I)Z"⟩
abbrev cX2_leadsRing : ByteArray := prog_4_method_4_code
def yX2_leadsRing : MethodName := ⟨RX2, "leadsRing", "(LUsherRows$Hall;I)Z"⟩
def RX3 : String := "UsherRows$Plan"
def TX3 : u_T := fun k => match k with
  | 0 => ("UsherRows$Plan", "stillToCome", "[I", true)
  | _ => ("UsherRows$Plan", "all", "I", false)
def tyX3 : Nat → FieldType := fun k => match k with
  | 0 => .array .int
  | _ => .int
abbrev wsX30 : List Cond := u_ws RX3 TX3 2
theorem nmX3 : ∀ a, a < 2 → ∀ b, b < 2 → a ≠ b → (TX3 a).2.1 ≠ (TX3 b).2.1 := by decide +kernel
theorem tyX3_ok : ∀ k, k < 2 → parseFieldDescriptor (TX3 k).2.2.1 = some (tyX3 k) := by decide +kernel
abbrev cX3_init : ByteArray := prog_5_method_1_code
def yX3_init : MethodName := ⟨RX3, "<init>", "()V"⟩
abbrev cX3_prepare : ByteArray := prog_5_method_2_code
def yX3_prepare : MethodName := ⟨RX3, "prepare", "(LUsherRows$Hall;)V"⟩
abbrev cX3_size : ByteArray := prog_5_method_3_code
def yX3_size : MethodName := ⟨RX3, "size", "()I"⟩
abbrev cX3_leastFuss : ByteArray := prog_5_method_4_code
def yX3_leastFuss : MethodName := ⟨RX3, "leastFuss", "()I"⟩
abbrev cX3_whoComes : ByteArray := prog_5_method_5_code
def yX3_whoComes : MethodName := ⟨RX3, "whoComes", "(LUsherRows$Hall;I)I"⟩
abbrev cX3_whoCanCome : ByteArray := prog_5_method_6_code
def yX3_whoCanCome : MethodName := ⟨RX3, "whoCanCome", "(LUsherRows$Hall;)I"⟩
abbrev cX3_hasStub : ByteArray := prog_5_method_7_code
def yX3_hasStub : MethodName := ⟨RX3, "hasStub", "(LUsherRows$Hall;II)Z"⟩
abbrev cX3_leastBehind : ByteArray := prog_5_method_8_code
def yX3_leastBehind : MethodName := ⟨RX3, "leastBehind", "(LUsherRows$Hall;I)I"⟩
abbrev cX3_nextOf : ByteArray := prog_5_method_9_code
def yX3_nextOf : MethodName := ⟨RX3, "nextOf", "(LUsherRows$Hall;I)I"⟩
abbrev cX3_fussByWay : ByteArray := prog_5_method_10_code
def yX3_fussByWay : MethodName := ⟨RX3, "fussByWay", "(LUsherRows$Hall;II)I"⟩
abbrev cX3_kneesOf : ByteArray := prog_5_method_11_code
def yX3_kneesOf : MethodName := ⟨RX3, "kneesOf", "(LUsherRows$Hall;II)I"⟩
def RX4 : String := "UsherRows$Table"
def TX4 : u_T := fun k => match k with
  | 0 => ("UsherRows$Table", "limit", "I", true)
  | 1 => ("UsherRows$Table", "width", "I", true)
  | 2 => ("UsherRows$Table", "numbers", "[I", true)
  | _ => ("UsherRows$Table", "size", "I", false)
def tyX4 : Nat → FieldType := fun k => match k with
  | 0 => .int
  | 1 => .int
  | 2 => .array .int
  | _ => .int
abbrev wsX40 : List Cond := u_ws RX4 TX4 4
theorem nmX4 : ∀ a, a < 4 → ∀ b, b < 4 → a ≠ b → (TX4 a).2.1 ≠ (TX4 b).2.1 := by decide +kernel
theorem tyX4_ok : ∀ k, k < 4 → parseFieldDescriptor (TX4 k).2.2.1 = some (tyX4 k) := by decide +kernel
abbrev cX4_init : ByteArray := prog_6_method_1_code
def yX4_init : MethodName := ⟨RX4, "<init>", "(II)V"⟩
abbrev cX4_isFull : ByteArray := prog_6_method_2_code
def yX4_isFull : MethodName := ⟨RX4, "isFull", "()Z"⟩
abbrev cX4_empty : ByteArray := prog_6_method_3_code
def yX4_empty : MethodName := ⟨RX4, "empty", "()I"⟩
abbrev cX4_add : ByteArray := prog_6_method_4_code
def yX4_add : MethodName := ⟨RX4, "add", "(III)I"⟩
abbrev cX4_add_ : ByteArray := prog_6_method_5_code
def yX4_add_ : MethodName := ⟨RX4, "add", "(IIII)I"⟩
abbrev cX4_openRow : ByteArray := prog_6_method_6_code
def yX4_openRow : MethodName := ⟨RX4, "openRow", "()V"⟩
abbrev cX4_dropFirst : ByteArray := prog_6_method_7_code
def yX4_dropFirst : MethodName := ⟨RX4, "dropFirst", "()V"⟩
abbrev cX4_dropLast : ByteArray := prog_6_method_8_code
def yX4_dropLast : MethodName := ⟨RX4, "dropLast", "()V"⟩
abbrev cX4_put : ByteArray := prog_6_method_9_code
def yX4_put : MethodName := ⟨RX4, "put", "(II)V"⟩
abbrev cX4_at : ByteArray := prog_6_method_10_code
def yX4_at : MethodName := ⟨RX4, "at", "(II)I"⟩
abbrev cX4_takeFrom : ByteArray := prog_6_method_11_code
def yX4_takeFrom : MethodName := ⟨RX4, "takeFrom", "(LUsherRows$Table;)V"⟩
abbrev cX4_mixInto : ByteArray := prog_6_method_12_code
def yX4_mixInto : MethodName := ⟨RX4, "mixInto", "(J)J"⟩
def RX5 : String := "UsherRows$Tally"
def TX5 : u_T := fun k => match k with
  | 0 => ("UsherRows$Tally", "times", "[I", true)
  | _ => ("UsherRows$Tally", "most", "I", false)
def tyX5 : Nat → FieldType := fun k => match k with
  | 0 => .array .int
  | _ => .int
abbrev wsX50 : List Cond := u_ws RX5 TX5 2
theorem nmX5 : ∀ a, a < 2 → ∀ b, b < 2 → a ≠ b → (TX5 a).2.1 ≠ (TX5 b).2.1 := by decide +kernel
theorem tyX5_ok : ∀ k, k < 2 → parseFieldDescriptor (TX5 k).2.2.1 = some (tyX5 k) := by decide +kernel
abbrev cX5_init : ByteArray := prog_7_method_1_code
def yX5_init : MethodName := ⟨RX5, "<init>", "()V"⟩
abbrev cX5_reset : ByteArray := prog_7_method_2_code
def yX5_reset : MethodName := ⟨RX5, "reset", "()V"⟩
abbrev cX5_add : ByteArray := prog_7_method_3_code
def yX5_add : MethodName := ⟨RX5, "add", "(I)V"⟩
def RX6 : String := "UsherRows$Text"
def TX6 : u_T := fun k => match k with
  | 0 => ("UsherRows$Text", "hall", "LUsherRows$Hall;", true)
  | 1 => ("UsherRows$Text", "bytes", "[B", true)
  | 2 => ("UsherRows$Text", "length", "I", false)
  | 3 => ("UsherRows$Text", "token", "I", false)
  | 4 => ("UsherRows$Text", "start", "I", false)
  | 5 => ("UsherRows$Text", "next", "I", false)
  | _ => ("UsherRows$Text", "value", "I", false)
def tyX6 : Nat → FieldType := fun k => match k with
  | 0 => .object "UsherRows$Hall"
  | 1 => .array .byte
  | 2 => .int
  | 3 => .int
  | 4 => .int
  | 5 => .int
  | _ => .int
abbrev wsX60 : List Cond := u_ws RX6 TX6 7
theorem nmX6 : ∀ a, a < 7 → ∀ b, b < 7 → a ≠ b → (TX6 a).2.1 ≠ (TX6 b).2.1 := by decide +kernel
theorem tyX6_ok : ∀ k, k < 7 → parseFieldDescriptor (TX6 k).2.2.1 = some (tyX6 k) := by decide +kernel
abbrev cX6_init : ByteArray := prog_8_method_1_code
def yX6_init : MethodName := ⟨RX6, "<init>", "()V"⟩
abbrev cX6_isFull : ByteArray := prog_8_method_2_code
def yX6_isFull : MethodName := ⟨RX6, "isFull", "()Z"⟩
abbrev cX6_add : ByteArray := prog_8_method_3_code
def yX6_add : MethodName := ⟨RX6, "add", "(I)I"⟩
abbrev cX6_empty : ByteArray := prog_8_method_4_code
def yX6_empty : MethodName := ⟨RX6, "empty", "()I"⟩
abbrev cX6_readAll : ByteArray := prog_8_method_5_code
def yX6_readAll : MethodName := ⟨RX6, "readAll", "()I"⟩
abbrev cX6_readItem : ByteArray := prog_8_method_6_code
def yX6_readItem : MethodName := ⟨RX6, "readItem", "(Z)Z"⟩
abbrev cX6_readRowKinds : ByteArray := prog_8_method_7_code
def yX6_readRowKinds : MethodName := ⟨RX6, "readRowKinds", "()Z"⟩
abbrev cX6_readSoul : ByteArray := prog_8_method_8_code
def yX6_readSoul : MethodName := ⟨RX6, "readSoul", "()Z"⟩
abbrev cX6_readCoat : ByteArray := prog_8_method_9_code
def yX6_readCoat : MethodName := ⟨RX6, "readCoat", "()Z"⟩
abbrev cX6_readSit : ByteArray := prog_8_method_10_code
def yX6_readSit : MethodName := ⟨RX6, "readSit", "()Z"⟩
abbrev cX6_readOut : ByteArray := prog_8_method_11_code
def yX6_readOut : MethodName := ⟨RX6, "readOut", "()Z"⟩
abbrev cX6_readMinutes : ByteArray := prog_8_method_12_code
def yX6_readMinutes : MethodName := ⟨RX6, "readMinutes", "()Z"⟩
abbrev cX6_readNumber : ByteArray := prog_8_method_13_code
def yX6_readNumber : MethodName := ⟨RX6, "readNumber", "(II)Z"⟩
abbrev cX6_readStop : ByteArray := prog_8_method_14_code
def yX6_readStop : MethodName := ⟨RX6, "readStop", "()Z"⟩
abbrev cX6_advance : ByteArray := prog_8_method_15_code
def yX6_advance : MethodName := ⟨RX6, "advance", "()V"⟩
abbrev cX6_takeFigures : ByteArray := prog_8_method_16_code
def yX6_takeFigures : MethodName := ⟨RX6, "takeFigures", "()V"⟩
abbrev cX6_spells : ByteArray := prog_8_method_17_code
def yX6_spells : MethodName := ⟨RX6, "spells", "(Ljava/lang/String;)Z"⟩
abbrev cX6_isLetter : ByteArray := prog_8_method_18_code
def yX6_isLetter : MethodName := ⟨RX6, "isLetter", "(I)Z"⟩
abbrev cX6_isFigure : ByteArray := prog_8_method_19_code
def yX6_isFigure : MethodName := ⟨RX6, "isFigure", "(I)Z"⟩
def RX7 : String := "UsherRows"
def TX7 : u_T := fun k => match k with
  | 0 => ("UsherRows", "now", "LUsherRows$Hall;", true)
  | 1 => ("UsherRows", "trial", "LUsherRows$Hall;", true)
  | 2 => ("UsherRows", "images", "[LUsherRows$Hall;", true)
  | 3 => ("UsherRows", "kept", "[Z", true)
  | 4 => ("UsherRows", "text", "LUsherRows$Text;", true)
  | 5 => ("UsherRows", "plan", "LUsherRows$Plan;", true)
  | 6 => ("UsherRows", "tally", "LUsherRows$Tally;", true)
  | 7 => ("UsherRows", "above", "J", false)
  | 8 => ("UsherRows", "below", "J", false)
  | 9 => ("UsherRows", "badCalls", "I", false)
  | 10 => ("UsherRows", "noCalls", "I", false)
  | _ => ("UsherRows", "fullCalls", "I", false)
def tyX7 : Nat → FieldType := fun k => match k with
  | 0 => .object "UsherRows$Hall"
  | 1 => .object "UsherRows$Hall"
  | 2 => .array (.object "UsherRows$Hall")
  | 3 => .array .boolean
  | 4 => .object "UsherRows$Text"
  | 5 => .object "UsherRows$Plan"
  | 6 => .object "UsherRows$Tally"
  | 7 => .long
  | 8 => .long
  | 9 => .int
  | 10 => .int
  | _ => .int
abbrev wsX70 : List Cond := u_ws RX7 TX7 12
theorem nmX7 : ∀ a, a < 12 → ∀ b, b < 12 → a ≠ b → (TX7 a).2.1 ≠ (TX7 b).2.1 := by decide +kernel
theorem tyX7_ok : ∀ k, k < 12 → parseFieldDescriptor (TX7 k).2.2.1 = some (tyX7 k) := by decide +kernel
abbrev cX7_init : ByteArray := prog_1_method_1_code
def yX7_init : MethodName := ⟨RX7, "<init>", "()V"⟩
abbrev cX7_hall : ByteArray := prog_1_method_2_code
def yX7_hall : MethodName := ⟨RX7, "hall", "()I"⟩
abbrev cX7_row : ByteArray := prog_1_method_3_code
def yX7_row : MethodName := ⟨RX7, "row", "(II)I"⟩
abbrev cX7_soul : ByteArray := prog_1_method_4_code
def yX7_soul : MethodName := ⟨RX7, "soul", "(II)I"⟩
abbrev cX7_type : ByteArray := prog_1_method_5_code
def yX7_type : MethodName := ⟨RX7, "type", "(I)I"⟩
abbrev cX7_clear : ByteArray := prog_1_method_6_code
def yX7_clear : MethodName := ⟨RX7, "clear", "()I"⟩
abbrev cX7_read : ByteArray := prog_1_method_7_code
def yX7_read : MethodName := ⟨RX7, "read", "()I"⟩
abbrev cX7_shows : ByteArray := prog_1_method_8_code
def yX7_shows : MethodName := ⟨RX7, "shows", "(II)I"⟩
abbrev cX7_moves : ByteArray := prog_1_method_9_code
def yX7_moves : MethodName := ⟨RX7, "moves", "(II)I"⟩
abbrev cX7_sends : ByteArray := prog_1_method_10_code
def yX7_sends : MethodName := ⟨RX7, "sends", "(I)I"⟩
abbrev cX7_coat : ByteArray := prog_1_method_11_code
def yX7_coat : MethodName := ⟨RX7, "coat", "(II)I"⟩
abbrev cX7_minutes : ByteArray := prog_1_method_12_code
def yX7_minutes : MethodName := ⟨RX7, "minutes", "(I)I"⟩
abbrev cX7_undo : ByteArray := prog_1_method_13_code
def yX7_undo : MethodName := ⟨RX7, "undo", "()I"⟩
abbrev cX7_of : ByteArray := prog_1_method_14_code
def yX7_of : MethodName := ⟨RX7, "of", "(II)I"⟩
abbrev cX7_about : ByteArray := prog_1_method_15_code
def yX7_about : MethodName := ⟨RX7, "about", "(II)I"⟩
abbrev cX7_makes : ByteArray := prog_1_method_16_code
def yX7_makes : MethodName := ⟨RX7, "makes", "(II)I"⟩
abbrev cX7_order : ByteArray := prog_1_method_17_code
def yX7_order : MethodName := ⟨RX7, "order", "(I)I"⟩
abbrev cX7_best : ByteArray := prog_1_method_18_code
def yX7_best : MethodName := ⟨RX7, "best", "(II)I"⟩
abbrev cX7_beside : ByteArray := prog_1_method_19_code
def yX7_beside : MethodName := ⟨RX7, "beside", "(III)I"⟩
abbrev cX7_wrong : ByteArray := prog_1_method_20_code
def yX7_wrong : MethodName := ⟨RX7, "wrong", "()I"⟩
abbrev cX7_swaps : ByteArray := prog_1_method_21_code
def yX7_swaps : MethodName := ⟨RX7, "swaps", "()I"⟩
abbrev cX7_seen : ByteArray := prog_1_method_22_code
def yX7_seen : MethodName := ⟨RX7, "seen", "(III)I"⟩
abbrev cX7_where : ByteArray := prog_1_method_23_code
def yX7_where : MethodName := ⟨RX7, "where", "(II)I"⟩
abbrev cX7_tell : ByteArray := prog_1_method_24_code
def yX7_tell : MethodName := ⟨RX7, "tell", "(I)I"⟩
abbrev cX7_note : ByteArray := prog_1_method_25_code
def yX7_note : MethodName := ⟨RX7, "note", "(III)I"⟩
abbrev cX7_mark : ByteArray := prog_1_method_26_code
def yX7_mark : MethodName := ⟨RX7, "mark", "(IIII)I"⟩
abbrev cX7_forget : ByteArray := prog_1_method_27_code
def yX7_forget : MethodName := ⟨RX7, "forget", "(I)I"⟩
abbrev cX7_is : ByteArray := prog_1_method_28_code
def yX7_is : MethodName := ⟨RX7, "is", "(I)I"⟩
abbrev cX7_look : ByteArray := prog_1_method_29_code
def yX7_look : MethodName := ⟨RX7, "look", "(I)I"⟩
abbrev cX7_kinds : ByteArray := prog_1_method_30_code
def yX7_kinds : MethodName := ⟨RX7, "kinds", "(I)I"⟩
abbrev cX7_ask : ByteArray := prog_1_method_31_code
def yX7_ask : MethodName := ⟨RX7, "ask", "(I)I"⟩
abbrev cX7_whispers : ByteArray := prog_1_method_32_code
def yX7_whispers : MethodName := ⟨RX7, "whispers", "(III)I"⟩
abbrev cX7_wet : ByteArray := prog_1_method_33_code
def yX7_wet : MethodName := ⟨RX7, "wet", "(II)I"⟩
abbrev cX7_evenings : ByteArray := prog_1_method_34_code
def yX7_evenings : MethodName := ⟨RX7, "evenings", "(II)I"⟩
abbrev cX7_part : ByteArray := prog_1_method_35_code
def yX7_part : MethodName := ⟨RX7, "part", "(I)J"⟩
abbrev cX7_image : ByteArray := prog_1_method_36_code
def yX7_image : MethodName := ⟨RX7, "image", "(I)I"⟩
abbrev cX7_from : ByteArray := prog_1_method_37_code
def yX7_from : MethodName := ⟨RX7, "from", "(I)I"⟩
abbrev cX7_status : ByteArray := prog_1_method_38_code
def yX7_status : MethodName := ⟨RX7, "status", "(I)I"⟩
abbrev cX7_count : ByteArray := prog_1_method_39_code
def yX7_count : MethodName := ⟨RX7, "count", "(I)I"⟩
abbrev cX7_digest : ByteArray := prog_1_method_40_code
def yX7_digest : MethodName := ⟨RX7, "digest", "()J"⟩
abbrev cX7_within : ByteArray := prog_1_method_41_code
def yX7_within : MethodName := ⟨RX7, "within", "(II)Z"⟩
abbrev cX7_has : ByteArray := prog_1_method_42_code
def yX7_has : MethodName := ⟨RX7, "has", "(II)Z"⟩
abbrev cX7_refuseBad : ByteArray := prog_1_method_43_code
def yX7_refuseBad : MethodName := ⟨RX7, "refuseBad", "(I)I"⟩
abbrev cX7_refuseNo : ByteArray := prog_1_method_44_code
def yX7_refuseNo : MethodName := ⟨RX7, "refuseNo", "(I)I"⟩
abbrev cX7_refuseFull : ByteArray := prog_1_method_45_code
def yX7_refuseFull : MethodName := ⟨RX7, "refuseFull", "()I"⟩
abbrev cX7_howMany : ByteArray := prog_1_method_46_code
def yX7_howMany : MethodName := ⟨RX7, "howMany", "(I)I"⟩
abbrev cX7_worth : ByteArray := prog_1_method_47_code
def yX7_worth : MethodName := ⟨RX7, "worth", "(II)I"⟩
abbrev cX7_bestCell : ByteArray := prog_1_method_48_code
def yX7_bestCell : MethodName := ⟨RX7, "bestCell", "(I)I"⟩
abbrev cX7_firstPlaceBeside : ByteArray := prog_1_method_49_code
def yX7_firstPlaceBeside : MethodName := ⟨RX7, "firstPlaceBeside", "(II)I"⟩
abbrev cX7_areFreeNeighbours : ByteArray := prog_1_method_50_code
def yX7_areFreeNeighbours : MethodName := ⟨RX7, "areFreeNeighbours", "(II)Z"⟩
abbrev cX7_fussBeside : ByteArray := prog_1_method_51_code
def yX7_fussBeside : MethodName := ⟨RX7, "fussBeside", "(IIII)I"⟩
abbrev cX7_cellsThatFit : ByteArray := prog_1_method_52_code
def yX7_cellsThatFit : MethodName := ⟨RX7, "cellsThatFit", "(I)I"⟩
abbrev cX7_fitsSightings : ByteArray := prog_1_method_53_code
def yX7_fitsSightings : MethodName := ⟨RX7, "fitsSightings", "(II)Z"⟩
abbrev cX7_mostCellsAlike : ByteArray := prog_1_method_54_code
def yX7_mostCellsAlike : MethodName := ⟨RX7, "mostCellsAlike", "(III)I"⟩
abbrev cX7_rowKindsThatFit : ByteArray := prog_1_method_55_code
def yX7_rowKindsThatFit : MethodName := ⟨RX7, "rowKindsThatFit", "(I)I"⟩
abbrev cX7_fitsNotes : ByteArray := prog_1_method_56_code
def yX7_fitsNotes : MethodName := ⟨RX7, "fitsNotes", "(II)Z"⟩
abbrev cX7_mostRowKindsAlike : ByteArray := prog_1_method_57_code
def yX7_mostRowKindsAlike : MethodName := ⟨RX7, "mostRowKindsAlike", "(II)I"⟩
abbrev cX7_soulKindsThatFit : ByteArray := prog_1_method_58_code
def yX7_soulKindsThatFit : MethodName := ⟨RX7, "soulKindsThatFit", "(I)I"⟩
abbrev cX7_fitsMarks : ByteArray := prog_1_method_59_code
def yX7_fitsMarks : MethodName := ⟨RX7, "fitsMarks", "(II)Z"⟩
abbrev cX7_mostSoulKindsAlike : ByteArray := prog_1_method_60_code
def yX7_mostSoulKindsAlike : MethodName := ⟨RX7, "mostSoulKindsAlike", "(III)I"⟩
abbrev cX7_setTenths : ByteArray := prog_1_method_61_code
def yX7_setTenths : MethodName := ⟨RX7, "setTenths", "(I)V"⟩
def RX8 : String := "UsherRowsModel"
def TX8 : u_T := fun k => match k with
  | 0 => ("UsherRowsModel", "now", "[I", true)
  | 1 => ("UsherRowsModel", "fresh", "[I", true)
  | 2 => ("UsherRowsModel", "images", "[I", true)
  | 3 => ("UsherRowsModel", "isKept", "[Z", true)
  | 4 => ("UsherRowsModel", "above", "J", false)
  | 5 => ("UsherRowsModel", "below", "J", false)
  | 6 => ("UsherRowsModel", "refusals", "[I", true)
  | 7 => ("UsherRowsModel", "text", "[I", true)
  | 8 => ("UsherRowsModel", "letters", "I", false)
  | 9 => ("UsherRowsModel", "at", "I", false)
  | 10 => ("UsherRowsModel", "fault", "I", false)
  | 11 => ("UsherRowsModel", "token", "I", false)
  | 12 => ("UsherRowsModel", "start", "I", false)
  | 13 => ("UsherRowsModel", "tried", "[I", true)
  | 14 => ("UsherRowsModel", "best", "[I", true)
  | _ => ("UsherRowsModel", "alike", "[I", true)
def tyX8 : Nat → FieldType := fun k => match k with
  | 0 => .array .int
  | 1 => .array .int
  | 2 => .array .int
  | 3 => .array .boolean
  | 4 => .long
  | 5 => .long
  | 6 => .array .int
  | 7 => .array .int
  | 8 => .int
  | 9 => .int
  | 10 => .int
  | 11 => .int
  | 12 => .int
  | 13 => .array .int
  | 14 => .array .int
  | _ => .array .int
abbrev wsX80 : List Cond := u_ws RX8 TX8 16
theorem nmX8 : ∀ a, a < 16 → ∀ b, b < 16 → a ≠ b → (TX8 a).2.1 ≠ (TX8 b).2.1 := by decide +kernel
theorem tyX8_ok : ∀ k, k < 16 → parseFieldDescriptor (TX8 k).2.2.1 = some (tyX8 k) := by decide +kernel
abbrev cX8_init : ByteArray := prog_10_method_1_code
def yX8_init : MethodName := ⟨RX8, "<init>", "()V"⟩
abbrev cX8_in : ByteArray := prog_10_method_3_code
def yX8_in : MethodName := ⟨RX8, "in", "(JJJ)Z"⟩
abbrev cX8_bad : ByteArray := prog_10_method_4_code
def yX8_bad : MethodName := ⟨RX8, "bad", "()I"⟩
abbrev cX8_badAs : ByteArray := prog_10_method_5_code
def yX8_badAs : MethodName := ⟨RX8, "badAs", "(I)I"⟩
abbrev cX8_no : ByteArray := prog_10_method_6_code
def yX8_no : MethodName := ⟨RX8, "no", "()I"⟩
abbrev cX8_full : ByteArray := prog_10_method_7_code
def yX8_full : MethodName := ⟨RX8, "full", "()I"⟩
abbrev cX8_isSoul : ByteArray := prog_10_method_8_code
def yX8_isSoul : MethodName := ⟨RX8, "isSoul", "(I)Z"⟩
abbrev cX8_isCell : ByteArray := prog_10_method_9_code
def yX8_isCell : MethodName := ⟨RX8, "isCell", "(I)Z"⟩
abbrev cX8_has : ByteArray := prog_10_method_10_code
def yX8_has : MethodName := ⟨RX8, "has", "(II)Z"⟩
abbrev cX8_fraction : ByteArray := prog_10_method_11_code
def yX8_fraction : MethodName := ⟨RX8, "fraction", "(JJ)I"⟩
abbrev cX8_seesBy : ByteArray := prog_10_method_12_code
def yX8_seesBy : MethodName := ⟨RX8, "seesBy", "(II)I"⟩
abbrev cX8_fussBy : ByteArray := prog_10_method_13_code
def yX8_fussBy : MethodName := ⟨RX8, "fussBy", "(III)I"⟩
abbrev cX8_soulOf : ByteArray := prog_10_method_14_code
def yX8_soulOf : MethodName := ⟨RX8, "soulOf", "([III)I"⟩
abbrev cX8_cellOf : ByteArray := prog_10_method_15_code
def yX8_cellOf : MethodName := ⟨RX8, "cellOf", "([II)I"⟩
abbrev cX8_sits : ByteArray := prog_10_method_16_code
def yX8_sits : MethodName := ⟨RX8, "sits", "([III)V"⟩
abbrev cX8_whoSits : ByteArray := prog_10_method_17_code
def yX8_whoSits : MethodName := ⟨RX8, "whoSits", "([II)I"⟩
abbrev cX8_isFree : ByteArray := prog_10_method_18_code
def yX8_isFree : MethodName := ⟨RX8, "isFree", "([II)Z"⟩
abbrev cX8_knees : ByteArray := prog_10_method_19_code
def yX8_knees : MethodName := ⟨RX8, "knees", "([III)I"⟩
abbrev cX8_makesBy : ByteArray := prog_10_method_20_code
def yX8_makesBy : MethodName := ⟨RX8, "makesBy", "([III)I"⟩
abbrev cX8_seesFrom : ByteArray := prog_10_method_21_code
def yX8_seesFrom : MethodName := ⟨RX8, "seesFrom", "([II)I"⟩
abbrev cX8_fusses : ByteArray := prog_10_method_22_code
def yX8_fusses : MethodName := ⟨RX8, "fusses", "([II)V"⟩
abbrev cX8_goes : ByteArray := prog_10_method_23_code
def yX8_goes : MethodName := ⟨RX8, "goes", "([III)I"⟩
abbrev cX8_empty : ByteArray := prog_10_method_24_code
def yX8_empty : MethodName := ⟨RX8, "empty", "([I)V"⟩
abbrev cX8_layFresh : ByteArray := prog_10_method_25_code
def yX8_layFresh : MethodName := ⟨RX8, "layFresh", "()V"⟩
abbrev cX8_hall : ByteArray := prog_10_method_26_code
def yX8_hall : MethodName := ⟨RX8, "hall", "()I"⟩
abbrev cX8_row : ByteArray := prog_10_method_27_code
def yX8_row : MethodName := ⟨RX8, "row", "(II)I"⟩
abbrev cX8_comes : ByteArray := prog_10_method_28_code
def yX8_comes : MethodName := ⟨RX8, "comes", "([III)V"⟩
abbrev cX8_soul : ByteArray := prog_10_method_29_code
def yX8_soul : MethodName := ⟨RX8, "soul", "(II)I"⟩
abbrev cX8_type : ByteArray := prog_10_method_30_code
def yX8_type : MethodName := ⟨RX8, "type", "(I)I"⟩
abbrev cX8_clear : ByteArray := prog_10_method_31_code
def yX8_clear : MethodName := ⟨RX8, "clear", "()I"⟩
abbrev cX8_isFigure : ByteArray := prog_10_method_32_code
def yX8_isFigure : MethodName := ⟨RX8, "isFigure", "(I)Z"⟩
abbrev cX8_isLetter : ByteArray := prog_10_method_33_code
def yX8_isLetter : MethodName := ⟨RX8, "isLetter", "(I)Z"⟩
abbrev cX8_wordBy : ByteArray := prog_10_method_34_code
def yX8_wordBy : MethodName := ⟨RX8, "wordBy", "(I)I"⟩
abbrev cX8_next : ByteArray := prog_10_method_35_code
def yX8_next : MethodName := ⟨RX8, "next", "()V"⟩
abbrev cX8_must : ByteArray := prog_10_method_36_code
def yX8_must : MethodName := ⟨RX8, "must", "(Z)V"⟩
abbrev cX8_goOnReading : ByteArray := prog_10_method_37_code
def yX8_goOnReading : MethodName := ⟨RX8, "goOnReading", "()V"⟩
abbrev cX8_number : ByteArray := prog_10_method_38_code
def yX8_number : MethodName := ⟨RX8, "number", "(II)I"⟩
abbrev cX8_end : ByteArray := prog_10_method_39_code
def yX8_end : MethodName := ⟨RX8, "end", "()V"⟩
abbrev cX8_readSoul : ByteArray := prog_10_method_40_code
def yX8_readSoul : MethodName := ⟨RX8, "readSoul", "()V"⟩
abbrev cX8_freeCell : ByteArray := prog_10_method_41_code
def yX8_freeCell : MethodName := ⟨RX8, "freeCell", "()I"⟩
abbrev cX8_readCoat : ByteArray := prog_10_method_42_code
def yX8_readCoat : MethodName := ⟨RX8, "readCoat", "()V"⟩
abbrev cX8_soulThat : ByteArray := prog_10_method_43_code
def yX8_soulThat : MethodName := ⟨RX8, "soulThat", "(Z)I"⟩
abbrev cX8_readSit : ByteArray := prog_10_method_44_code
def yX8_readSit : MethodName := ⟨RX8, "readSit", "()V"⟩
abbrev cX8_readOut : ByteArray := prog_10_method_45_code
def yX8_readOut : MethodName := ⟨RX8, "readOut", "()V"⟩
abbrev cX8_readMinutes : ByteArray := prog_10_method_46_code
def yX8_readMinutes : MethodName := ⟨RX8, "readMinutes", "()V"⟩
abbrev cX8_read : ByteArray := prog_10_method_47_code
def yX8_read : MethodName := ⟨RX8, "read", "()I"⟩
abbrev cX8_keep : ByteArray := prog_10_method_48_code
def yX8_keep : MethodName := ⟨RX8, "keep", "()V"⟩
abbrev cX8_undo : ByteArray := prog_10_method_49_code
def yX8_undo : MethodName := ⟨RX8, "undo", "()I"⟩
abbrev cX8_shows : ByteArray := prog_10_method_50_code
def yX8_shows : MethodName := ⟨RX8, "shows", "(II)I"⟩
abbrev cX8_moves : ByteArray := prog_10_method_51_code
def yX8_moves : MethodName := ⟨RX8, "moves", "(II)I"⟩
abbrev cX8_sends : ByteArray := prog_10_method_52_code
def yX8_sends : MethodName := ⟨RX8, "sends", "(I)I"⟩
abbrev cX8_coat : ByteArray := prog_10_method_53_code
def yX8_coat : MethodName := ⟨RX8, "coat", "(II)I"⟩
abbrev cX8_minutes : ByteArray := prog_10_method_54_code
def yX8_minutes : MethodName := ⟨RX8, "minutes", "(I)I"⟩
abbrev cX8_of : ByteArray := prog_10_method_55_code
def yX8_of : MethodName := ⟨RX8, "of", "(II)I"⟩
abbrev cX8_about : ByteArray := prog_10_method_56_code
def yX8_about : MethodName := ⟨RX8, "about", "(II)I"⟩
abbrev cX8_isOut : ByteArray := prog_10_method_57_code
def yX8_isOut : MethodName := ⟨RX8, "isOut", "(I)Z"⟩
abbrev cX8_makes : ByteArray := prog_10_method_58_code
def yX8_makes : MethodName := ⟨RX8, "makes", "(II)I"⟩
abbrev cX8_nextOrder : ByteArray := prog_10_method_59_code
def yX8_nextOrder : MethodName := ⟨RX8, "nextOrder", "(I)Z"⟩
abbrev cX8_layTried : ByteArray := prog_10_method_60_code
def yX8_layTried : MethodName := ⟨RX8, "layTried", "()I"⟩
abbrev cX8_order : ByteArray := prog_10_method_61_code
def yX8_order : MethodName := ⟨RX8, "order", "(I)I"⟩
abbrev cX8_best : ByteArray := prog_10_method_62_code
def yX8_best : MethodName := ⟨RX8, "best", "(II)I"⟩
abbrev cX8_beside : ByteArray := prog_10_method_63_code
def yX8_beside : MethodName := ⟨RX8, "beside", "(III)I"⟩
abbrev cX8_wrong : ByteArray := prog_10_method_64_code
def yX8_wrong : MethodName := ⟨RX8, "wrong", "()I"⟩
abbrev cX8_isBound : ByteArray := prog_10_method_65_code
def yX8_isBound : MethodName := ⟨RX8, "isBound", "(I)Z"⟩
abbrev cX8_inStubOf : ByteArray := prog_10_method_66_code
def yX8_inStubOf : MethodName := ⟨RX8, "inStubOf", "(I)I"⟩
abbrev cX8_swaps : ByteArray := prog_10_method_67_code
def yX8_swaps : MethodName := ⟨RX8, "swaps", "()I"⟩
abbrev cX8_comesRow : ByteArray := prog_10_method_68_code
def yX8_comesRow : MethodName := ⟨RX8, "comesRow", "([IIIIIII)V"⟩
abbrev cX8_told : ByteArray := prog_10_method_69_code
def yX8_told : MethodName := ⟨RX8, "told", "(IIII)I"⟩
abbrev cX8_seen : ByteArray := prog_10_method_70_code
def yX8_seen : MethodName := ⟨RX8, "seen", "(III)I"⟩
abbrev cX8_passes : ByteArray := prog_10_method_71_code
def yX8_passes : MethodName := ⟨RX8, "passes", "(I)I"⟩
abbrev cX8_mayBe : ByteArray := prog_10_method_72_code
def yX8_mayBe : MethodName := ⟨RX8, "mayBe", "(II)Z"⟩
abbrev cX8_where : ByteArray := prog_10_method_73_code
def yX8_where : MethodName := ⟨RX8, "where", "(II)I"⟩
abbrev cX8_clearAlike : ByteArray := prog_10_method_74_code
def yX8_clearAlike : MethodName := ⟨RX8, "clearAlike", "()V"⟩
abbrev cX8_mostAlike : ByteArray := prog_10_method_75_code
def yX8_mostAlike : MethodName := ⟨RX8, "mostAlike", "()I"⟩
abbrev cX8_tell : ByteArray := prog_10_method_76_code
def yX8_tell : MethodName := ⟨RX8, "tell", "(I)I"⟩
abbrev cX8_note : ByteArray := prog_10_method_77_code
def yX8_note : MethodName := ⟨RX8, "note", "(III)I"⟩
abbrev cX8_mark : ByteArray := prog_10_method_78_code
def yX8_mark : MethodName := ⟨RX8, "mark", "(IIII)I"⟩
abbrev cX8_forget : ByteArray := prog_10_method_79_code
def yX8_forget : MethodName := ⟨RX8, "forget", "(I)I"⟩
abbrev cX8_isBits : ByteArray := prog_10_method_80_code
def yX8_isBits : MethodName := ⟨RX8, "isBits", "(I)I"⟩
abbrev cX8_is : ByteArray := prog_10_method_81_code
def yX8_is : MethodName := ⟨RX8, "is", "(I)I"⟩
abbrev cX8_look : ByteArray := prog_10_method_82_code
def yX8_look : MethodName := ⟨RX8, "look", "(I)I"⟩
abbrev cX8_whatBits : ByteArray := prog_10_method_83_code
def yX8_whatBits : MethodName := ⟨RX8, "whatBits", "(I)I"⟩
abbrev cX8_kinds : ByteArray := prog_10_method_84_code
def yX8_kinds : MethodName := ⟨RX8, "kinds", "(I)I"⟩
abbrev cX8_ask : ByteArray := prog_10_method_85_code
def yX8_ask : MethodName := ⟨RX8, "ask", "(I)I"⟩
abbrev cX8_has0 : ByteArray := prog_10_method_86_code
def yX8_has0 : MethodName := ⟨RX8, "has0", "(IIZZ)I"⟩
abbrev cX8_whispers : ByteArray := prog_10_method_87_code
def yX8_whispers : MethodName := ⟨RX8, "whispers", "(III)I"⟩
abbrev cX8_wet : ByteArray := prog_10_method_88_code
def yX8_wet : MethodName := ⟨RX8, "wet", "(II)I"⟩
abbrev cX8_evenings : ByteArray := prog_10_method_89_code
def yX8_evenings : MethodName := ⟨RX8, "evenings", "(II)I"⟩
abbrev cX8_part : ByteArray := prog_10_method_90_code
def yX8_part : MethodName := ⟨RX8, "part", "(I)J"⟩
abbrev cX8_image : ByteArray := prog_10_method_91_code
def yX8_image : MethodName := ⟨RX8, "image", "(I)I"⟩
abbrev cX8_from : ByteArray := prog_10_method_92_code
def yX8_from : MethodName := ⟨RX8, "from", "(I)I"⟩
abbrev cX8_status : ByteArray := prog_10_method_93_code
def yX8_status : MethodName := ⟨RX8, "status", "(I)I"⟩
abbrev cX8_counted : ByteArray := prog_10_method_94_code
def yX8_counted : MethodName := ⟨RX8, "counted", "(I)I"⟩
abbrev cX8_count : ByteArray := prog_10_method_95_code
def yX8_count : MethodName := ⟨RX8, "count", "(I)I"⟩
abbrev cX8_digestOf : ByteArray := prog_10_method_96_code
def yX8_digestOf : MethodName := ⟨RX8, "digestOf", "(JII)J"⟩
abbrev cX8_digest : ByteArray := prog_10_method_97_code
def yX8_digest : MethodName := ⟨RX8, "digest", "()J"⟩
def RJ6 : String := "java/lang/Integer"
def TJ6 : u_T := fun k => match k with
  | _ => ("", "", "", false)
def tyJ6 : Nat → FieldType := fun k => match k with
  | _ => .int
abbrev wsJ60 : List Cond := u_ws RJ6 TJ6 0
theorem nmJ6 : ∀ a, a < 0 → ∀ b, b < 0 → a ≠ b → (TJ6 a).2.1 ≠ (TJ6 b).2.1 := by decide +kernel
theorem tyJ6_ok : ∀ k, k < 0 → parseFieldDescriptor (TJ6 k).2.2.1 = some (tyJ6 k) := by decide +kernel
abbrev cJ6_bitCount_0f7a4 : ByteArray := prog_11_method_49_code
def yJ6_bitCount_0f7a4 : MethodName := ⟨RJ6, "bitCount", "(I)I"⟩
def RJ9 : String := "java/lang/Math"
def TJ9 : u_T := fun k => match k with
  | _ => ("", "", "", false)
def tyJ9 : Nat → FieldType := fun k => match k with
  | _ => .int
abbrev wsJ90 : List Cond := u_ws RJ9 TJ9 0
theorem nmJ9 : ∀ a, a < 0 → ∀ b, b < 0 → a ≠ b → (TJ9 a).2.1 ≠ (TJ9 b).2.1 := by decide +kernel
theorem tyJ9_ok : ∀ k, k < 0 → parseFieldDescriptor (TJ9 k).2.2.1 = some (tyJ9 k) := by decide +kernel
abbrev cJ9_abs_0f7a4 : ByteArray := prog_12_method_59_code
def yJ9_abs_0f7a4 : MethodName := ⟨RJ9, "abs", "(I)I"⟩
abbrev cJ9_max_7cf53 : ByteArray := prog_12_method_65_code
def yJ9_max_7cf53 : MethodName := ⟨RJ9, "max", "(II)I"⟩
abbrev cJ9_min_7cf53 : ByteArray := prog_12_method_69_code
def yJ9_min_7cf53 : MethodName := ⟨RJ9, "min", "(II)I"⟩
def RJ0 : String := "java/lang/String"
def TJ0 : u_T := fun k => match k with
  | _ => ("", "", "", false)
def tyJ0 : Nat → FieldType := fun k => match k with
  | _ => .int
abbrev wsJ00 : List Cond := u_ws RJ0 TJ0 0
theorem nmJ0 : ∀ a, a < 0 → ∀ b, b < 0 → a ≠ b → (TJ0 a).2.1 ≠ (TJ0 b).2.1 := by decide +kernel
theorem tyJ0_ok : ∀ k, k < 0 → parseFieldDescriptor (TJ0 k).2.2.1 = some (tyJ0 k) := by decide +kernel
abbrev cJ0_length_8abf5 : ByteArray := prog_13_method_54_code
def yJ0_length_8abf5 : MethodName := ⟨RJ0, "length", "()I"⟩
abbrev cJ0_charAt_5068e : ByteArray := prog_13_method_56_code
def yJ0_charAt_5068e : MethodName := ⟨RJ0, "charAt", "(I)C"⟩
abbrev cJ0_coder_7d493 : ByteArray := prog_13_method_152_code
def yJ0_coder_7d493 : MethodName := ⟨RJ0, "coder", "()B"⟩
abbrev cJ0_isLatin1_aae02 : ByteArray := prog_13_method_154_code
def yJ0_isLatin1_aae02 : MethodName := ⟨RJ0, "isLatin1", "()Z"⟩
abbrev cJ0_checkIndex_df160 : ByteArray := prog_13_method_155_code
def yJ0_checkIndex_df160 : MethodName := ⟨RJ0, "checkIndex", "(II)V"⟩
def RJ1 : String := "java/lang/StringLatin1"
def TJ1 : u_T := fun k => match k with
  | _ => ("", "", "", false)
def tyJ1 : Nat → FieldType := fun k => match k with
  | _ => .int
abbrev wsJ10 : List Cond := u_ws RJ1 TJ1 0
theorem nmJ1 : ∀ a, a < 0 → ∀ b, b < 0 → a ≠ b → (TJ1 a).2.1 ≠ (TJ1 b).2.1 := by decide +kernel
theorem tyJ1_ok : ∀ k, k < 0 → parseFieldDescriptor (TJ1 k).2.2.1 = some (tyJ1 k) := by decide +kernel
abbrev cJ1_charAt_3b067 : ByteArray := prog_14_method_2_code
def yJ1_charAt_3b067 : MethodName := ⟨RJ1, "charAt", "([BI)C"⟩
def RJ2 : String := "java/lang/StringUTF16"
def TJ2 : u_T := fun k => match k with
  | _ => ("", "", "", false)
def tyJ2 : Nat → FieldType := fun k => match k with
  | _ => .int
abbrev wsJ20 : List Cond := u_ws RJ2 TJ2 0
theorem nmJ2 : ∀ a, a < 0 → ∀ b, b < 0 → a ≠ b → (TJ2 a).2.1 ≠ (TJ2 b).2.1 := by decide +kernel
theorem tyJ2_ok : ∀ k, k < 0 → parseFieldDescriptor (TJ2 k).2.2.1 = some (tyJ2 k) := by decide +kernel
abbrev cJ2_getChar_3b067 : ByteArray := prog_15_method_5_code
def yJ2_getChar_3b067 : MethodName := ⟨RJ2, "getChar", "([BI)C"⟩
abbrev cJ2_length_9d52b : ByteArray := prog_15_method_6_code
def yJ2_length_9d52b : MethodName := ⟨RJ2, "length", "([B)I"⟩
abbrev cJ2_charAt_3b067 : ByteArray := prog_15_method_83_code
def yJ2_charAt_3b067 : MethodName := ⟨RJ2, "charAt", "([BI)C"⟩
abbrev cJ2_checkIndex_2214a : ByteArray := prog_15_method_91_code
def yJ2_checkIndex_2214a : MethodName := ⟨RJ2, "checkIndex", "(I[B)V"⟩
def RJ10 : String := "java/lang/System"
def TJ10 : u_T := fun k => match k with
  | _ => ("", "", "", false)
def tyJ10 : Nat → FieldType := fun k => match k with
  | _ => .int
abbrev wsJ100 : List Cond := u_ws RJ10 TJ10 0
theorem nmJ10 : ∀ a, a < 0 → ∀ b, b < 0 → a ≠ b → (TJ10 a).2.1 ≠ (TJ10 b).2.1 := by decide +kernel
theorem tyJ10_ok : ∀ k, k < 0 → parseFieldDescriptor (TJ10 k).2.2.1 = some (tyJ10 k) := by decide +kernel
def RJ3 : String := "jdk/internal/util/Preconditions"
def TJ3 : u_T := fun k => match k with
  | _ => ("", "", "", false)
def tyJ3 : Nat → FieldType := fun k => match k with
  | _ => .int
abbrev wsJ30 : List Cond := u_ws RJ3 TJ3 0
theorem nmJ3 : ∀ a, a < 0 → ∀ b, b < 0 → a ≠ b → (TJ3 a).2.1 ≠ (TJ3 b).2.1 := by decide +kernel
theorem tyJ3_ok : ∀ k, k < 0 → parseFieldDescriptor (TJ3 k).2.2.1 = some (tyJ3 k) := by decide +kernel
abbrev cJ3_checkIndex_8e157 : ByteArray := prog_17_method_11_code
def yJ3_checkIndex_8e157 : MethodName := ⟨RJ3, "checkIndex", "(IILjava/util/function/BiFunction;)I"⟩
def RL : String := "UsherRowsLaw"
abbrev cL_law : ByteArray := code
def yL_law : MethodName := ⟨RL, "law", "([I)Z"⟩
abbrev vwCl : List vw_C := [(RX0, TX0, 12), (RX3, TX3, 2), (RX4, TX4, 4), (RX5, TX5, 2), (RX6, TX6, 7), (RX7, TX7, 12), (RX8, TX8, 16)]
end
section
theorem dJ0_length_8abf5_0 : decode cJ0_length_8abf5 0 = .ok (.aload_n 0, 1) := by decide +kernel
theorem dJ0_length_8abf5_1 : decode cJ0_length_8abf5 1 = .ok (.getfield 9, 3) := by decide +kernel
theorem dJ0_length_8abf5_4 : decode cJ0_length_8abf5 4 = .ok (.arraylength, 1) := by decide +kernel
theorem dJ0_length_8abf5_5 : decode cJ0_length_8abf5 5 = .ok (.aload_n 0, 1) := by decide +kernel
theorem dJ0_length_8abf5_6 : decode cJ0_length_8abf5 6 = .ok (.invokevirtual 335, 3) := by decide +kernel
theorem dJ0_length_8abf5_9 : decode cJ0_length_8abf5 9 = .ok (.ishr, 1) := by decide +kernel
theorem dJ0_length_8abf5_10 : decode cJ0_length_8abf5 10 = .ok (.ireturn, 1) := by decide +kernel
theorem dJ0_charAt_5068e_0 : decode cJ0_charAt_5068e 0 = .ok (.aload_n 0, 1) := by decide +kernel
theorem dJ0_charAt_5068e_1 : decode cJ0_charAt_5068e 1 = .ok (.invokevirtual 492, 3) := by decide +kernel
theorem dJ0_charAt_5068e_4 : decode cJ0_charAt_5068e 4 = .ok (.ifCond .eq 12, 3) := by decide +kernel
theorem dJ0_charAt_5068e_7 : decode cJ0_charAt_5068e 7 = .ok (.aload_n 0, 1) := by decide +kernel
theorem dJ0_charAt_5068e_8 : decode cJ0_charAt_5068e 8 = .ok (.getfield 9, 3) := by decide +kernel
theorem dJ0_charAt_5068e_11 : decode cJ0_charAt_5068e 11 = .ok (.iload_n 1, 1) := by decide +kernel
theorem dJ0_charAt_5068e_12 : decode cJ0_charAt_5068e 12 = .ok (.invokestatic 495, 3) := by decide +kernel
theorem dJ0_charAt_5068e_15 : decode cJ0_charAt_5068e 15 = .ok (.ireturn, 1) := by decide +kernel
theorem dJ0_charAt_5068e_16 : decode cJ0_charAt_5068e 16 = .ok (.aload_n 0, 1) := by decide +kernel
theorem dJ0_charAt_5068e_17 : decode cJ0_charAt_5068e 17 = .ok (.getfield 9, 3) := by decide +kernel
theorem dJ0_charAt_5068e_20 : decode cJ0_charAt_5068e 20 = .ok (.iload_n 1, 1) := by decide +kernel
theorem dJ0_charAt_5068e_21 : decode cJ0_charAt_5068e 21 = .ok (.invokestatic 498, 3) := by decide +kernel
theorem dJ0_charAt_5068e_24 : decode cJ0_charAt_5068e 24 = .ok (.ireturn, 1) := by decide +kernel
theorem dJ0_coder_7d493_0 : decode cJ0_coder_7d493 0 = .ok (.getstatic 38, 3) := by decide +kernel
theorem dJ0_coder_7d493_3 : decode cJ0_coder_7d493 3 = .ok (.ifCond .eq 10, 3) := by decide +kernel
theorem dJ0_coder_7d493_6 : decode cJ0_coder_7d493 6 = .ok (.aload_n 0, 1) := by decide +kernel
theorem dJ0_coder_7d493_7 : decode cJ0_coder_7d493 7 = .ok (.getfield 15, 3) := by decide +kernel
theorem dJ0_coder_7d493_10 : decode cJ0_coder_7d493 10 = .ok (.goto 4, 3) := by decide +kernel
theorem dJ0_coder_7d493_13 : decode cJ0_coder_7d493 13 = .ok (.iconst 1, 1) := by decide +kernel
theorem dJ0_coder_7d493_14 : decode cJ0_coder_7d493 14 = .ok (.ireturn, 1) := by decide +kernel
theorem dJ0_isLatin1_aae02_0 : decode cJ0_isLatin1_aae02 0 = .ok (.getstatic 38, 3) := by decide +kernel
theorem dJ0_isLatin1_aae02_3 : decode cJ0_isLatin1_aae02 3 = .ok (.ifCond .eq 14, 3) := by decide +kernel
theorem dJ0_isLatin1_aae02_6 : decode cJ0_isLatin1_aae02 6 = .ok (.aload_n 0, 1) := by decide +kernel
theorem dJ0_isLatin1_aae02_7 : decode cJ0_isLatin1_aae02 7 = .ok (.getfield 15, 3) := by decide +kernel
theorem dJ0_isLatin1_aae02_10 : decode cJ0_isLatin1_aae02 10 = .ok (.ifCond .ne 7, 3) := by decide +kernel
theorem dJ0_isLatin1_aae02_13 : decode cJ0_isLatin1_aae02 13 = .ok (.iconst 1, 1) := by decide +kernel
theorem dJ0_isLatin1_aae02_14 : decode cJ0_isLatin1_aae02 14 = .ok (.goto 4, 3) := by decide +kernel
theorem dJ0_isLatin1_aae02_17 : decode cJ0_isLatin1_aae02 17 = .ok (.iconst 0, 1) := by decide +kernel
theorem dJ0_isLatin1_aae02_18 : decode cJ0_isLatin1_aae02 18 = .ok (.ireturn, 1) := by decide +kernel
theorem dJ0_checkIndex_df160_0 : decode cJ0_checkIndex_df160 0 = .ok (.iload_n 0, 1) := by decide +kernel
theorem dJ0_checkIndex_df160_1 : decode cJ0_checkIndex_df160 1 = .ok (.iload_n 1, 1) := by decide +kernel
theorem dJ0_checkIndex_df160_2 : decode cJ0_checkIndex_df160 2 = .ok (.getstatic 1053, 3) := by decide +kernel
theorem dJ0_checkIndex_df160_5 : decode cJ0_checkIndex_df160 5 = .ok (.invokestatic 1059, 3) := by decide +kernel
theorem dJ0_checkIndex_df160_8 : decode cJ0_checkIndex_df160 8 = .ok (.pop, 1) := by decide +kernel
theorem dJ0_checkIndex_df160_9 : decode cJ0_checkIndex_df160 9 = .ok (.return_, 1) := by decide +kernel
end
section
theorem dJ1_charAt_3b067_0 : decode cJ1_charAt_3b067 0 = .ok (.iload_n 1, 1) := by decide +kernel
theorem dJ1_charAt_3b067_1 : decode cJ1_charAt_3b067 1 = .ok (.aload_n 0, 1) := by decide +kernel
theorem dJ1_charAt_3b067_2 : decode cJ1_charAt_3b067 2 = .ok (.arraylength, 1) := by decide +kernel
theorem dJ1_charAt_3b067_3 : decode cJ1_charAt_3b067 3 = .ok (.invokestatic 9, 3) := by decide +kernel
theorem dJ1_charAt_3b067_6 : decode cJ1_charAt_3b067 6 = .ok (.aload_n 0, 1) := by decide +kernel
theorem dJ1_charAt_3b067_7 : decode cJ1_charAt_3b067 7 = .ok (.iload_n 1, 1) := by decide +kernel
theorem dJ1_charAt_3b067_8 : decode cJ1_charAt_3b067 8 = .ok (.baload, 1) := by decide +kernel
theorem dJ1_charAt_3b067_9 : decode cJ1_charAt_3b067 9 = .ok (.sipush 255, 3) := by decide +kernel
theorem dJ1_charAt_3b067_12 : decode cJ1_charAt_3b067 12 = .ok (.iand, 1) := by decide +kernel
theorem dJ1_charAt_3b067_13 : decode cJ1_charAt_3b067 13 = .ok (.i2c, 1) := by decide +kernel
theorem dJ1_charAt_3b067_14 : decode cJ1_charAt_3b067 14 = .ok (.ireturn, 1) := by decide +kernel
end
section
theorem dJ2_getChar_3b067_0 : decode cJ2_getChar_3b067 0 = .ok (.getstatic 44, 3) := by decide +kernel
theorem dJ2_getChar_3b067_3 : decode cJ2_getChar_3b067 3 = .ok (.ifCond .ne 25, 3) := by decide +kernel
theorem dJ2_getChar_3b067_6 : decode cJ2_getChar_3b067 6 = .ok (.iload_n 1, 1) := by decide +kernel
theorem dJ2_getChar_3b067_7 : decode cJ2_getChar_3b067 7 = .ok (.ifCond .lt 11, 3) := by decide +kernel
theorem dJ2_getChar_3b067_10 : decode cJ2_getChar_3b067 10 = .ok (.iload_n 1, 1) := by decide +kernel
theorem dJ2_getChar_3b067_11 : decode cJ2_getChar_3b067 11 = .ok (.aload_n 0, 1) := by decide +kernel
theorem dJ2_getChar_3b067_12 : decode cJ2_getChar_3b067 12 = .ok (.invokestatic 48, 3) := by decide +kernel
theorem dJ2_getChar_3b067_15 : decode cJ2_getChar_3b067 15 = .ok (.if_icmp .lt 13, 3) := by decide +kernel
theorem dJ2_getChar_3b067_18 : decode cJ2_getChar_3b067 18 = .ok (.new 52, 3) := by decide +kernel
theorem dJ2_getChar_3b067_21 : decode cJ2_getChar_3b067 21 = .ok (.dup, 1) := by decide +kernel
theorem dJ2_getChar_3b067_22 : decode cJ2_getChar_3b067 22 = .ok (.ldc 54, 2) := by decide +kernel
theorem dJ2_getChar_3b067_24 : decode cJ2_getChar_3b067 24 = .ok (.invokespecial 56, 3) := by decide +kernel
theorem dJ2_getChar_3b067_27 : decode cJ2_getChar_3b067 27 = .ok (.athrow, 1) := by decide +kernel
theorem dJ2_getChar_3b067_28 : decode cJ2_getChar_3b067 28 = .ok (.iload_n 1, 1) := by decide +kernel
theorem dJ2_getChar_3b067_29 : decode cJ2_getChar_3b067 29 = .ok (.iconst 1, 1) := by decide +kernel
theorem dJ2_getChar_3b067_30 : decode cJ2_getChar_3b067 30 = .ok (.ishl, 1) := by decide +kernel
theorem dJ2_getChar_3b067_31 : decode cJ2_getChar_3b067 31 = .ok (.istore_n 1, 1) := by decide +kernel
theorem dJ2_getChar_3b067_32 : decode cJ2_getChar_3b067 32 = .ok (.aload_n 0, 1) := by decide +kernel
theorem dJ2_getChar_3b067_33 : decode cJ2_getChar_3b067 33 = .ok (.iload_n 1, 1) := by decide +kernel
theorem dJ2_getChar_3b067_34 : decode cJ2_getChar_3b067 34 = .ok (.iinc 1 1, 3) := by decide +kernel
theorem dJ2_getChar_3b067_37 : decode cJ2_getChar_3b067 37 = .ok (.baload, 1) := by decide +kernel
theorem dJ2_getChar_3b067_38 : decode cJ2_getChar_3b067 38 = .ok (.sipush 255, 3) := by decide +kernel
theorem dJ2_getChar_3b067_41 : decode cJ2_getChar_3b067 41 = .ok (.iand, 1) := by decide +kernel
theorem dJ2_getChar_3b067_42 : decode cJ2_getChar_3b067 42 = .ok (.getstatic 59, 3) := by decide +kernel
theorem dJ2_getChar_3b067_45 : decode cJ2_getChar_3b067 45 = .ok (.ishl, 1) := by decide +kernel
theorem dJ2_getChar_3b067_46 : decode cJ2_getChar_3b067 46 = .ok (.aload_n 0, 1) := by decide +kernel
theorem dJ2_getChar_3b067_47 : decode cJ2_getChar_3b067 47 = .ok (.iload_n 1, 1) := by decide +kernel
theorem dJ2_getChar_3b067_48 : decode cJ2_getChar_3b067 48 = .ok (.baload, 1) := by decide +kernel
theorem dJ2_getChar_3b067_49 : decode cJ2_getChar_3b067 49 = .ok (.sipush 255, 3) := by decide +kernel
theorem dJ2_getChar_3b067_52 : decode cJ2_getChar_3b067 52 = .ok (.iand, 1) := by decide +kernel
theorem dJ2_getChar_3b067_53 : decode cJ2_getChar_3b067 53 = .ok (.getstatic 63, 3) := by decide +kernel
theorem dJ2_getChar_3b067_56 : decode cJ2_getChar_3b067 56 = .ok (.ishl, 1) := by decide +kernel
theorem dJ2_getChar_3b067_57 : decode cJ2_getChar_3b067 57 = .ok (.ior, 1) := by decide +kernel
theorem dJ2_getChar_3b067_58 : decode cJ2_getChar_3b067 58 = .ok (.i2c, 1) := by decide +kernel
theorem dJ2_getChar_3b067_59 : decode cJ2_getChar_3b067 59 = .ok (.ireturn, 1) := by decide +kernel
theorem dJ2_length_9d52b_0 : decode cJ2_length_9d52b 0 = .ok (.aload_n 0, 1) := by decide +kernel
theorem dJ2_length_9d52b_1 : decode cJ2_length_9d52b 1 = .ok (.arraylength, 1) := by decide +kernel
theorem dJ2_length_9d52b_2 : decode cJ2_length_9d52b 2 = .ok (.iconst 1, 1) := by decide +kernel
theorem dJ2_length_9d52b_3 : decode cJ2_length_9d52b 3 = .ok (.ishr, 1) := by decide +kernel
theorem dJ2_length_9d52b_4 : decode cJ2_length_9d52b 4 = .ok (.ireturn, 1) := by decide +kernel
theorem dJ2_charAt_3b067_0 : decode cJ2_charAt_3b067 0 = .ok (.iload_n 1, 1) := by decide +kernel
theorem dJ2_charAt_3b067_1 : decode cJ2_charAt_3b067 1 = .ok (.aload_n 0, 1) := by decide +kernel
theorem dJ2_charAt_3b067_2 : decode cJ2_charAt_3b067 2 = .ok (.invokestatic 67, 3) := by decide +kernel
theorem dJ2_charAt_3b067_5 : decode cJ2_charAt_3b067 5 = .ok (.aload_n 0, 1) := by decide +kernel
theorem dJ2_charAt_3b067_6 : decode cJ2_charAt_3b067 6 = .ok (.iload_n 1, 1) := by decide +kernel
theorem dJ2_charAt_3b067_7 : decode cJ2_charAt_3b067 7 = .ok (.invokestatic 71, 3) := by decide +kernel
theorem dJ2_charAt_3b067_10 : decode cJ2_charAt_3b067 10 = .ok (.ireturn, 1) := by decide +kernel
theorem dJ2_checkIndex_2214a_0 : decode cJ2_checkIndex_2214a 0 = .ok (.iload_n 0, 1) := by decide +kernel
theorem dJ2_checkIndex_2214a_1 : decode cJ2_checkIndex_2214a 1 = .ok (.aload_n 1, 1) := by decide +kernel
theorem dJ2_checkIndex_2214a_2 : decode cJ2_checkIndex_2214a 2 = .ok (.invokestatic 48, 3) := by decide +kernel
theorem dJ2_checkIndex_2214a_5 : decode cJ2_checkIndex_2214a 5 = .ok (.invokestatic 414, 3) := by decide +kernel
theorem dJ2_checkIndex_2214a_8 : decode cJ2_checkIndex_2214a 8 = .ok (.return_, 1) := by decide +kernel
end
section
theorem dJ3_checkIndex_8e157_0 : decode cJ3_checkIndex_8e157 0 = .ok (.iload_n 0, 1) := by decide +kernel
theorem dJ3_checkIndex_8e157_1 : decode cJ3_checkIndex_8e157 1 = .ok (.ifCond .lt 8, 3) := by decide +kernel
theorem dJ3_checkIndex_8e157_4 : decode cJ3_checkIndex_8e157 4 = .ok (.iload_n 0, 1) := by decide +kernel
theorem dJ3_checkIndex_8e157_5 : decode cJ3_checkIndex_8e157 5 = .ok (.iload_n 1, 1) := by decide +kernel
theorem dJ3_checkIndex_8e157_6 : decode cJ3_checkIndex_8e157 6 = .ok (.if_icmp .lt 10, 3) := by decide +kernel
theorem dJ3_checkIndex_8e157_9 : decode cJ3_checkIndex_8e157 9 = .ok (.aload_n 2, 1) := by decide +kernel
theorem dJ3_checkIndex_8e157_10 : decode cJ3_checkIndex_8e157 10 = .ok (.iload_n 0, 1) := by decide +kernel
theorem dJ3_checkIndex_8e157_11 : decode cJ3_checkIndex_8e157 11 = .ok (.iload_n 1, 1) := by decide +kernel
theorem dJ3_checkIndex_8e157_12 : decode cJ3_checkIndex_8e157 12 = .ok (.invokestatic 95, 3) := by decide +kernel
theorem dJ3_checkIndex_8e157_15 : decode cJ3_checkIndex_8e157 15 = .ok (.athrow, 1) := by decide +kernel
theorem dJ3_checkIndex_8e157_16 : decode cJ3_checkIndex_8e157 16 = .ok (.iload_n 0, 1) := by decide +kernel
theorem dJ3_checkIndex_8e157_17 : decode cJ3_checkIndex_8e157 17 = .ok (.ireturn, 1) := by decide +kernel
end
section
theorem dJ6_bitCount_0f7a4_0 : decode cJ6_bitCount_0f7a4 0 = .ok (.iload_n 0, 1) := by decide +kernel
theorem dJ6_bitCount_0f7a4_1 : decode cJ6_bitCount_0f7a4 1 = .ok (.iload_n 0, 1) := by decide +kernel
theorem dJ6_bitCount_0f7a4_2 : decode cJ6_bitCount_0f7a4 2 = .ok (.iconst 1, 1) := by decide +kernel
theorem dJ6_bitCount_0f7a4_3 : decode cJ6_bitCount_0f7a4 3 = .ok (.iushr, 1) := by decide +kernel
theorem dJ6_bitCount_0f7a4_4 : decode cJ6_bitCount_0f7a4 4 = .ok (.ldc_w 265, 3) := by decide +kernel
theorem dJ6_bitCount_0f7a4_7 : decode cJ6_bitCount_0f7a4 7 = .ok (.iand, 1) := by decide +kernel
theorem dJ6_bitCount_0f7a4_8 : decode cJ6_bitCount_0f7a4 8 = .ok (.isub, 1) := by decide +kernel
theorem dJ6_bitCount_0f7a4_9 : decode cJ6_bitCount_0f7a4 9 = .ok (.istore_n 0, 1) := by decide +kernel
theorem dJ6_bitCount_0f7a4_10 : decode cJ6_bitCount_0f7a4 10 = .ok (.iload_n 0, 1) := by decide +kernel
theorem dJ6_bitCount_0f7a4_11 : decode cJ6_bitCount_0f7a4 11 = .ok (.ldc_w 266, 3) := by decide +kernel
theorem dJ6_bitCount_0f7a4_14 : decode cJ6_bitCount_0f7a4 14 = .ok (.iand, 1) := by decide +kernel
theorem dJ6_bitCount_0f7a4_15 : decode cJ6_bitCount_0f7a4 15 = .ok (.iload_n 0, 1) := by decide +kernel
theorem dJ6_bitCount_0f7a4_16 : decode cJ6_bitCount_0f7a4 16 = .ok (.iconst 2, 1) := by decide +kernel
theorem dJ6_bitCount_0f7a4_17 : decode cJ6_bitCount_0f7a4 17 = .ok (.iushr, 1) := by decide +kernel
theorem dJ6_bitCount_0f7a4_18 : decode cJ6_bitCount_0f7a4 18 = .ok (.ldc_w 266, 3) := by decide +kernel
theorem dJ6_bitCount_0f7a4_21 : decode cJ6_bitCount_0f7a4 21 = .ok (.iand, 1) := by decide +kernel
theorem dJ6_bitCount_0f7a4_22 : decode cJ6_bitCount_0f7a4 22 = .ok (.iadd, 1) := by decide +kernel
theorem dJ6_bitCount_0f7a4_23 : decode cJ6_bitCount_0f7a4 23 = .ok (.istore_n 0, 1) := by decide +kernel
theorem dJ6_bitCount_0f7a4_24 : decode cJ6_bitCount_0f7a4 24 = .ok (.iload_n 0, 1) := by decide +kernel
theorem dJ6_bitCount_0f7a4_25 : decode cJ6_bitCount_0f7a4 25 = .ok (.iload_n 0, 1) := by decide +kernel
theorem dJ6_bitCount_0f7a4_26 : decode cJ6_bitCount_0f7a4 26 = .ok (.iconst 4, 1) := by decide +kernel
theorem dJ6_bitCount_0f7a4_27 : decode cJ6_bitCount_0f7a4 27 = .ok (.iushr, 1) := by decide +kernel
theorem dJ6_bitCount_0f7a4_28 : decode cJ6_bitCount_0f7a4 28 = .ok (.iadd, 1) := by decide +kernel
theorem dJ6_bitCount_0f7a4_29 : decode cJ6_bitCount_0f7a4 29 = .ok (.ldc_w 267, 3) := by decide +kernel
theorem dJ6_bitCount_0f7a4_32 : decode cJ6_bitCount_0f7a4 32 = .ok (.iand, 1) := by decide +kernel
theorem dJ6_bitCount_0f7a4_33 : decode cJ6_bitCount_0f7a4 33 = .ok (.istore_n 0, 1) := by decide +kernel
theorem dJ6_bitCount_0f7a4_34 : decode cJ6_bitCount_0f7a4 34 = .ok (.iload_n 0, 1) := by decide +kernel
theorem dJ6_bitCount_0f7a4_35 : decode cJ6_bitCount_0f7a4 35 = .ok (.iload_n 0, 1) := by decide +kernel
theorem dJ6_bitCount_0f7a4_36 : decode cJ6_bitCount_0f7a4 36 = .ok (.bipush 8, 2) := by decide +kernel
theorem dJ6_bitCount_0f7a4_38 : decode cJ6_bitCount_0f7a4 38 = .ok (.iushr, 1) := by decide +kernel
theorem dJ6_bitCount_0f7a4_39 : decode cJ6_bitCount_0f7a4 39 = .ok (.iadd, 1) := by decide +kernel
theorem dJ6_bitCount_0f7a4_40 : decode cJ6_bitCount_0f7a4 40 = .ok (.istore_n 0, 1) := by decide +kernel
theorem dJ6_bitCount_0f7a4_41 : decode cJ6_bitCount_0f7a4 41 = .ok (.iload_n 0, 1) := by decide +kernel
theorem dJ6_bitCount_0f7a4_42 : decode cJ6_bitCount_0f7a4 42 = .ok (.iload_n 0, 1) := by decide +kernel
theorem dJ6_bitCount_0f7a4_43 : decode cJ6_bitCount_0f7a4 43 = .ok (.bipush 16, 2) := by decide +kernel
theorem dJ6_bitCount_0f7a4_45 : decode cJ6_bitCount_0f7a4 45 = .ok (.iushr, 1) := by decide +kernel
theorem dJ6_bitCount_0f7a4_46 : decode cJ6_bitCount_0f7a4 46 = .ok (.iadd, 1) := by decide +kernel
theorem dJ6_bitCount_0f7a4_47 : decode cJ6_bitCount_0f7a4 47 = .ok (.istore_n 0, 1) := by decide +kernel
theorem dJ6_bitCount_0f7a4_48 : decode cJ6_bitCount_0f7a4 48 = .ok (.iload_n 0, 1) := by decide +kernel
theorem dJ6_bitCount_0f7a4_49 : decode cJ6_bitCount_0f7a4 49 = .ok (.bipush 63, 2) := by decide +kernel
theorem dJ6_bitCount_0f7a4_51 : decode cJ6_bitCount_0f7a4 51 = .ok (.iand, 1) := by decide +kernel
theorem dJ6_bitCount_0f7a4_52 : decode cJ6_bitCount_0f7a4 52 = .ok (.ireturn, 1) := by decide +kernel
end
section
theorem dJ9_abs_0f7a4_0 : decode cJ9_abs_0f7a4 0 = .ok (.iload_n 0, 1) := by decide +kernel
theorem dJ9_abs_0f7a4_1 : decode cJ9_abs_0f7a4 1 = .ok (.ifCond .ge 8, 3) := by decide +kernel
theorem dJ9_abs_0f7a4_4 : decode cJ9_abs_0f7a4 4 = .ok (.iload_n 0, 1) := by decide +kernel
theorem dJ9_abs_0f7a4_5 : decode cJ9_abs_0f7a4 5 = .ok (.ineg, 1) := by decide +kernel
theorem dJ9_abs_0f7a4_6 : decode cJ9_abs_0f7a4 6 = .ok (.goto 4, 3) := by decide +kernel
theorem dJ9_abs_0f7a4_9 : decode cJ9_abs_0f7a4 9 = .ok (.iload_n 0, 1) := by decide +kernel
theorem dJ9_abs_0f7a4_10 : decode cJ9_abs_0f7a4 10 = .ok (.ireturn, 1) := by decide +kernel
theorem dJ9_max_7cf53_0 : decode cJ9_max_7cf53 0 = .ok (.iload_n 0, 1) := by decide +kernel
theorem dJ9_max_7cf53_1 : decode cJ9_max_7cf53 1 = .ok (.iload_n 1, 1) := by decide +kernel
theorem dJ9_max_7cf53_2 : decode cJ9_max_7cf53 2 = .ok (.if_icmp .lt 7, 3) := by decide +kernel
theorem dJ9_max_7cf53_5 : decode cJ9_max_7cf53 5 = .ok (.iload_n 0, 1) := by decide +kernel
theorem dJ9_max_7cf53_6 : decode cJ9_max_7cf53 6 = .ok (.goto 4, 3) := by decide +kernel
theorem dJ9_max_7cf53_9 : decode cJ9_max_7cf53 9 = .ok (.iload_n 1, 1) := by decide +kernel
theorem dJ9_max_7cf53_10 : decode cJ9_max_7cf53 10 = .ok (.ireturn, 1) := by decide +kernel
theorem dJ9_min_7cf53_0 : decode cJ9_min_7cf53 0 = .ok (.iload_n 0, 1) := by decide +kernel
theorem dJ9_min_7cf53_1 : decode cJ9_min_7cf53 1 = .ok (.iload_n 1, 1) := by decide +kernel
theorem dJ9_min_7cf53_2 : decode cJ9_min_7cf53 2 = .ok (.if_icmp .gt 7, 3) := by decide +kernel
theorem dJ9_min_7cf53_5 : decode cJ9_min_7cf53 5 = .ok (.iload_n 0, 1) := by decide +kernel
theorem dJ9_min_7cf53_6 : decode cJ9_min_7cf53 6 = .ok (.goto 4, 3) := by decide +kernel
theorem dJ9_min_7cf53_9 : decode cJ9_min_7cf53 9 = .ok (.iload_n 1, 1) := by decide +kernel
theorem dJ9_min_7cf53_10 : decode cJ9_min_7cf53 10 = .ok (.ireturn, 1) := by decide +kernel
end
section
theorem dL_law_0 : decode cL_law 0 = .ok (.new 7, 3) := by decide +kernel
theorem dL_law_3 : decode cL_law 3 = .ok (.dup, 1) := by decide +kernel
theorem dL_law_4 : decode cL_law 4 = .ok (.invokespecial 9, 3) := by decide +kernel
theorem dL_law_7 : decode cL_law 7 = .ok (.astore_n 1, 1) := by decide +kernel
theorem dL_law_8 : decode cL_law 8 = .ok (.new 10, 3) := by decide +kernel
theorem dL_law_11 : decode cL_law 11 = .ok (.dup, 1) := by decide +kernel
theorem dL_law_12 : decode cL_law 12 = .ok (.invokespecial 12, 3) := by decide +kernel
theorem dL_law_15 : decode cL_law 15 = .ok (.astore_n 2, 1) := by decide +kernel
theorem dL_law_16 : decode cL_law 16 = .ok (.iconst 0, 1) := by decide +kernel
theorem dL_law_17 : decode cL_law 17 = .ok (.istore_n 3, 1) := by decide +kernel
theorem dL_law_18 : decode cL_law 18 = .ok (.iload_n 3, 1) := by decide +kernel
theorem dL_law_19 : decode cL_law 19 = .ok (.aload_n 0, 1) := by decide +kernel
theorem dL_law_20 : decode cL_law 20 = .ok (.arraylength, 1) := by decide +kernel
theorem dL_law_21 : decode cL_law 21 = .ok (.iconst 5, 1) := by decide +kernel
theorem dL_law_22 : decode cL_law 22 = .ok (.isub, 1) := by decide +kernel
theorem dL_law_23 : decode cL_law 23 = .ok (.if_icmp .gt 1246, 3) := by decide +kernel
theorem dL_law_26 : decode cL_law 26 = .ok (.aload_n 0, 1) := by decide +kernel
theorem dL_law_27 : decode cL_law 27 = .ok (.iload_n 3, 1) := by decide +kernel
theorem dL_law_28 : decode cL_law 28 = .ok (.iaload, 1) := by decide +kernel
theorem dL_law_29 : decode cL_law 29 = .ok (.bipush 63, 2) := by decide +kernel
theorem dL_law_31 : decode cL_law 31 = .ok (.iand, 1) := by decide +kernel
theorem dL_law_32 : decode cL_law 32 = .ok (.tableswitch 1231 0 38 #[172, 185, 218, 251, 274, 287, 300, 333, 366, 389, 422, 445, 458, 491, 524, 557, 580, 613, 656, 669, 682, 725, 758, 781, 824, 877, 900, 923, 946, 969, 992, 1035, 1068, 1101, 1125, 1148, 1171, 1194, 1217], 172) := by decide +kernel
theorem dL_law_204 : decode cL_law 204 = .ok (.aload_n 1, 1) := by decide +kernel
theorem dL_law_205 : decode cL_law 205 = .ok (.invokevirtual 13, 3) := by decide +kernel
theorem dL_law_208 : decode cL_law 208 = .ok (.aload_n 2, 1) := by decide +kernel
theorem dL_law_209 : decode cL_law 209 = .ok (.invokevirtual 17, 3) := by decide +kernel
theorem dL_law_212 : decode cL_law 212 = .ok (.if_icmp .eq 1051, 3) := by decide +kernel
theorem dL_law_215 : decode cL_law 215 = .ok (.iconst 0, 1) := by decide +kernel
theorem dL_law_216 : decode cL_law 216 = .ok (.ireturn, 1) := by decide +kernel
theorem dL_law_217 : decode cL_law 217 = .ok (.aload_n 1, 1) := by decide +kernel
theorem dL_law_218 : decode cL_law 218 = .ok (.aload_n 0, 1) := by decide +kernel
theorem dL_law_219 : decode cL_law 219 = .ok (.iload_n 3, 1) := by decide +kernel
theorem dL_law_220 : decode cL_law 220 = .ok (.iconst 1, 1) := by decide +kernel
theorem dL_law_221 : decode cL_law 221 = .ok (.iadd, 1) := by decide +kernel
theorem dL_law_222 : decode cL_law 222 = .ok (.iaload, 1) := by decide +kernel
theorem dL_law_223 : decode cL_law 223 = .ok (.aload_n 0, 1) := by decide +kernel
theorem dL_law_224 : decode cL_law 224 = .ok (.iload_n 3, 1) := by decide +kernel
theorem dL_law_225 : decode cL_law 225 = .ok (.iconst 2, 1) := by decide +kernel
theorem dL_law_226 : decode cL_law 226 = .ok (.iadd, 1) := by decide +kernel
theorem dL_law_227 : decode cL_law 227 = .ok (.iaload, 1) := by decide +kernel
theorem dL_law_228 : decode cL_law 228 = .ok (.invokevirtual 18, 3) := by decide +kernel
theorem dL_law_231 : decode cL_law 231 = .ok (.aload_n 2, 1) := by decide +kernel
theorem dL_law_232 : decode cL_law 232 = .ok (.aload_n 0, 1) := by decide +kernel
theorem dL_law_233 : decode cL_law 233 = .ok (.iload_n 3, 1) := by decide +kernel
theorem dL_law_234 : decode cL_law 234 = .ok (.iconst 1, 1) := by decide +kernel
theorem dL_law_235 : decode cL_law 235 = .ok (.iadd, 1) := by decide +kernel
theorem dL_law_236 : decode cL_law 236 = .ok (.iaload, 1) := by decide +kernel
theorem dL_law_237 : decode cL_law 237 = .ok (.aload_n 0, 1) := by decide +kernel
theorem dL_law_238 : decode cL_law 238 = .ok (.iload_n 3, 1) := by decide +kernel
theorem dL_law_239 : decode cL_law 239 = .ok (.iconst 2, 1) := by decide +kernel
theorem dL_law_240 : decode cL_law 240 = .ok (.iadd, 1) := by decide +kernel
theorem dL_law_241 : decode cL_law 241 = .ok (.iaload, 1) := by decide +kernel
theorem dL_law_242 : decode cL_law 242 = .ok (.invokevirtual 22, 3) := by decide +kernel
theorem dL_law_245 : decode cL_law 245 = .ok (.if_icmp .eq 1018, 3) := by decide +kernel
theorem dL_law_248 : decode cL_law 248 = .ok (.iconst 0, 1) := by decide +kernel
theorem dL_law_249 : decode cL_law 249 = .ok (.ireturn, 1) := by decide +kernel
theorem dL_law_250 : decode cL_law 250 = .ok (.aload_n 1, 1) := by decide +kernel
theorem dL_law_251 : decode cL_law 251 = .ok (.aload_n 0, 1) := by decide +kernel
theorem dL_law_252 : decode cL_law 252 = .ok (.iload_n 3, 1) := by decide +kernel
theorem dL_law_253 : decode cL_law 253 = .ok (.iconst 1, 1) := by decide +kernel
theorem dL_law_254 : decode cL_law 254 = .ok (.iadd, 1) := by decide +kernel
theorem dL_law_255 : decode cL_law 255 = .ok (.iaload, 1) := by decide +kernel
theorem dL_law_256 : decode cL_law 256 = .ok (.aload_n 0, 1) := by decide +kernel
theorem dL_law_257 : decode cL_law 257 = .ok (.iload_n 3, 1) := by decide +kernel
theorem dL_law_258 : decode cL_law 258 = .ok (.iconst 2, 1) := by decide +kernel
theorem dL_law_259 : decode cL_law 259 = .ok (.iadd, 1) := by decide +kernel
theorem dL_law_260 : decode cL_law 260 = .ok (.iaload, 1) := by decide +kernel
theorem dL_law_261 : decode cL_law 261 = .ok (.invokevirtual 23, 3) := by decide +kernel
theorem dL_law_264 : decode cL_law 264 = .ok (.aload_n 2, 1) := by decide +kernel
theorem dL_law_265 : decode cL_law 265 = .ok (.aload_n 0, 1) := by decide +kernel
theorem dL_law_266 : decode cL_law 266 = .ok (.iload_n 3, 1) := by decide +kernel
theorem dL_law_267 : decode cL_law 267 = .ok (.iconst 1, 1) := by decide +kernel
theorem dL_law_268 : decode cL_law 268 = .ok (.iadd, 1) := by decide +kernel
theorem dL_law_269 : decode cL_law 269 = .ok (.iaload, 1) := by decide +kernel
theorem dL_law_270 : decode cL_law 270 = .ok (.aload_n 0, 1) := by decide +kernel
theorem dL_law_271 : decode cL_law 271 = .ok (.iload_n 3, 1) := by decide +kernel
theorem dL_law_272 : decode cL_law 272 = .ok (.iconst 2, 1) := by decide +kernel
theorem dL_law_273 : decode cL_law 273 = .ok (.iadd, 1) := by decide +kernel
theorem dL_law_274 : decode cL_law 274 = .ok (.iaload, 1) := by decide +kernel
theorem dL_law_275 : decode cL_law 275 = .ok (.invokevirtual 26, 3) := by decide +kernel
theorem dL_law_278 : decode cL_law 278 = .ok (.if_icmp .eq 985, 3) := by decide +kernel
theorem dL_law_281 : decode cL_law 281 = .ok (.iconst 0, 1) := by decide +kernel
theorem dL_law_282 : decode cL_law 282 = .ok (.ireturn, 1) := by decide +kernel
theorem dL_law_283 : decode cL_law 283 = .ok (.aload_n 1, 1) := by decide +kernel
theorem dL_law_284 : decode cL_law 284 = .ok (.aload_n 0, 1) := by decide +kernel
theorem dL_law_285 : decode cL_law 285 = .ok (.iload_n 3, 1) := by decide +kernel
theorem dL_law_286 : decode cL_law 286 = .ok (.iconst 1, 1) := by decide +kernel
theorem dL_law_287 : decode cL_law 287 = .ok (.iadd, 1) := by decide +kernel
theorem dL_law_288 : decode cL_law 288 = .ok (.iaload, 1) := by decide +kernel
theorem dL_law_289 : decode cL_law 289 = .ok (.invokevirtual 27, 3) := by decide +kernel
theorem dL_law_292 : decode cL_law 292 = .ok (.aload_n 2, 1) := by decide +kernel
theorem dL_law_293 : decode cL_law 293 = .ok (.aload_n 0, 1) := by decide +kernel
theorem dL_law_294 : decode cL_law 294 = .ok (.iload_n 3, 1) := by decide +kernel
theorem dL_law_295 : decode cL_law 295 = .ok (.iconst 1, 1) := by decide +kernel
theorem dL_law_296 : decode cL_law 296 = .ok (.iadd, 1) := by decide +kernel
theorem dL_law_297 : decode cL_law 297 = .ok (.iaload, 1) := by decide +kernel
theorem dL_law_298 : decode cL_law 298 = .ok (.invokevirtual 31, 3) := by decide +kernel
theorem dL_law_301 : decode cL_law 301 = .ok (.if_icmp .eq 962, 3) := by decide +kernel
theorem dL_law_304 : decode cL_law 304 = .ok (.iconst 0, 1) := by decide +kernel
theorem dL_law_305 : decode cL_law 305 = .ok (.ireturn, 1) := by decide +kernel
theorem dL_law_306 : decode cL_law 306 = .ok (.aload_n 1, 1) := by decide +kernel
theorem dL_law_307 : decode cL_law 307 = .ok (.invokevirtual 32, 3) := by decide +kernel
theorem dL_law_310 : decode cL_law 310 = .ok (.aload_n 2, 1) := by decide +kernel
theorem dL_law_311 : decode cL_law 311 = .ok (.invokevirtual 35, 3) := by decide +kernel
theorem dL_law_314 : decode cL_law 314 = .ok (.if_icmp .eq 949, 3) := by decide +kernel
theorem dL_law_317 : decode cL_law 317 = .ok (.iconst 0, 1) := by decide +kernel
theorem dL_law_318 : decode cL_law 318 = .ok (.ireturn, 1) := by decide +kernel
theorem dL_law_319 : decode cL_law 319 = .ok (.aload_n 1, 1) := by decide +kernel
theorem dL_law_320 : decode cL_law 320 = .ok (.invokevirtual 36, 3) := by decide +kernel
theorem dL_law_323 : decode cL_law 323 = .ok (.aload_n 2, 1) := by decide +kernel
theorem dL_law_324 : decode cL_law 324 = .ok (.invokevirtual 39, 3) := by decide +kernel
theorem dL_law_327 : decode cL_law 327 = .ok (.if_icmp .eq 936, 3) := by decide +kernel
theorem dL_law_330 : decode cL_law 330 = .ok (.iconst 0, 1) := by decide +kernel
theorem dL_law_331 : decode cL_law 331 = .ok (.ireturn, 1) := by decide +kernel
theorem dL_law_332 : decode cL_law 332 = .ok (.aload_n 1, 1) := by decide +kernel
theorem dL_law_333 : decode cL_law 333 = .ok (.aload_n 0, 1) := by decide +kernel
theorem dL_law_334 : decode cL_law 334 = .ok (.iload_n 3, 1) := by decide +kernel
theorem dL_law_335 : decode cL_law 335 = .ok (.iconst 1, 1) := by decide +kernel
theorem dL_law_336 : decode cL_law 336 = .ok (.iadd, 1) := by decide +kernel
theorem dL_law_337 : decode cL_law 337 = .ok (.iaload, 1) := by decide +kernel
theorem dL_law_338 : decode cL_law 338 = .ok (.aload_n 0, 1) := by decide +kernel
theorem dL_law_339 : decode cL_law 339 = .ok (.iload_n 3, 1) := by decide +kernel
theorem dL_law_340 : decode cL_law 340 = .ok (.iconst 2, 1) := by decide +kernel
theorem dL_law_341 : decode cL_law 341 = .ok (.iadd, 1) := by decide +kernel
theorem dL_law_342 : decode cL_law 342 = .ok (.iaload, 1) := by decide +kernel
theorem dL_law_343 : decode cL_law 343 = .ok (.invokevirtual 40, 3) := by decide +kernel
theorem dL_law_346 : decode cL_law 346 = .ok (.aload_n 2, 1) := by decide +kernel
theorem dL_law_347 : decode cL_law 347 = .ok (.aload_n 0, 1) := by decide +kernel
theorem dL_law_348 : decode cL_law 348 = .ok (.iload_n 3, 1) := by decide +kernel
theorem dL_law_349 : decode cL_law 349 = .ok (.iconst 1, 1) := by decide +kernel
theorem dL_law_350 : decode cL_law 350 = .ok (.iadd, 1) := by decide +kernel
theorem dL_law_351 : decode cL_law 351 = .ok (.iaload, 1) := by decide +kernel
theorem dL_law_352 : decode cL_law 352 = .ok (.aload_n 0, 1) := by decide +kernel
theorem dL_law_353 : decode cL_law 353 = .ok (.iload_n 3, 1) := by decide +kernel
theorem dL_law_354 : decode cL_law 354 = .ok (.iconst 2, 1) := by decide +kernel
theorem dL_law_355 : decode cL_law 355 = .ok (.iadd, 1) := by decide +kernel
theorem dL_law_356 : decode cL_law 356 = .ok (.iaload, 1) := by decide +kernel
theorem dL_law_357 : decode cL_law 357 = .ok (.invokevirtual 43, 3) := by decide +kernel
theorem dL_law_360 : decode cL_law 360 = .ok (.if_icmp .eq 903, 3) := by decide +kernel
theorem dL_law_363 : decode cL_law 363 = .ok (.iconst 0, 1) := by decide +kernel
theorem dL_law_364 : decode cL_law 364 = .ok (.ireturn, 1) := by decide +kernel
theorem dL_law_365 : decode cL_law 365 = .ok (.aload_n 1, 1) := by decide +kernel
theorem dL_law_366 : decode cL_law 366 = .ok (.aload_n 0, 1) := by decide +kernel
theorem dL_law_367 : decode cL_law 367 = .ok (.iload_n 3, 1) := by decide +kernel
theorem dL_law_368 : decode cL_law 368 = .ok (.iconst 1, 1) := by decide +kernel
theorem dL_law_369 : decode cL_law 369 = .ok (.iadd, 1) := by decide +kernel
theorem dL_law_370 : decode cL_law 370 = .ok (.iaload, 1) := by decide +kernel
theorem dL_law_371 : decode cL_law 371 = .ok (.aload_n 0, 1) := by decide +kernel
theorem dL_law_372 : decode cL_law 372 = .ok (.iload_n 3, 1) := by decide +kernel
theorem dL_law_373 : decode cL_law 373 = .ok (.iconst 2, 1) := by decide +kernel
theorem dL_law_374 : decode cL_law 374 = .ok (.iadd, 1) := by decide +kernel
theorem dL_law_375 : decode cL_law 375 = .ok (.iaload, 1) := by decide +kernel
theorem dL_law_376 : decode cL_law 376 = .ok (.invokevirtual 44, 3) := by decide +kernel
theorem dL_law_379 : decode cL_law 379 = .ok (.aload_n 2, 1) := by decide +kernel
theorem dL_law_380 : decode cL_law 380 = .ok (.aload_n 0, 1) := by decide +kernel
theorem dL_law_381 : decode cL_law 381 = .ok (.iload_n 3, 1) := by decide +kernel
theorem dL_law_382 : decode cL_law 382 = .ok (.iconst 1, 1) := by decide +kernel
theorem dL_law_383 : decode cL_law 383 = .ok (.iadd, 1) := by decide +kernel
theorem dL_law_384 : decode cL_law 384 = .ok (.iaload, 1) := by decide +kernel
theorem dL_law_385 : decode cL_law 385 = .ok (.aload_n 0, 1) := by decide +kernel
theorem dL_law_386 : decode cL_law 386 = .ok (.iload_n 3, 1) := by decide +kernel
theorem dL_law_387 : decode cL_law 387 = .ok (.iconst 2, 1) := by decide +kernel
theorem dL_law_388 : decode cL_law 388 = .ok (.iadd, 1) := by decide +kernel
theorem dL_law_389 : decode cL_law 389 = .ok (.iaload, 1) := by decide +kernel
theorem dL_law_390 : decode cL_law 390 = .ok (.invokevirtual 47, 3) := by decide +kernel
theorem dL_law_393 : decode cL_law 393 = .ok (.if_icmp .eq 870, 3) := by decide +kernel
theorem dL_law_396 : decode cL_law 396 = .ok (.iconst 0, 1) := by decide +kernel
theorem dL_law_397 : decode cL_law 397 = .ok (.ireturn, 1) := by decide +kernel
theorem dL_law_398 : decode cL_law 398 = .ok (.aload_n 1, 1) := by decide +kernel
theorem dL_law_399 : decode cL_law 399 = .ok (.aload_n 0, 1) := by decide +kernel
theorem dL_law_400 : decode cL_law 400 = .ok (.iload_n 3, 1) := by decide +kernel
theorem dL_law_401 : decode cL_law 401 = .ok (.iconst 1, 1) := by decide +kernel
theorem dL_law_402 : decode cL_law 402 = .ok (.iadd, 1) := by decide +kernel
theorem dL_law_403 : decode cL_law 403 = .ok (.iaload, 1) := by decide +kernel
theorem dL_law_404 : decode cL_law 404 = .ok (.invokevirtual 48, 3) := by decide +kernel
theorem dL_law_407 : decode cL_law 407 = .ok (.aload_n 2, 1) := by decide +kernel
theorem dL_law_408 : decode cL_law 408 = .ok (.aload_n 0, 1) := by decide +kernel
theorem dL_law_409 : decode cL_law 409 = .ok (.iload_n 3, 1) := by decide +kernel
theorem dL_law_410 : decode cL_law 410 = .ok (.iconst 1, 1) := by decide +kernel
theorem dL_law_411 : decode cL_law 411 = .ok (.iadd, 1) := by decide +kernel
theorem dL_law_412 : decode cL_law 412 = .ok (.iaload, 1) := by decide +kernel
theorem dL_law_413 : decode cL_law 413 = .ok (.invokevirtual 51, 3) := by decide +kernel
theorem dL_law_416 : decode cL_law 416 = .ok (.if_icmp .eq 847, 3) := by decide +kernel
theorem dL_law_419 : decode cL_law 419 = .ok (.iconst 0, 1) := by decide +kernel
theorem dL_law_420 : decode cL_law 420 = .ok (.ireturn, 1) := by decide +kernel
theorem dL_law_421 : decode cL_law 421 = .ok (.aload_n 1, 1) := by decide +kernel
theorem dL_law_422 : decode cL_law 422 = .ok (.aload_n 0, 1) := by decide +kernel
theorem dL_law_423 : decode cL_law 423 = .ok (.iload_n 3, 1) := by decide +kernel
theorem dL_law_424 : decode cL_law 424 = .ok (.iconst 1, 1) := by decide +kernel
theorem dL_law_425 : decode cL_law 425 = .ok (.iadd, 1) := by decide +kernel
theorem dL_law_426 : decode cL_law 426 = .ok (.iaload, 1) := by decide +kernel
theorem dL_law_427 : decode cL_law 427 = .ok (.aload_n 0, 1) := by decide +kernel
theorem dL_law_428 : decode cL_law 428 = .ok (.iload_n 3, 1) := by decide +kernel
theorem dL_law_429 : decode cL_law 429 = .ok (.iconst 2, 1) := by decide +kernel
theorem dL_law_430 : decode cL_law 430 = .ok (.iadd, 1) := by decide +kernel
theorem dL_law_431 : decode cL_law 431 = .ok (.iaload, 1) := by decide +kernel
theorem dL_law_432 : decode cL_law 432 = .ok (.invokevirtual 52, 3) := by decide +kernel
theorem dL_law_435 : decode cL_law 435 = .ok (.aload_n 2, 1) := by decide +kernel
theorem dL_law_436 : decode cL_law 436 = .ok (.aload_n 0, 1) := by decide +kernel
theorem dL_law_437 : decode cL_law 437 = .ok (.iload_n 3, 1) := by decide +kernel
theorem dL_law_438 : decode cL_law 438 = .ok (.iconst 1, 1) := by decide +kernel
theorem dL_law_439 : decode cL_law 439 = .ok (.iadd, 1) := by decide +kernel
theorem dL_law_440 : decode cL_law 440 = .ok (.iaload, 1) := by decide +kernel
theorem dL_law_441 : decode cL_law 441 = .ok (.aload_n 0, 1) := by decide +kernel
theorem dL_law_442 : decode cL_law 442 = .ok (.iload_n 3, 1) := by decide +kernel
theorem dL_law_443 : decode cL_law 443 = .ok (.iconst 2, 1) := by decide +kernel
theorem dL_law_444 : decode cL_law 444 = .ok (.iadd, 1) := by decide +kernel
theorem dL_law_445 : decode cL_law 445 = .ok (.iaload, 1) := by decide +kernel
theorem dL_law_446 : decode cL_law 446 = .ok (.invokevirtual 55, 3) := by decide +kernel
theorem dL_law_449 : decode cL_law 449 = .ok (.if_icmp .eq 814, 3) := by decide +kernel
theorem dL_law_452 : decode cL_law 452 = .ok (.iconst 0, 1) := by decide +kernel
theorem dL_law_453 : decode cL_law 453 = .ok (.ireturn, 1) := by decide +kernel
theorem dL_law_454 : decode cL_law 454 = .ok (.aload_n 1, 1) := by decide +kernel
theorem dL_law_455 : decode cL_law 455 = .ok (.aload_n 0, 1) := by decide +kernel
theorem dL_law_456 : decode cL_law 456 = .ok (.iload_n 3, 1) := by decide +kernel
theorem dL_law_457 : decode cL_law 457 = .ok (.iconst 1, 1) := by decide +kernel
theorem dL_law_458 : decode cL_law 458 = .ok (.iadd, 1) := by decide +kernel
theorem dL_law_459 : decode cL_law 459 = .ok (.iaload, 1) := by decide +kernel
theorem dL_law_460 : decode cL_law 460 = .ok (.invokevirtual 56, 3) := by decide +kernel
theorem dL_law_463 : decode cL_law 463 = .ok (.aload_n 2, 1) := by decide +kernel
theorem dL_law_464 : decode cL_law 464 = .ok (.aload_n 0, 1) := by decide +kernel
theorem dL_law_465 : decode cL_law 465 = .ok (.iload_n 3, 1) := by decide +kernel
theorem dL_law_466 : decode cL_law 466 = .ok (.iconst 1, 1) := by decide +kernel
theorem dL_law_467 : decode cL_law 467 = .ok (.iadd, 1) := by decide +kernel
theorem dL_law_468 : decode cL_law 468 = .ok (.iaload, 1) := by decide +kernel
theorem dL_law_469 : decode cL_law 469 = .ok (.invokevirtual 59, 3) := by decide +kernel
theorem dL_law_472 : decode cL_law 472 = .ok (.if_icmp .eq 791, 3) := by decide +kernel
theorem dL_law_475 : decode cL_law 475 = .ok (.iconst 0, 1) := by decide +kernel
theorem dL_law_476 : decode cL_law 476 = .ok (.ireturn, 1) := by decide +kernel
theorem dL_law_477 : decode cL_law 477 = .ok (.aload_n 1, 1) := by decide +kernel
theorem dL_law_478 : decode cL_law 478 = .ok (.invokevirtual 60, 3) := by decide +kernel
theorem dL_law_481 : decode cL_law 481 = .ok (.aload_n 2, 1) := by decide +kernel
theorem dL_law_482 : decode cL_law 482 = .ok (.invokevirtual 63, 3) := by decide +kernel
theorem dL_law_485 : decode cL_law 485 = .ok (.if_icmp .eq 778, 3) := by decide +kernel
theorem dL_law_488 : decode cL_law 488 = .ok (.iconst 0, 1) := by decide +kernel
theorem dL_law_489 : decode cL_law 489 = .ok (.ireturn, 1) := by decide +kernel
theorem dL_law_490 : decode cL_law 490 = .ok (.aload_n 1, 1) := by decide +kernel
theorem dL_law_491 : decode cL_law 491 = .ok (.aload_n 0, 1) := by decide +kernel
theorem dL_law_492 : decode cL_law 492 = .ok (.iload_n 3, 1) := by decide +kernel
theorem dL_law_493 : decode cL_law 493 = .ok (.iconst 1, 1) := by decide +kernel
theorem dL_law_494 : decode cL_law 494 = .ok (.iadd, 1) := by decide +kernel
theorem dL_law_495 : decode cL_law 495 = .ok (.iaload, 1) := by decide +kernel
theorem dL_law_496 : decode cL_law 496 = .ok (.aload_n 0, 1) := by decide +kernel
theorem dL_law_497 : decode cL_law 497 = .ok (.iload_n 3, 1) := by decide +kernel
theorem dL_law_498 : decode cL_law 498 = .ok (.iconst 2, 1) := by decide +kernel
theorem dL_law_499 : decode cL_law 499 = .ok (.iadd, 1) := by decide +kernel
theorem dL_law_500 : decode cL_law 500 = .ok (.iaload, 1) := by decide +kernel
theorem dL_law_501 : decode cL_law 501 = .ok (.invokevirtual 64, 3) := by decide +kernel
theorem dL_law_504 : decode cL_law 504 = .ok (.aload_n 2, 1) := by decide +kernel
theorem dL_law_505 : decode cL_law 505 = .ok (.aload_n 0, 1) := by decide +kernel
theorem dL_law_506 : decode cL_law 506 = .ok (.iload_n 3, 1) := by decide +kernel
theorem dL_law_507 : decode cL_law 507 = .ok (.iconst 1, 1) := by decide +kernel
theorem dL_law_508 : decode cL_law 508 = .ok (.iadd, 1) := by decide +kernel
theorem dL_law_509 : decode cL_law 509 = .ok (.iaload, 1) := by decide +kernel
theorem dL_law_510 : decode cL_law 510 = .ok (.aload_n 0, 1) := by decide +kernel
theorem dL_law_511 : decode cL_law 511 = .ok (.iload_n 3, 1) := by decide +kernel
theorem dL_law_512 : decode cL_law 512 = .ok (.iconst 2, 1) := by decide +kernel
theorem dL_law_513 : decode cL_law 513 = .ok (.iadd, 1) := by decide +kernel
theorem dL_law_514 : decode cL_law 514 = .ok (.iaload, 1) := by decide +kernel
theorem dL_law_515 : decode cL_law 515 = .ok (.invokevirtual 67, 3) := by decide +kernel
theorem dL_law_518 : decode cL_law 518 = .ok (.if_icmp .eq 745, 3) := by decide +kernel
theorem dL_law_521 : decode cL_law 521 = .ok (.iconst 0, 1) := by decide +kernel
theorem dL_law_522 : decode cL_law 522 = .ok (.ireturn, 1) := by decide +kernel
theorem dL_law_523 : decode cL_law 523 = .ok (.aload_n 1, 1) := by decide +kernel
theorem dL_law_524 : decode cL_law 524 = .ok (.aload_n 0, 1) := by decide +kernel
theorem dL_law_525 : decode cL_law 525 = .ok (.iload_n 3, 1) := by decide +kernel
theorem dL_law_526 : decode cL_law 526 = .ok (.iconst 1, 1) := by decide +kernel
theorem dL_law_527 : decode cL_law 527 = .ok (.iadd, 1) := by decide +kernel
theorem dL_law_528 : decode cL_law 528 = .ok (.iaload, 1) := by decide +kernel
theorem dL_law_529 : decode cL_law 529 = .ok (.aload_n 0, 1) := by decide +kernel
theorem dL_law_530 : decode cL_law 530 = .ok (.iload_n 3, 1) := by decide +kernel
theorem dL_law_531 : decode cL_law 531 = .ok (.iconst 2, 1) := by decide +kernel
theorem dL_law_532 : decode cL_law 532 = .ok (.iadd, 1) := by decide +kernel
theorem dL_law_533 : decode cL_law 533 = .ok (.iaload, 1) := by decide +kernel
theorem dL_law_534 : decode cL_law 534 = .ok (.invokevirtual 68, 3) := by decide +kernel
theorem dL_law_537 : decode cL_law 537 = .ok (.aload_n 2, 1) := by decide +kernel
theorem dL_law_538 : decode cL_law 538 = .ok (.aload_n 0, 1) := by decide +kernel
theorem dL_law_539 : decode cL_law 539 = .ok (.iload_n 3, 1) := by decide +kernel
theorem dL_law_540 : decode cL_law 540 = .ok (.iconst 1, 1) := by decide +kernel
theorem dL_law_541 : decode cL_law 541 = .ok (.iadd, 1) := by decide +kernel
theorem dL_law_542 : decode cL_law 542 = .ok (.iaload, 1) := by decide +kernel
theorem dL_law_543 : decode cL_law 543 = .ok (.aload_n 0, 1) := by decide +kernel
theorem dL_law_544 : decode cL_law 544 = .ok (.iload_n 3, 1) := by decide +kernel
theorem dL_law_545 : decode cL_law 545 = .ok (.iconst 2, 1) := by decide +kernel
theorem dL_law_546 : decode cL_law 546 = .ok (.iadd, 1) := by decide +kernel
theorem dL_law_547 : decode cL_law 547 = .ok (.iaload, 1) := by decide +kernel
theorem dL_law_548 : decode cL_law 548 = .ok (.invokevirtual 71, 3) := by decide +kernel
theorem dL_law_551 : decode cL_law 551 = .ok (.if_icmp .eq 712, 3) := by decide +kernel
theorem dL_law_554 : decode cL_law 554 = .ok (.iconst 0, 1) := by decide +kernel
theorem dL_law_555 : decode cL_law 555 = .ok (.ireturn, 1) := by decide +kernel
theorem dL_law_556 : decode cL_law 556 = .ok (.aload_n 1, 1) := by decide +kernel
theorem dL_law_557 : decode cL_law 557 = .ok (.aload_n 0, 1) := by decide +kernel
theorem dL_law_558 : decode cL_law 558 = .ok (.iload_n 3, 1) := by decide +kernel
theorem dL_law_559 : decode cL_law 559 = .ok (.iconst 1, 1) := by decide +kernel
theorem dL_law_560 : decode cL_law 560 = .ok (.iadd, 1) := by decide +kernel
theorem dL_law_561 : decode cL_law 561 = .ok (.iaload, 1) := by decide +kernel
theorem dL_law_562 : decode cL_law 562 = .ok (.aload_n 0, 1) := by decide +kernel
theorem dL_law_563 : decode cL_law 563 = .ok (.iload_n 3, 1) := by decide +kernel
theorem dL_law_564 : decode cL_law 564 = .ok (.iconst 2, 1) := by decide +kernel
theorem dL_law_565 : decode cL_law 565 = .ok (.iadd, 1) := by decide +kernel
theorem dL_law_566 : decode cL_law 566 = .ok (.iaload, 1) := by decide +kernel
theorem dL_law_567 : decode cL_law 567 = .ok (.invokevirtual 72, 3) := by decide +kernel
theorem dL_law_570 : decode cL_law 570 = .ok (.aload_n 2, 1) := by decide +kernel
theorem dL_law_571 : decode cL_law 571 = .ok (.aload_n 0, 1) := by decide +kernel
theorem dL_law_572 : decode cL_law 572 = .ok (.iload_n 3, 1) := by decide +kernel
theorem dL_law_573 : decode cL_law 573 = .ok (.iconst 1, 1) := by decide +kernel
theorem dL_law_574 : decode cL_law 574 = .ok (.iadd, 1) := by decide +kernel
theorem dL_law_575 : decode cL_law 575 = .ok (.iaload, 1) := by decide +kernel
theorem dL_law_576 : decode cL_law 576 = .ok (.aload_n 0, 1) := by decide +kernel
theorem dL_law_577 : decode cL_law 577 = .ok (.iload_n 3, 1) := by decide +kernel
theorem dL_law_578 : decode cL_law 578 = .ok (.iconst 2, 1) := by decide +kernel
theorem dL_law_579 : decode cL_law 579 = .ok (.iadd, 1) := by decide +kernel
theorem dL_law_580 : decode cL_law 580 = .ok (.iaload, 1) := by decide +kernel
theorem dL_law_581 : decode cL_law 581 = .ok (.invokevirtual 75, 3) := by decide +kernel
theorem dL_law_584 : decode cL_law 584 = .ok (.if_icmp .eq 679, 3) := by decide +kernel
theorem dL_law_587 : decode cL_law 587 = .ok (.iconst 0, 1) := by decide +kernel
theorem dL_law_588 : decode cL_law 588 = .ok (.ireturn, 1) := by decide +kernel
theorem dL_law_589 : decode cL_law 589 = .ok (.aload_n 1, 1) := by decide +kernel
theorem dL_law_590 : decode cL_law 590 = .ok (.aload_n 0, 1) := by decide +kernel
theorem dL_law_591 : decode cL_law 591 = .ok (.iload_n 3, 1) := by decide +kernel
theorem dL_law_592 : decode cL_law 592 = .ok (.iconst 1, 1) := by decide +kernel
theorem dL_law_593 : decode cL_law 593 = .ok (.iadd, 1) := by decide +kernel
theorem dL_law_594 : decode cL_law 594 = .ok (.iaload, 1) := by decide +kernel
theorem dL_law_595 : decode cL_law 595 = .ok (.invokevirtual 76, 3) := by decide +kernel
theorem dL_law_598 : decode cL_law 598 = .ok (.aload_n 2, 1) := by decide +kernel
theorem dL_law_599 : decode cL_law 599 = .ok (.aload_n 0, 1) := by decide +kernel
theorem dL_law_600 : decode cL_law 600 = .ok (.iload_n 3, 1) := by decide +kernel
theorem dL_law_601 : decode cL_law 601 = .ok (.iconst 1, 1) := by decide +kernel
theorem dL_law_602 : decode cL_law 602 = .ok (.iadd, 1) := by decide +kernel
theorem dL_law_603 : decode cL_law 603 = .ok (.iaload, 1) := by decide +kernel
theorem dL_law_604 : decode cL_law 604 = .ok (.invokevirtual 79, 3) := by decide +kernel
theorem dL_law_607 : decode cL_law 607 = .ok (.if_icmp .eq 656, 3) := by decide +kernel
theorem dL_law_610 : decode cL_law 610 = .ok (.iconst 0, 1) := by decide +kernel
theorem dL_law_611 : decode cL_law 611 = .ok (.ireturn, 1) := by decide +kernel
theorem dL_law_612 : decode cL_law 612 = .ok (.aload_n 1, 1) := by decide +kernel
theorem dL_law_613 : decode cL_law 613 = .ok (.aload_n 0, 1) := by decide +kernel
theorem dL_law_614 : decode cL_law 614 = .ok (.iload_n 3, 1) := by decide +kernel
theorem dL_law_615 : decode cL_law 615 = .ok (.iconst 1, 1) := by decide +kernel
theorem dL_law_616 : decode cL_law 616 = .ok (.iadd, 1) := by decide +kernel
theorem dL_law_617 : decode cL_law 617 = .ok (.iaload, 1) := by decide +kernel
theorem dL_law_618 : decode cL_law 618 = .ok (.aload_n 0, 1) := by decide +kernel
theorem dL_law_619 : decode cL_law 619 = .ok (.iload_n 3, 1) := by decide +kernel
theorem dL_law_620 : decode cL_law 620 = .ok (.iconst 2, 1) := by decide +kernel
theorem dL_law_621 : decode cL_law 621 = .ok (.iadd, 1) := by decide +kernel
theorem dL_law_622 : decode cL_law 622 = .ok (.iaload, 1) := by decide +kernel
theorem dL_law_623 : decode cL_law 623 = .ok (.invokevirtual 80, 3) := by decide +kernel
theorem dL_law_626 : decode cL_law 626 = .ok (.aload_n 2, 1) := by decide +kernel
theorem dL_law_627 : decode cL_law 627 = .ok (.aload_n 0, 1) := by decide +kernel
theorem dL_law_628 : decode cL_law 628 = .ok (.iload_n 3, 1) := by decide +kernel
theorem dL_law_629 : decode cL_law 629 = .ok (.iconst 1, 1) := by decide +kernel
theorem dL_law_630 : decode cL_law 630 = .ok (.iadd, 1) := by decide +kernel
theorem dL_law_631 : decode cL_law 631 = .ok (.iaload, 1) := by decide +kernel
theorem dL_law_632 : decode cL_law 632 = .ok (.aload_n 0, 1) := by decide +kernel
theorem dL_law_633 : decode cL_law 633 = .ok (.iload_n 3, 1) := by decide +kernel
theorem dL_law_634 : decode cL_law 634 = .ok (.iconst 2, 1) := by decide +kernel
theorem dL_law_635 : decode cL_law 635 = .ok (.iadd, 1) := by decide +kernel
theorem dL_law_636 : decode cL_law 636 = .ok (.iaload, 1) := by decide +kernel
theorem dL_law_637 : decode cL_law 637 = .ok (.invokevirtual 83, 3) := by decide +kernel
theorem dL_law_640 : decode cL_law 640 = .ok (.if_icmp .eq 623, 3) := by decide +kernel
theorem dL_law_643 : decode cL_law 643 = .ok (.iconst 0, 1) := by decide +kernel
theorem dL_law_644 : decode cL_law 644 = .ok (.ireturn, 1) := by decide +kernel
theorem dL_law_645 : decode cL_law 645 = .ok (.aload_n 1, 1) := by decide +kernel
theorem dL_law_646 : decode cL_law 646 = .ok (.aload_n 0, 1) := by decide +kernel
theorem dL_law_647 : decode cL_law 647 = .ok (.iload_n 3, 1) := by decide +kernel
theorem dL_law_648 : decode cL_law 648 = .ok (.iconst 1, 1) := by decide +kernel
theorem dL_law_649 : decode cL_law 649 = .ok (.iadd, 1) := by decide +kernel
theorem dL_law_650 : decode cL_law 650 = .ok (.iaload, 1) := by decide +kernel
theorem dL_law_651 : decode cL_law 651 = .ok (.aload_n 0, 1) := by decide +kernel
theorem dL_law_652 : decode cL_law 652 = .ok (.iload_n 3, 1) := by decide +kernel
theorem dL_law_653 : decode cL_law 653 = .ok (.iconst 2, 1) := by decide +kernel
theorem dL_law_654 : decode cL_law 654 = .ok (.iadd, 1) := by decide +kernel
theorem dL_law_655 : decode cL_law 655 = .ok (.iaload, 1) := by decide +kernel
theorem dL_law_656 : decode cL_law 656 = .ok (.aload_n 0, 1) := by decide +kernel
theorem dL_law_657 : decode cL_law 657 = .ok (.iload_n 3, 1) := by decide +kernel
theorem dL_law_658 : decode cL_law 658 = .ok (.iconst 3, 1) := by decide +kernel
theorem dL_law_659 : decode cL_law 659 = .ok (.iadd, 1) := by decide +kernel
theorem dL_law_660 : decode cL_law 660 = .ok (.iaload, 1) := by decide +kernel
theorem dL_law_661 : decode cL_law 661 = .ok (.invokevirtual 84, 3) := by decide +kernel
theorem dL_law_664 : decode cL_law 664 = .ok (.aload_n 2, 1) := by decide +kernel
theorem dL_law_665 : decode cL_law 665 = .ok (.aload_n 0, 1) := by decide +kernel
theorem dL_law_666 : decode cL_law 666 = .ok (.iload_n 3, 1) := by decide +kernel
theorem dL_law_667 : decode cL_law 667 = .ok (.iconst 1, 1) := by decide +kernel
theorem dL_law_668 : decode cL_law 668 = .ok (.iadd, 1) := by decide +kernel
theorem dL_law_669 : decode cL_law 669 = .ok (.iaload, 1) := by decide +kernel
theorem dL_law_670 : decode cL_law 670 = .ok (.aload_n 0, 1) := by decide +kernel
theorem dL_law_671 : decode cL_law 671 = .ok (.iload_n 3, 1) := by decide +kernel
theorem dL_law_672 : decode cL_law 672 = .ok (.iconst 2, 1) := by decide +kernel
theorem dL_law_673 : decode cL_law 673 = .ok (.iadd, 1) := by decide +kernel
theorem dL_law_674 : decode cL_law 674 = .ok (.iaload, 1) := by decide +kernel
theorem dL_law_675 : decode cL_law 675 = .ok (.aload_n 0, 1) := by decide +kernel
theorem dL_law_676 : decode cL_law 676 = .ok (.iload_n 3, 1) := by decide +kernel
theorem dL_law_677 : decode cL_law 677 = .ok (.iconst 3, 1) := by decide +kernel
theorem dL_law_678 : decode cL_law 678 = .ok (.iadd, 1) := by decide +kernel
theorem dL_law_679 : decode cL_law 679 = .ok (.iaload, 1) := by decide +kernel
theorem dL_law_680 : decode cL_law 680 = .ok (.invokevirtual 88, 3) := by decide +kernel
theorem dL_law_683 : decode cL_law 683 = .ok (.if_icmp .eq 580, 3) := by decide +kernel
theorem dL_law_686 : decode cL_law 686 = .ok (.iconst 0, 1) := by decide +kernel
theorem dL_law_687 : decode cL_law 687 = .ok (.ireturn, 1) := by decide +kernel
theorem dL_law_688 : decode cL_law 688 = .ok (.aload_n 1, 1) := by decide +kernel
theorem dL_law_689 : decode cL_law 689 = .ok (.invokevirtual 89, 3) := by decide +kernel
theorem dL_law_692 : decode cL_law 692 = .ok (.aload_n 2, 1) := by decide +kernel
theorem dL_law_693 : decode cL_law 693 = .ok (.invokevirtual 92, 3) := by decide +kernel
theorem dL_law_696 : decode cL_law 696 = .ok (.if_icmp .eq 567, 3) := by decide +kernel
theorem dL_law_699 : decode cL_law 699 = .ok (.iconst 0, 1) := by decide +kernel
theorem dL_law_700 : decode cL_law 700 = .ok (.ireturn, 1) := by decide +kernel
theorem dL_law_701 : decode cL_law 701 = .ok (.aload_n 1, 1) := by decide +kernel
theorem dL_law_702 : decode cL_law 702 = .ok (.invokevirtual 93, 3) := by decide +kernel
theorem dL_law_705 : decode cL_law 705 = .ok (.aload_n 2, 1) := by decide +kernel
theorem dL_law_706 : decode cL_law 706 = .ok (.invokevirtual 96, 3) := by decide +kernel
theorem dL_law_709 : decode cL_law 709 = .ok (.if_icmp .eq 554, 3) := by decide +kernel
theorem dL_law_712 : decode cL_law 712 = .ok (.iconst 0, 1) := by decide +kernel
theorem dL_law_713 : decode cL_law 713 = .ok (.ireturn, 1) := by decide +kernel
theorem dL_law_714 : decode cL_law 714 = .ok (.aload_n 1, 1) := by decide +kernel
theorem dL_law_715 : decode cL_law 715 = .ok (.aload_n 0, 1) := by decide +kernel
theorem dL_law_716 : decode cL_law 716 = .ok (.iload_n 3, 1) := by decide +kernel
theorem dL_law_717 : decode cL_law 717 = .ok (.iconst 1, 1) := by decide +kernel
theorem dL_law_718 : decode cL_law 718 = .ok (.iadd, 1) := by decide +kernel
theorem dL_law_719 : decode cL_law 719 = .ok (.iaload, 1) := by decide +kernel
theorem dL_law_720 : decode cL_law 720 = .ok (.aload_n 0, 1) := by decide +kernel
theorem dL_law_721 : decode cL_law 721 = .ok (.iload_n 3, 1) := by decide +kernel
theorem dL_law_722 : decode cL_law 722 = .ok (.iconst 2, 1) := by decide +kernel
theorem dL_law_723 : decode cL_law 723 = .ok (.iadd, 1) := by decide +kernel
theorem dL_law_724 : decode cL_law 724 = .ok (.iaload, 1) := by decide +kernel
theorem dL_law_725 : decode cL_law 725 = .ok (.aload_n 0, 1) := by decide +kernel
theorem dL_law_726 : decode cL_law 726 = .ok (.iload_n 3, 1) := by decide +kernel
theorem dL_law_727 : decode cL_law 727 = .ok (.iconst 3, 1) := by decide +kernel
theorem dL_law_728 : decode cL_law 728 = .ok (.iadd, 1) := by decide +kernel
theorem dL_law_729 : decode cL_law 729 = .ok (.iaload, 1) := by decide +kernel
theorem dL_law_730 : decode cL_law 730 = .ok (.invokevirtual 97, 3) := by decide +kernel
theorem dL_law_733 : decode cL_law 733 = .ok (.aload_n 2, 1) := by decide +kernel
theorem dL_law_734 : decode cL_law 734 = .ok (.aload_n 0, 1) := by decide +kernel
theorem dL_law_735 : decode cL_law 735 = .ok (.iload_n 3, 1) := by decide +kernel
theorem dL_law_736 : decode cL_law 736 = .ok (.iconst 1, 1) := by decide +kernel
theorem dL_law_737 : decode cL_law 737 = .ok (.iadd, 1) := by decide +kernel
theorem dL_law_738 : decode cL_law 738 = .ok (.iaload, 1) := by decide +kernel
theorem dL_law_739 : decode cL_law 739 = .ok (.aload_n 0, 1) := by decide +kernel
theorem dL_law_740 : decode cL_law 740 = .ok (.iload_n 3, 1) := by decide +kernel
theorem dL_law_741 : decode cL_law 741 = .ok (.iconst 2, 1) := by decide +kernel
theorem dL_law_742 : decode cL_law 742 = .ok (.iadd, 1) := by decide +kernel
theorem dL_law_743 : decode cL_law 743 = .ok (.iaload, 1) := by decide +kernel
theorem dL_law_744 : decode cL_law 744 = .ok (.aload_n 0, 1) := by decide +kernel
theorem dL_law_745 : decode cL_law 745 = .ok (.iload_n 3, 1) := by decide +kernel
theorem dL_law_746 : decode cL_law 746 = .ok (.iconst 3, 1) := by decide +kernel
theorem dL_law_747 : decode cL_law 747 = .ok (.iadd, 1) := by decide +kernel
theorem dL_law_748 : decode cL_law 748 = .ok (.iaload, 1) := by decide +kernel
theorem dL_law_749 : decode cL_law 749 = .ok (.invokevirtual 100, 3) := by decide +kernel
theorem dL_law_752 : decode cL_law 752 = .ok (.if_icmp .eq 511, 3) := by decide +kernel
theorem dL_law_755 : decode cL_law 755 = .ok (.iconst 0, 1) := by decide +kernel
theorem dL_law_756 : decode cL_law 756 = .ok (.ireturn, 1) := by decide +kernel
theorem dL_law_757 : decode cL_law 757 = .ok (.aload_n 1, 1) := by decide +kernel
theorem dL_law_758 : decode cL_law 758 = .ok (.aload_n 0, 1) := by decide +kernel
theorem dL_law_759 : decode cL_law 759 = .ok (.iload_n 3, 1) := by decide +kernel
theorem dL_law_760 : decode cL_law 760 = .ok (.iconst 1, 1) := by decide +kernel
theorem dL_law_761 : decode cL_law 761 = .ok (.iadd, 1) := by decide +kernel
theorem dL_law_762 : decode cL_law 762 = .ok (.iaload, 1) := by decide +kernel
theorem dL_law_763 : decode cL_law 763 = .ok (.aload_n 0, 1) := by decide +kernel
theorem dL_law_764 : decode cL_law 764 = .ok (.iload_n 3, 1) := by decide +kernel
theorem dL_law_765 : decode cL_law 765 = .ok (.iconst 2, 1) := by decide +kernel
theorem dL_law_766 : decode cL_law 766 = .ok (.iadd, 1) := by decide +kernel
theorem dL_law_767 : decode cL_law 767 = .ok (.iaload, 1) := by decide +kernel
theorem dL_law_768 : decode cL_law 768 = .ok (.invokevirtual 101, 3) := by decide +kernel
theorem dL_law_771 : decode cL_law 771 = .ok (.aload_n 2, 1) := by decide +kernel
theorem dL_law_772 : decode cL_law 772 = .ok (.aload_n 0, 1) := by decide +kernel
theorem dL_law_773 : decode cL_law 773 = .ok (.iload_n 3, 1) := by decide +kernel
theorem dL_law_774 : decode cL_law 774 = .ok (.iconst 1, 1) := by decide +kernel
theorem dL_law_775 : decode cL_law 775 = .ok (.iadd, 1) := by decide +kernel
theorem dL_law_776 : decode cL_law 776 = .ok (.iaload, 1) := by decide +kernel
theorem dL_law_777 : decode cL_law 777 = .ok (.aload_n 0, 1) := by decide +kernel
theorem dL_law_778 : decode cL_law 778 = .ok (.iload_n 3, 1) := by decide +kernel
theorem dL_law_779 : decode cL_law 779 = .ok (.iconst 2, 1) := by decide +kernel
theorem dL_law_780 : decode cL_law 780 = .ok (.iadd, 1) := by decide +kernel
theorem dL_law_781 : decode cL_law 781 = .ok (.iaload, 1) := by decide +kernel
theorem dL_law_782 : decode cL_law 782 = .ok (.invokevirtual 104, 3) := by decide +kernel
theorem dL_law_785 : decode cL_law 785 = .ok (.if_icmp .eq 478, 3) := by decide +kernel
theorem dL_law_788 : decode cL_law 788 = .ok (.iconst 0, 1) := by decide +kernel
theorem dL_law_789 : decode cL_law 789 = .ok (.ireturn, 1) := by decide +kernel
theorem dL_law_790 : decode cL_law 790 = .ok (.aload_n 1, 1) := by decide +kernel
theorem dL_law_791 : decode cL_law 791 = .ok (.aload_n 0, 1) := by decide +kernel
theorem dL_law_792 : decode cL_law 792 = .ok (.iload_n 3, 1) := by decide +kernel
theorem dL_law_793 : decode cL_law 793 = .ok (.iconst 1, 1) := by decide +kernel
theorem dL_law_794 : decode cL_law 794 = .ok (.iadd, 1) := by decide +kernel
theorem dL_law_795 : decode cL_law 795 = .ok (.iaload, 1) := by decide +kernel
theorem dL_law_796 : decode cL_law 796 = .ok (.invokevirtual 105, 3) := by decide +kernel
theorem dL_law_799 : decode cL_law 799 = .ok (.aload_n 2, 1) := by decide +kernel
theorem dL_law_800 : decode cL_law 800 = .ok (.aload_n 0, 1) := by decide +kernel
theorem dL_law_801 : decode cL_law 801 = .ok (.iload_n 3, 1) := by decide +kernel
theorem dL_law_802 : decode cL_law 802 = .ok (.iconst 1, 1) := by decide +kernel
theorem dL_law_803 : decode cL_law 803 = .ok (.iadd, 1) := by decide +kernel
theorem dL_law_804 : decode cL_law 804 = .ok (.iaload, 1) := by decide +kernel
theorem dL_law_805 : decode cL_law 805 = .ok (.invokevirtual 108, 3) := by decide +kernel
theorem dL_law_808 : decode cL_law 808 = .ok (.if_icmp .eq 455, 3) := by decide +kernel
theorem dL_law_811 : decode cL_law 811 = .ok (.iconst 0, 1) := by decide +kernel
theorem dL_law_812 : decode cL_law 812 = .ok (.ireturn, 1) := by decide +kernel
theorem dL_law_813 : decode cL_law 813 = .ok (.aload_n 1, 1) := by decide +kernel
theorem dL_law_814 : decode cL_law 814 = .ok (.aload_n 0, 1) := by decide +kernel
theorem dL_law_815 : decode cL_law 815 = .ok (.iload_n 3, 1) := by decide +kernel
theorem dL_law_816 : decode cL_law 816 = .ok (.iconst 1, 1) := by decide +kernel
theorem dL_law_817 : decode cL_law 817 = .ok (.iadd, 1) := by decide +kernel
theorem dL_law_818 : decode cL_law 818 = .ok (.iaload, 1) := by decide +kernel
theorem dL_law_819 : decode cL_law 819 = .ok (.aload_n 0, 1) := by decide +kernel
theorem dL_law_820 : decode cL_law 820 = .ok (.iload_n 3, 1) := by decide +kernel
theorem dL_law_821 : decode cL_law 821 = .ok (.iconst 2, 1) := by decide +kernel
theorem dL_law_822 : decode cL_law 822 = .ok (.iadd, 1) := by decide +kernel
theorem dL_law_823 : decode cL_law 823 = .ok (.iaload, 1) := by decide +kernel
theorem dL_law_824 : decode cL_law 824 = .ok (.aload_n 0, 1) := by decide +kernel
theorem dL_law_825 : decode cL_law 825 = .ok (.iload_n 3, 1) := by decide +kernel
theorem dL_law_826 : decode cL_law 826 = .ok (.iconst 3, 1) := by decide +kernel
theorem dL_law_827 : decode cL_law 827 = .ok (.iadd, 1) := by decide +kernel
theorem dL_law_828 : decode cL_law 828 = .ok (.iaload, 1) := by decide +kernel
theorem dL_law_829 : decode cL_law 829 = .ok (.invokevirtual 109, 3) := by decide +kernel
theorem dL_law_832 : decode cL_law 832 = .ok (.aload_n 2, 1) := by decide +kernel
theorem dL_law_833 : decode cL_law 833 = .ok (.aload_n 0, 1) := by decide +kernel
theorem dL_law_834 : decode cL_law 834 = .ok (.iload_n 3, 1) := by decide +kernel
theorem dL_law_835 : decode cL_law 835 = .ok (.iconst 1, 1) := by decide +kernel
theorem dL_law_836 : decode cL_law 836 = .ok (.iadd, 1) := by decide +kernel
theorem dL_law_837 : decode cL_law 837 = .ok (.iaload, 1) := by decide +kernel
theorem dL_law_838 : decode cL_law 838 = .ok (.aload_n 0, 1) := by decide +kernel
theorem dL_law_839 : decode cL_law 839 = .ok (.iload_n 3, 1) := by decide +kernel
theorem dL_law_840 : decode cL_law 840 = .ok (.iconst 2, 1) := by decide +kernel
theorem dL_law_841 : decode cL_law 841 = .ok (.iadd, 1) := by decide +kernel
theorem dL_law_842 : decode cL_law 842 = .ok (.iaload, 1) := by decide +kernel
theorem dL_law_843 : decode cL_law 843 = .ok (.aload_n 0, 1) := by decide +kernel
theorem dL_law_844 : decode cL_law 844 = .ok (.iload_n 3, 1) := by decide +kernel
theorem dL_law_845 : decode cL_law 845 = .ok (.iconst 3, 1) := by decide +kernel
theorem dL_law_846 : decode cL_law 846 = .ok (.iadd, 1) := by decide +kernel
theorem dL_law_847 : decode cL_law 847 = .ok (.iaload, 1) := by decide +kernel
theorem dL_law_848 : decode cL_law 848 = .ok (.invokevirtual 112, 3) := by decide +kernel
theorem dL_law_851 : decode cL_law 851 = .ok (.if_icmp .eq 412, 3) := by decide +kernel
theorem dL_law_854 : decode cL_law 854 = .ok (.iconst 0, 1) := by decide +kernel
theorem dL_law_855 : decode cL_law 855 = .ok (.ireturn, 1) := by decide +kernel
theorem dL_law_856 : decode cL_law 856 = .ok (.aload_n 1, 1) := by decide +kernel
theorem dL_law_857 : decode cL_law 857 = .ok (.aload_n 0, 1) := by decide +kernel
theorem dL_law_858 : decode cL_law 858 = .ok (.iload_n 3, 1) := by decide +kernel
theorem dL_law_859 : decode cL_law 859 = .ok (.iconst 1, 1) := by decide +kernel
theorem dL_law_860 : decode cL_law 860 = .ok (.iadd, 1) := by decide +kernel
theorem dL_law_861 : decode cL_law 861 = .ok (.iaload, 1) := by decide +kernel
theorem dL_law_862 : decode cL_law 862 = .ok (.aload_n 0, 1) := by decide +kernel
theorem dL_law_863 : decode cL_law 863 = .ok (.iload_n 3, 1) := by decide +kernel
theorem dL_law_864 : decode cL_law 864 = .ok (.iconst 2, 1) := by decide +kernel
theorem dL_law_865 : decode cL_law 865 = .ok (.iadd, 1) := by decide +kernel
theorem dL_law_866 : decode cL_law 866 = .ok (.iaload, 1) := by decide +kernel
theorem dL_law_867 : decode cL_law 867 = .ok (.aload_n 0, 1) := by decide +kernel
theorem dL_law_868 : decode cL_law 868 = .ok (.iload_n 3, 1) := by decide +kernel
theorem dL_law_869 : decode cL_law 869 = .ok (.iconst 3, 1) := by decide +kernel
theorem dL_law_870 : decode cL_law 870 = .ok (.iadd, 1) := by decide +kernel
theorem dL_law_871 : decode cL_law 871 = .ok (.iaload, 1) := by decide +kernel
theorem dL_law_872 : decode cL_law 872 = .ok (.aload_n 0, 1) := by decide +kernel
theorem dL_law_873 : decode cL_law 873 = .ok (.iload_n 3, 1) := by decide +kernel
theorem dL_law_874 : decode cL_law 874 = .ok (.iconst 4, 1) := by decide +kernel
theorem dL_law_875 : decode cL_law 875 = .ok (.iadd, 1) := by decide +kernel
theorem dL_law_876 : decode cL_law 876 = .ok (.iaload, 1) := by decide +kernel
theorem dL_law_877 : decode cL_law 877 = .ok (.invokevirtual 113, 3) := by decide +kernel
theorem dL_law_880 : decode cL_law 880 = .ok (.aload_n 2, 1) := by decide +kernel
theorem dL_law_881 : decode cL_law 881 = .ok (.aload_n 0, 1) := by decide +kernel
theorem dL_law_882 : decode cL_law 882 = .ok (.iload_n 3, 1) := by decide +kernel
theorem dL_law_883 : decode cL_law 883 = .ok (.iconst 1, 1) := by decide +kernel
theorem dL_law_884 : decode cL_law 884 = .ok (.iadd, 1) := by decide +kernel
theorem dL_law_885 : decode cL_law 885 = .ok (.iaload, 1) := by decide +kernel
theorem dL_law_886 : decode cL_law 886 = .ok (.aload_n 0, 1) := by decide +kernel
theorem dL_law_887 : decode cL_law 887 = .ok (.iload_n 3, 1) := by decide +kernel
theorem dL_law_888 : decode cL_law 888 = .ok (.iconst 2, 1) := by decide +kernel
theorem dL_law_889 : decode cL_law 889 = .ok (.iadd, 1) := by decide +kernel
theorem dL_law_890 : decode cL_law 890 = .ok (.iaload, 1) := by decide +kernel
theorem dL_law_891 : decode cL_law 891 = .ok (.aload_n 0, 1) := by decide +kernel
theorem dL_law_892 : decode cL_law 892 = .ok (.iload_n 3, 1) := by decide +kernel
theorem dL_law_893 : decode cL_law 893 = .ok (.iconst 3, 1) := by decide +kernel
theorem dL_law_894 : decode cL_law 894 = .ok (.iadd, 1) := by decide +kernel
theorem dL_law_895 : decode cL_law 895 = .ok (.iaload, 1) := by decide +kernel
theorem dL_law_896 : decode cL_law 896 = .ok (.aload_n 0, 1) := by decide +kernel
theorem dL_law_897 : decode cL_law 897 = .ok (.iload_n 3, 1) := by decide +kernel
theorem dL_law_898 : decode cL_law 898 = .ok (.iconst 4, 1) := by decide +kernel
theorem dL_law_899 : decode cL_law 899 = .ok (.iadd, 1) := by decide +kernel
theorem dL_law_900 : decode cL_law 900 = .ok (.iaload, 1) := by decide +kernel
theorem dL_law_901 : decode cL_law 901 = .ok (.invokevirtual 117, 3) := by decide +kernel
theorem dL_law_904 : decode cL_law 904 = .ok (.if_icmp .eq 359, 3) := by decide +kernel
theorem dL_law_907 : decode cL_law 907 = .ok (.iconst 0, 1) := by decide +kernel
theorem dL_law_908 : decode cL_law 908 = .ok (.ireturn, 1) := by decide +kernel
theorem dL_law_909 : decode cL_law 909 = .ok (.aload_n 1, 1) := by decide +kernel
theorem dL_law_910 : decode cL_law 910 = .ok (.aload_n 0, 1) := by decide +kernel
theorem dL_law_911 : decode cL_law 911 = .ok (.iload_n 3, 1) := by decide +kernel
theorem dL_law_912 : decode cL_law 912 = .ok (.iconst 1, 1) := by decide +kernel
theorem dL_law_913 : decode cL_law 913 = .ok (.iadd, 1) := by decide +kernel
theorem dL_law_914 : decode cL_law 914 = .ok (.iaload, 1) := by decide +kernel
theorem dL_law_915 : decode cL_law 915 = .ok (.invokevirtual 118, 3) := by decide +kernel
theorem dL_law_918 : decode cL_law 918 = .ok (.aload_n 2, 1) := by decide +kernel
theorem dL_law_919 : decode cL_law 919 = .ok (.aload_n 0, 1) := by decide +kernel
theorem dL_law_920 : decode cL_law 920 = .ok (.iload_n 3, 1) := by decide +kernel
theorem dL_law_921 : decode cL_law 921 = .ok (.iconst 1, 1) := by decide +kernel
theorem dL_law_922 : decode cL_law 922 = .ok (.iadd, 1) := by decide +kernel
theorem dL_law_923 : decode cL_law 923 = .ok (.iaload, 1) := by decide +kernel
theorem dL_law_924 : decode cL_law 924 = .ok (.invokevirtual 121, 3) := by decide +kernel
theorem dL_law_927 : decode cL_law 927 = .ok (.if_icmp .eq 336, 3) := by decide +kernel
theorem dL_law_930 : decode cL_law 930 = .ok (.iconst 0, 1) := by decide +kernel
theorem dL_law_931 : decode cL_law 931 = .ok (.ireturn, 1) := by decide +kernel
theorem dL_law_932 : decode cL_law 932 = .ok (.aload_n 1, 1) := by decide +kernel
theorem dL_law_933 : decode cL_law 933 = .ok (.aload_n 0, 1) := by decide +kernel
theorem dL_law_934 : decode cL_law 934 = .ok (.iload_n 3, 1) := by decide +kernel
theorem dL_law_935 : decode cL_law 935 = .ok (.iconst 1, 1) := by decide +kernel
theorem dL_law_936 : decode cL_law 936 = .ok (.iadd, 1) := by decide +kernel
theorem dL_law_937 : decode cL_law 937 = .ok (.iaload, 1) := by decide +kernel
theorem dL_law_938 : decode cL_law 938 = .ok (.invokevirtual 122, 3) := by decide +kernel
theorem dL_law_941 : decode cL_law 941 = .ok (.aload_n 2, 1) := by decide +kernel
theorem dL_law_942 : decode cL_law 942 = .ok (.aload_n 0, 1) := by decide +kernel
theorem dL_law_943 : decode cL_law 943 = .ok (.iload_n 3, 1) := by decide +kernel
theorem dL_law_944 : decode cL_law 944 = .ok (.iconst 1, 1) := by decide +kernel
theorem dL_law_945 : decode cL_law 945 = .ok (.iadd, 1) := by decide +kernel
theorem dL_law_946 : decode cL_law 946 = .ok (.iaload, 1) := by decide +kernel
theorem dL_law_947 : decode cL_law 947 = .ok (.invokevirtual 125, 3) := by decide +kernel
theorem dL_law_950 : decode cL_law 950 = .ok (.if_icmp .eq 313, 3) := by decide +kernel
theorem dL_law_953 : decode cL_law 953 = .ok (.iconst 0, 1) := by decide +kernel
theorem dL_law_954 : decode cL_law 954 = .ok (.ireturn, 1) := by decide +kernel
theorem dL_law_955 : decode cL_law 955 = .ok (.aload_n 1, 1) := by decide +kernel
theorem dL_law_956 : decode cL_law 956 = .ok (.aload_n 0, 1) := by decide +kernel
theorem dL_law_957 : decode cL_law 957 = .ok (.iload_n 3, 1) := by decide +kernel
theorem dL_law_958 : decode cL_law 958 = .ok (.iconst 1, 1) := by decide +kernel
theorem dL_law_959 : decode cL_law 959 = .ok (.iadd, 1) := by decide +kernel
theorem dL_law_960 : decode cL_law 960 = .ok (.iaload, 1) := by decide +kernel
theorem dL_law_961 : decode cL_law 961 = .ok (.invokevirtual 126, 3) := by decide +kernel
theorem dL_law_964 : decode cL_law 964 = .ok (.aload_n 2, 1) := by decide +kernel
theorem dL_law_965 : decode cL_law 965 = .ok (.aload_n 0, 1) := by decide +kernel
theorem dL_law_966 : decode cL_law 966 = .ok (.iload_n 3, 1) := by decide +kernel
theorem dL_law_967 : decode cL_law 967 = .ok (.iconst 1, 1) := by decide +kernel
theorem dL_law_968 : decode cL_law 968 = .ok (.iadd, 1) := by decide +kernel
theorem dL_law_969 : decode cL_law 969 = .ok (.iaload, 1) := by decide +kernel
theorem dL_law_970 : decode cL_law 970 = .ok (.invokevirtual 129, 3) := by decide +kernel
theorem dL_law_973 : decode cL_law 973 = .ok (.if_icmp .eq 290, 3) := by decide +kernel
theorem dL_law_976 : decode cL_law 976 = .ok (.iconst 0, 1) := by decide +kernel
theorem dL_law_977 : decode cL_law 977 = .ok (.ireturn, 1) := by decide +kernel
theorem dL_law_978 : decode cL_law 978 = .ok (.aload_n 1, 1) := by decide +kernel
theorem dL_law_979 : decode cL_law 979 = .ok (.aload_n 0, 1) := by decide +kernel
theorem dL_law_980 : decode cL_law 980 = .ok (.iload_n 3, 1) := by decide +kernel
theorem dL_law_981 : decode cL_law 981 = .ok (.iconst 1, 1) := by decide +kernel
theorem dL_law_982 : decode cL_law 982 = .ok (.iadd, 1) := by decide +kernel
theorem dL_law_983 : decode cL_law 983 = .ok (.iaload, 1) := by decide +kernel
theorem dL_law_984 : decode cL_law 984 = .ok (.invokevirtual 130, 3) := by decide +kernel
theorem dL_law_987 : decode cL_law 987 = .ok (.aload_n 2, 1) := by decide +kernel
theorem dL_law_988 : decode cL_law 988 = .ok (.aload_n 0, 1) := by decide +kernel
theorem dL_law_989 : decode cL_law 989 = .ok (.iload_n 3, 1) := by decide +kernel
theorem dL_law_990 : decode cL_law 990 = .ok (.iconst 1, 1) := by decide +kernel
theorem dL_law_991 : decode cL_law 991 = .ok (.iadd, 1) := by decide +kernel
theorem dL_law_992 : decode cL_law 992 = .ok (.iaload, 1) := by decide +kernel
theorem dL_law_993 : decode cL_law 993 = .ok (.invokevirtual 133, 3) := by decide +kernel
theorem dL_law_996 : decode cL_law 996 = .ok (.if_icmp .eq 267, 3) := by decide +kernel
theorem dL_law_999 : decode cL_law 999 = .ok (.iconst 0, 1) := by decide +kernel
theorem dL_law_1000 : decode cL_law 1000 = .ok (.ireturn, 1) := by decide +kernel
theorem dL_law_1001 : decode cL_law 1001 = .ok (.aload_n 1, 1) := by decide +kernel
theorem dL_law_1002 : decode cL_law 1002 = .ok (.aload_n 0, 1) := by decide +kernel
theorem dL_law_1003 : decode cL_law 1003 = .ok (.iload_n 3, 1) := by decide +kernel
theorem dL_law_1004 : decode cL_law 1004 = .ok (.iconst 1, 1) := by decide +kernel
theorem dL_law_1005 : decode cL_law 1005 = .ok (.iadd, 1) := by decide +kernel
theorem dL_law_1006 : decode cL_law 1006 = .ok (.iaload, 1) := by decide +kernel
theorem dL_law_1007 : decode cL_law 1007 = .ok (.invokevirtual 134, 3) := by decide +kernel
theorem dL_law_1010 : decode cL_law 1010 = .ok (.aload_n 2, 1) := by decide +kernel
theorem dL_law_1011 : decode cL_law 1011 = .ok (.aload_n 0, 1) := by decide +kernel
theorem dL_law_1012 : decode cL_law 1012 = .ok (.iload_n 3, 1) := by decide +kernel
theorem dL_law_1013 : decode cL_law 1013 = .ok (.iconst 1, 1) := by decide +kernel
theorem dL_law_1014 : decode cL_law 1014 = .ok (.iadd, 1) := by decide +kernel
theorem dL_law_1015 : decode cL_law 1015 = .ok (.iaload, 1) := by decide +kernel
theorem dL_law_1016 : decode cL_law 1016 = .ok (.invokevirtual 137, 3) := by decide +kernel
theorem dL_law_1019 : decode cL_law 1019 = .ok (.if_icmp .eq 244, 3) := by decide +kernel
theorem dL_law_1022 : decode cL_law 1022 = .ok (.iconst 0, 1) := by decide +kernel
theorem dL_law_1023 : decode cL_law 1023 = .ok (.ireturn, 1) := by decide +kernel
theorem dL_law_1024 : decode cL_law 1024 = .ok (.aload_n 1, 1) := by decide +kernel
theorem dL_law_1025 : decode cL_law 1025 = .ok (.aload_n 0, 1) := by decide +kernel
theorem dL_law_1026 : decode cL_law 1026 = .ok (.iload_n 3, 1) := by decide +kernel
theorem dL_law_1027 : decode cL_law 1027 = .ok (.iconst 1, 1) := by decide +kernel
theorem dL_law_1028 : decode cL_law 1028 = .ok (.iadd, 1) := by decide +kernel
theorem dL_law_1029 : decode cL_law 1029 = .ok (.iaload, 1) := by decide +kernel
theorem dL_law_1030 : decode cL_law 1030 = .ok (.aload_n 0, 1) := by decide +kernel
theorem dL_law_1031 : decode cL_law 1031 = .ok (.iload_n 3, 1) := by decide +kernel
theorem dL_law_1032 : decode cL_law 1032 = .ok (.iconst 2, 1) := by decide +kernel
theorem dL_law_1033 : decode cL_law 1033 = .ok (.iadd, 1) := by decide +kernel
theorem dL_law_1034 : decode cL_law 1034 = .ok (.iaload, 1) := by decide +kernel
theorem dL_law_1035 : decode cL_law 1035 = .ok (.aload_n 0, 1) := by decide +kernel
theorem dL_law_1036 : decode cL_law 1036 = .ok (.iload_n 3, 1) := by decide +kernel
theorem dL_law_1037 : decode cL_law 1037 = .ok (.iconst 3, 1) := by decide +kernel
theorem dL_law_1038 : decode cL_law 1038 = .ok (.iadd, 1) := by decide +kernel
theorem dL_law_1039 : decode cL_law 1039 = .ok (.iaload, 1) := by decide +kernel
theorem dL_law_1040 : decode cL_law 1040 = .ok (.invokevirtual 138, 3) := by decide +kernel
theorem dL_law_1043 : decode cL_law 1043 = .ok (.aload_n 2, 1) := by decide +kernel
theorem dL_law_1044 : decode cL_law 1044 = .ok (.aload_n 0, 1) := by decide +kernel
theorem dL_law_1045 : decode cL_law 1045 = .ok (.iload_n 3, 1) := by decide +kernel
theorem dL_law_1046 : decode cL_law 1046 = .ok (.iconst 1, 1) := by decide +kernel
theorem dL_law_1047 : decode cL_law 1047 = .ok (.iadd, 1) := by decide +kernel
theorem dL_law_1048 : decode cL_law 1048 = .ok (.iaload, 1) := by decide +kernel
theorem dL_law_1049 : decode cL_law 1049 = .ok (.aload_n 0, 1) := by decide +kernel
theorem dL_law_1050 : decode cL_law 1050 = .ok (.iload_n 3, 1) := by decide +kernel
theorem dL_law_1051 : decode cL_law 1051 = .ok (.iconst 2, 1) := by decide +kernel
theorem dL_law_1052 : decode cL_law 1052 = .ok (.iadd, 1) := by decide +kernel
theorem dL_law_1053 : decode cL_law 1053 = .ok (.iaload, 1) := by decide +kernel
theorem dL_law_1054 : decode cL_law 1054 = .ok (.aload_n 0, 1) := by decide +kernel
theorem dL_law_1055 : decode cL_law 1055 = .ok (.iload_n 3, 1) := by decide +kernel
theorem dL_law_1056 : decode cL_law 1056 = .ok (.iconst 3, 1) := by decide +kernel
theorem dL_law_1057 : decode cL_law 1057 = .ok (.iadd, 1) := by decide +kernel
theorem dL_law_1058 : decode cL_law 1058 = .ok (.iaload, 1) := by decide +kernel
theorem dL_law_1059 : decode cL_law 1059 = .ok (.invokevirtual 141, 3) := by decide +kernel
theorem dL_law_1062 : decode cL_law 1062 = .ok (.if_icmp .eq 201, 3) := by decide +kernel
theorem dL_law_1065 : decode cL_law 1065 = .ok (.iconst 0, 1) := by decide +kernel
theorem dL_law_1066 : decode cL_law 1066 = .ok (.ireturn, 1) := by decide +kernel
theorem dL_law_1067 : decode cL_law 1067 = .ok (.aload_n 1, 1) := by decide +kernel
theorem dL_law_1068 : decode cL_law 1068 = .ok (.aload_n 0, 1) := by decide +kernel
theorem dL_law_1069 : decode cL_law 1069 = .ok (.iload_n 3, 1) := by decide +kernel
theorem dL_law_1070 : decode cL_law 1070 = .ok (.iconst 1, 1) := by decide +kernel
theorem dL_law_1071 : decode cL_law 1071 = .ok (.iadd, 1) := by decide +kernel
theorem dL_law_1072 : decode cL_law 1072 = .ok (.iaload, 1) := by decide +kernel
theorem dL_law_1073 : decode cL_law 1073 = .ok (.aload_n 0, 1) := by decide +kernel
theorem dL_law_1074 : decode cL_law 1074 = .ok (.iload_n 3, 1) := by decide +kernel
theorem dL_law_1075 : decode cL_law 1075 = .ok (.iconst 2, 1) := by decide +kernel
theorem dL_law_1076 : decode cL_law 1076 = .ok (.iadd, 1) := by decide +kernel
theorem dL_law_1077 : decode cL_law 1077 = .ok (.iaload, 1) := by decide +kernel
theorem dL_law_1078 : decode cL_law 1078 = .ok (.invokevirtual 142, 3) := by decide +kernel
theorem dL_law_1081 : decode cL_law 1081 = .ok (.aload_n 2, 1) := by decide +kernel
theorem dL_law_1082 : decode cL_law 1082 = .ok (.aload_n 0, 1) := by decide +kernel
theorem dL_law_1083 : decode cL_law 1083 = .ok (.iload_n 3, 1) := by decide +kernel
theorem dL_law_1084 : decode cL_law 1084 = .ok (.iconst 1, 1) := by decide +kernel
theorem dL_law_1085 : decode cL_law 1085 = .ok (.iadd, 1) := by decide +kernel
theorem dL_law_1086 : decode cL_law 1086 = .ok (.iaload, 1) := by decide +kernel
theorem dL_law_1087 : decode cL_law 1087 = .ok (.aload_n 0, 1) := by decide +kernel
theorem dL_law_1088 : decode cL_law 1088 = .ok (.iload_n 3, 1) := by decide +kernel
theorem dL_law_1089 : decode cL_law 1089 = .ok (.iconst 2, 1) := by decide +kernel
theorem dL_law_1090 : decode cL_law 1090 = .ok (.iadd, 1) := by decide +kernel
theorem dL_law_1091 : decode cL_law 1091 = .ok (.iaload, 1) := by decide +kernel
theorem dL_law_1092 : decode cL_law 1092 = .ok (.invokevirtual 145, 3) := by decide +kernel
theorem dL_law_1095 : decode cL_law 1095 = .ok (.if_icmp .eq 168, 3) := by decide +kernel
theorem dL_law_1098 : decode cL_law 1098 = .ok (.iconst 0, 1) := by decide +kernel
theorem dL_law_1099 : decode cL_law 1099 = .ok (.ireturn, 1) := by decide +kernel
theorem dL_law_1100 : decode cL_law 1100 = .ok (.aload_n 1, 1) := by decide +kernel
theorem dL_law_1101 : decode cL_law 1101 = .ok (.aload_n 0, 1) := by decide +kernel
theorem dL_law_1102 : decode cL_law 1102 = .ok (.iload_n 3, 1) := by decide +kernel
theorem dL_law_1103 : decode cL_law 1103 = .ok (.iconst 1, 1) := by decide +kernel
theorem dL_law_1104 : decode cL_law 1104 = .ok (.iadd, 1) := by decide +kernel
theorem dL_law_1105 : decode cL_law 1105 = .ok (.iaload, 1) := by decide +kernel
theorem dL_law_1106 : decode cL_law 1106 = .ok (.aload_n 0, 1) := by decide +kernel
theorem dL_law_1107 : decode cL_law 1107 = .ok (.iload_n 3, 1) := by decide +kernel
theorem dL_law_1108 : decode cL_law 1108 = .ok (.iconst 2, 1) := by decide +kernel
theorem dL_law_1109 : decode cL_law 1109 = .ok (.iadd, 1) := by decide +kernel
theorem dL_law_1110 : decode cL_law 1110 = .ok (.iaload, 1) := by decide +kernel
theorem dL_law_1111 : decode cL_law 1111 = .ok (.invokevirtual 146, 3) := by decide +kernel
theorem dL_law_1114 : decode cL_law 1114 = .ok (.aload_n 2, 1) := by decide +kernel
theorem dL_law_1115 : decode cL_law 1115 = .ok (.aload_n 0, 1) := by decide +kernel
theorem dL_law_1116 : decode cL_law 1116 = .ok (.iload_n 3, 1) := by decide +kernel
theorem dL_law_1117 : decode cL_law 1117 = .ok (.iconst 1, 1) := by decide +kernel
theorem dL_law_1118 : decode cL_law 1118 = .ok (.iadd, 1) := by decide +kernel
theorem dL_law_1119 : decode cL_law 1119 = .ok (.iaload, 1) := by decide +kernel
theorem dL_law_1120 : decode cL_law 1120 = .ok (.aload_n 0, 1) := by decide +kernel
theorem dL_law_1121 : decode cL_law 1121 = .ok (.iload_n 3, 1) := by decide +kernel
theorem dL_law_1122 : decode cL_law 1122 = .ok (.iconst 2, 1) := by decide +kernel
theorem dL_law_1123 : decode cL_law 1123 = .ok (.iadd, 1) := by decide +kernel
theorem dL_law_1124 : decode cL_law 1124 = .ok (.iaload, 1) := by decide +kernel
theorem dL_law_1125 : decode cL_law 1125 = .ok (.invokevirtual 149, 3) := by decide +kernel
theorem dL_law_1128 : decode cL_law 1128 = .ok (.if_icmp .eq 135, 3) := by decide +kernel
theorem dL_law_1131 : decode cL_law 1131 = .ok (.iconst 0, 1) := by decide +kernel
theorem dL_law_1132 : decode cL_law 1132 = .ok (.ireturn, 1) := by decide +kernel
theorem dL_law_1133 : decode cL_law 1133 = .ok (.aload_n 1, 1) := by decide +kernel
theorem dL_law_1134 : decode cL_law 1134 = .ok (.aload_n 0, 1) := by decide +kernel
theorem dL_law_1135 : decode cL_law 1135 = .ok (.iload_n 3, 1) := by decide +kernel
theorem dL_law_1136 : decode cL_law 1136 = .ok (.iconst 1, 1) := by decide +kernel
theorem dL_law_1137 : decode cL_law 1137 = .ok (.iadd, 1) := by decide +kernel
theorem dL_law_1138 : decode cL_law 1138 = .ok (.iaload, 1) := by decide +kernel
theorem dL_law_1139 : decode cL_law 1139 = .ok (.invokevirtual 150, 3) := by decide +kernel
theorem dL_law_1142 : decode cL_law 1142 = .ok (.aload_n 2, 1) := by decide +kernel
theorem dL_law_1143 : decode cL_law 1143 = .ok (.aload_n 0, 1) := by decide +kernel
theorem dL_law_1144 : decode cL_law 1144 = .ok (.iload_n 3, 1) := by decide +kernel
theorem dL_law_1145 : decode cL_law 1145 = .ok (.iconst 1, 1) := by decide +kernel
theorem dL_law_1146 : decode cL_law 1146 = .ok (.iadd, 1) := by decide +kernel
theorem dL_law_1147 : decode cL_law 1147 = .ok (.iaload, 1) := by decide +kernel
theorem dL_law_1148 : decode cL_law 1148 = .ok (.invokevirtual 154, 3) := by decide +kernel
theorem dL_law_1151 : decode cL_law 1151 = .ok (.lcmp, 1) := by decide +kernel
theorem dL_law_1152 : decode cL_law 1152 = .ok (.ifCond .eq 111, 3) := by decide +kernel
theorem dL_law_1155 : decode cL_law 1155 = .ok (.iconst 0, 1) := by decide +kernel
theorem dL_law_1156 : decode cL_law 1156 = .ok (.ireturn, 1) := by decide +kernel
theorem dL_law_1157 : decode cL_law 1157 = .ok (.aload_n 1, 1) := by decide +kernel
theorem dL_law_1158 : decode cL_law 1158 = .ok (.aload_n 0, 1) := by decide +kernel
theorem dL_law_1159 : decode cL_law 1159 = .ok (.iload_n 3, 1) := by decide +kernel
theorem dL_law_1160 : decode cL_law 1160 = .ok (.iconst 1, 1) := by decide +kernel
theorem dL_law_1161 : decode cL_law 1161 = .ok (.iadd, 1) := by decide +kernel
theorem dL_law_1162 : decode cL_law 1162 = .ok (.iaload, 1) := by decide +kernel
theorem dL_law_1163 : decode cL_law 1163 = .ok (.invokevirtual 155, 3) := by decide +kernel
theorem dL_law_1166 : decode cL_law 1166 = .ok (.aload_n 2, 1) := by decide +kernel
theorem dL_law_1167 : decode cL_law 1167 = .ok (.aload_n 0, 1) := by decide +kernel
theorem dL_law_1168 : decode cL_law 1168 = .ok (.iload_n 3, 1) := by decide +kernel
theorem dL_law_1169 : decode cL_law 1169 = .ok (.iconst 1, 1) := by decide +kernel
theorem dL_law_1170 : decode cL_law 1170 = .ok (.iadd, 1) := by decide +kernel
theorem dL_law_1171 : decode cL_law 1171 = .ok (.iaload, 1) := by decide +kernel
theorem dL_law_1172 : decode cL_law 1172 = .ok (.invokevirtual 158, 3) := by decide +kernel
theorem dL_law_1175 : decode cL_law 1175 = .ok (.if_icmp .eq 88, 3) := by decide +kernel
theorem dL_law_1178 : decode cL_law 1178 = .ok (.iconst 0, 1) := by decide +kernel
theorem dL_law_1179 : decode cL_law 1179 = .ok (.ireturn, 1) := by decide +kernel
theorem dL_law_1180 : decode cL_law 1180 = .ok (.aload_n 1, 1) := by decide +kernel
theorem dL_law_1181 : decode cL_law 1181 = .ok (.aload_n 0, 1) := by decide +kernel
theorem dL_law_1182 : decode cL_law 1182 = .ok (.iload_n 3, 1) := by decide +kernel
theorem dL_law_1183 : decode cL_law 1183 = .ok (.iconst 1, 1) := by decide +kernel
theorem dL_law_1184 : decode cL_law 1184 = .ok (.iadd, 1) := by decide +kernel
theorem dL_law_1185 : decode cL_law 1185 = .ok (.iaload, 1) := by decide +kernel
theorem dL_law_1186 : decode cL_law 1186 = .ok (.invokevirtual 159, 3) := by decide +kernel
theorem dL_law_1189 : decode cL_law 1189 = .ok (.aload_n 2, 1) := by decide +kernel
theorem dL_law_1190 : decode cL_law 1190 = .ok (.aload_n 0, 1) := by decide +kernel
theorem dL_law_1191 : decode cL_law 1191 = .ok (.iload_n 3, 1) := by decide +kernel
theorem dL_law_1192 : decode cL_law 1192 = .ok (.iconst 1, 1) := by decide +kernel
theorem dL_law_1193 : decode cL_law 1193 = .ok (.iadd, 1) := by decide +kernel
theorem dL_law_1194 : decode cL_law 1194 = .ok (.iaload, 1) := by decide +kernel
theorem dL_law_1195 : decode cL_law 1195 = .ok (.invokevirtual 162, 3) := by decide +kernel
theorem dL_law_1198 : decode cL_law 1198 = .ok (.if_icmp .eq 65, 3) := by decide +kernel
theorem dL_law_1201 : decode cL_law 1201 = .ok (.iconst 0, 1) := by decide +kernel
theorem dL_law_1202 : decode cL_law 1202 = .ok (.ireturn, 1) := by decide +kernel
theorem dL_law_1203 : decode cL_law 1203 = .ok (.aload_n 1, 1) := by decide +kernel
theorem dL_law_1204 : decode cL_law 1204 = .ok (.aload_n 0, 1) := by decide +kernel
theorem dL_law_1205 : decode cL_law 1205 = .ok (.iload_n 3, 1) := by decide +kernel
theorem dL_law_1206 : decode cL_law 1206 = .ok (.iconst 1, 1) := by decide +kernel
theorem dL_law_1207 : decode cL_law 1207 = .ok (.iadd, 1) := by decide +kernel
theorem dL_law_1208 : decode cL_law 1208 = .ok (.iaload, 1) := by decide +kernel
theorem dL_law_1209 : decode cL_law 1209 = .ok (.invokevirtual 163, 3) := by decide +kernel
theorem dL_law_1212 : decode cL_law 1212 = .ok (.aload_n 2, 1) := by decide +kernel
theorem dL_law_1213 : decode cL_law 1213 = .ok (.aload_n 0, 1) := by decide +kernel
theorem dL_law_1214 : decode cL_law 1214 = .ok (.iload_n 3, 1) := by decide +kernel
theorem dL_law_1215 : decode cL_law 1215 = .ok (.iconst 1, 1) := by decide +kernel
theorem dL_law_1216 : decode cL_law 1216 = .ok (.iadd, 1) := by decide +kernel
theorem dL_law_1217 : decode cL_law 1217 = .ok (.iaload, 1) := by decide +kernel
theorem dL_law_1218 : decode cL_law 1218 = .ok (.invokevirtual 166, 3) := by decide +kernel
theorem dL_law_1221 : decode cL_law 1221 = .ok (.if_icmp .eq 42, 3) := by decide +kernel
theorem dL_law_1224 : decode cL_law 1224 = .ok (.iconst 0, 1) := by decide +kernel
theorem dL_law_1225 : decode cL_law 1225 = .ok (.ireturn, 1) := by decide +kernel
theorem dL_law_1226 : decode cL_law 1226 = .ok (.aload_n 1, 1) := by decide +kernel
theorem dL_law_1227 : decode cL_law 1227 = .ok (.aload_n 0, 1) := by decide +kernel
theorem dL_law_1228 : decode cL_law 1228 = .ok (.iload_n 3, 1) := by decide +kernel
theorem dL_law_1229 : decode cL_law 1229 = .ok (.iconst 1, 1) := by decide +kernel
theorem dL_law_1230 : decode cL_law 1230 = .ok (.iadd, 1) := by decide +kernel
theorem dL_law_1231 : decode cL_law 1231 = .ok (.iaload, 1) := by decide +kernel
theorem dL_law_1232 : decode cL_law 1232 = .ok (.invokevirtual 167, 3) := by decide +kernel
theorem dL_law_1235 : decode cL_law 1235 = .ok (.aload_n 2, 1) := by decide +kernel
theorem dL_law_1236 : decode cL_law 1236 = .ok (.aload_n 0, 1) := by decide +kernel
theorem dL_law_1237 : decode cL_law 1237 = .ok (.iload_n 3, 1) := by decide +kernel
theorem dL_law_1238 : decode cL_law 1238 = .ok (.iconst 1, 1) := by decide +kernel
theorem dL_law_1239 : decode cL_law 1239 = .ok (.iadd, 1) := by decide +kernel
theorem dL_law_1240 : decode cL_law 1240 = .ok (.iaload, 1) := by decide +kernel
theorem dL_law_1241 : decode cL_law 1241 = .ok (.invokevirtual 170, 3) := by decide +kernel
theorem dL_law_1244 : decode cL_law 1244 = .ok (.if_icmp .eq 19, 3) := by decide +kernel
theorem dL_law_1247 : decode cL_law 1247 = .ok (.iconst 0, 1) := by decide +kernel
theorem dL_law_1248 : decode cL_law 1248 = .ok (.ireturn, 1) := by decide +kernel
theorem dL_law_1249 : decode cL_law 1249 = .ok (.aload_n 1, 1) := by decide +kernel
theorem dL_law_1250 : decode cL_law 1250 = .ok (.invokevirtual 171, 3) := by decide +kernel
theorem dL_law_1253 : decode cL_law 1253 = .ok (.aload_n 2, 1) := by decide +kernel
theorem dL_law_1254 : decode cL_law 1254 = .ok (.invokevirtual 175, 3) := by decide +kernel
theorem dL_law_1257 : decode cL_law 1257 = .ok (.lcmp, 1) := by decide +kernel
theorem dL_law_1258 : decode cL_law 1258 = .ok (.ifCond .eq 5, 3) := by decide +kernel
theorem dL_law_1261 : decode cL_law 1261 = .ok (.iconst 0, 1) := by decide +kernel
theorem dL_law_1262 : decode cL_law 1262 = .ok (.ireturn, 1) := by decide +kernel
theorem dL_law_1263 : decode cL_law 1263 = .ok (.iinc 3 5, 3) := by decide +kernel
theorem dL_law_1266 : decode cL_law 1266 = .ok (.goto (-1248), 3) := by decide +kernel
theorem dL_law_1269 : decode cL_law 1269 = .ok (.iconst 1, 1) := by decide +kernel
theorem dL_law_1270 : decode cL_law 1270 = .ok (.ireturn, 1) := by decide +kernel
end
section
theorem dX0_init_0 : decode cX0_init 0 = .ok (.aload_n 0, 1) := by decide +kernel
theorem dX0_init_1 : decode cX0_init 1 = .ok (.invokespecial 3, 3) := by decide +kernel
theorem dX0_init_4 : decode cX0_init 4 = .ok (.aload_n 0, 1) := by decide +kernel
theorem dX0_init_5 : decode cX0_init 5 = .ok (.iconst 5, 1) := by decide +kernel
theorem dX0_init_6 : decode cX0_init 6 = .ok (.newarray .int, 2) := by decide +kernel
theorem dX0_init_8 : decode cX0_init 8 = .ok (.putfield 9, 3) := by decide +kernel
theorem dX0_init_11 : decode cX0_init 11 = .ok (.aload_n 0, 1) := by decide +kernel
theorem dX0_init_12 : decode cX0_init 12 = .ok (.bipush 7, 2) := by decide +kernel
theorem dX0_init_14 : decode cX0_init 14 = .ok (.newarray .int, 2) := by decide +kernel
theorem dX0_init_16 : decode cX0_init 16 = .ok (.putfield 15, 3) := by decide +kernel
theorem dX0_init_19 : decode cX0_init 19 = .ok (.aload_n 0, 1) := by decide +kernel
theorem dX0_init_20 : decode cX0_init 20 = .ok (.bipush 7, 2) := by decide +kernel
theorem dX0_init_22 : decode cX0_init 22 = .ok (.newarray .int, 2) := by decide +kernel
theorem dX0_init_24 : decode cX0_init 24 = .ok (.putfield 18, 3) := by decide +kernel
theorem dX0_init_27 : decode cX0_init 27 = .ok (.aload_n 0, 1) := by decide +kernel
theorem dX0_init_28 : decode cX0_init 28 = .ok (.bipush 7, 2) := by decide +kernel
theorem dX0_init_30 : decode cX0_init 30 = .ok (.newarray .int, 2) := by decide +kernel
theorem dX0_init_32 : decode cX0_init 32 = .ok (.putfield 21, 3) := by decide +kernel
theorem dX0_init_35 : decode cX0_init 35 = .ok (.aload_n 0, 1) := by decide +kernel
theorem dX0_init_36 : decode cX0_init 36 = .ok (.new 24, 3) := by decide +kernel
theorem dX0_init_39 : decode cX0_init 39 = .ok (.dup, 1) := by decide +kernel
theorem dX0_init_40 : decode cX0_init 40 = .ok (.iconst 5, 1) := by decide +kernel
theorem dX0_init_41 : decode cX0_init 41 = .ok (.iconst 3, 1) := by decide +kernel
theorem dX0_init_42 : decode cX0_init 42 = .ok (.invokespecial 26, 3) := by decide +kernel
theorem dX0_init_45 : decode cX0_init 45 = .ok (.putfield 29, 3) := by decide +kernel
theorem dX0_init_48 : decode cX0_init 48 = .ok (.aload_n 0, 1) := by decide +kernel
theorem dX0_init_49 : decode cX0_init 49 = .ok (.new 24, 3) := by decide +kernel
theorem dX0_init_52 : decode cX0_init 52 = .ok (.dup, 1) := by decide +kernel
theorem dX0_init_53 : decode cX0_init 53 = .ok (.bipush 6, 2) := by decide +kernel
theorem dX0_init_55 : decode cX0_init 55 = .ok (.iconst 3, 1) := by decide +kernel
theorem dX0_init_56 : decode cX0_init 56 = .ok (.invokespecial 26, 3) := by decide +kernel
theorem dX0_init_59 : decode cX0_init 59 = .ok (.putfield 33, 3) := by decide +kernel
theorem dX0_init_62 : decode cX0_init 62 = .ok (.aload_n 0, 1) := by decide +kernel
theorem dX0_init_63 : decode cX0_init 63 = .ok (.new 24, 3) := by decide +kernel
theorem dX0_init_66 : decode cX0_init 66 = .ok (.dup, 1) := by decide +kernel
theorem dX0_init_67 : decode cX0_init 67 = .ok (.bipush 6, 2) := by decide +kernel
theorem dX0_init_69 : decode cX0_init 69 = .ok (.iconst 4, 1) := by decide +kernel
theorem dX0_init_70 : decode cX0_init 70 = .ok (.invokespecial 26, 3) := by decide +kernel
theorem dX0_init_73 : decode cX0_init 73 = .ok (.putfield 36, 3) := by decide +kernel
theorem dX0_init_76 : decode cX0_init 76 = .ok (.aload_n 0, 1) := by decide +kernel
theorem dX0_init_77 : decode cX0_init 77 = .ok (.new 24, 3) := by decide +kernel
theorem dX0_init_80 : decode cX0_init 80 = .ok (.dup, 1) := by decide +kernel
theorem dX0_init_81 : decode cX0_init 81 = .ok (.bipush 8, 2) := by decide +kernel
theorem dX0_init_83 : decode cX0_init 83 = .ok (.bipush 10, 2) := by decide +kernel
theorem dX0_init_85 : decode cX0_init 85 = .ok (.invokespecial 26, 3) := by decide +kernel
theorem dX0_init_88 : decode cX0_init 88 = .ok (.putfield 39, 3) := by decide +kernel
theorem dX0_init_91 : decode cX0_init 91 = .ok (.return_, 1) := by decide +kernel
theorem dX0_reset_0 : decode cX0_reset 0 = .ok (.iconst 0, 1) := by decide +kernel
theorem dX0_reset_1 : decode cX0_reset 1 = .ok (.istore_n 1, 1) := by decide +kernel
theorem dX0_reset_2 : decode cX0_reset 2 = .ok (.iload_n 1, 1) := by decide +kernel
theorem dX0_reset_3 : decode cX0_reset 3 = .ok (.iconst 5, 1) := by decide +kernel
theorem dX0_reset_4 : decode cX0_reset 4 = .ok (.if_icmp .ge 16, 3) := by decide +kernel
theorem dX0_reset_7 : decode cX0_reset 7 = .ok (.aload_n 0, 1) := by decide +kernel
theorem dX0_reset_8 : decode cX0_reset 8 = .ok (.getfield 9, 3) := by decide +kernel
theorem dX0_reset_11 : decode cX0_reset 11 = .ok (.iload_n 1, 1) := by decide +kernel
theorem dX0_reset_12 : decode cX0_reset 12 = .ok (.iconst 0, 1) := by decide +kernel
theorem dX0_reset_13 : decode cX0_reset 13 = .ok (.iastore, 1) := by decide +kernel
theorem dX0_reset_14 : decode cX0_reset 14 = .ok (.iinc 1 1, 3) := by decide +kernel
theorem dX0_reset_17 : decode cX0_reset 17 = .ok (.goto (-15), 3) := by decide +kernel
theorem dX0_reset_20 : decode cX0_reset 20 = .ok (.aload_n 0, 1) := by decide +kernel
theorem dX0_reset_21 : decode cX0_reset 21 = .ok (.iconst 0, 1) := by decide +kernel
theorem dX0_reset_22 : decode cX0_reset 22 = .ok (.putfield 42, 3) := by decide +kernel
theorem dX0_reset_25 : decode cX0_reset 25 = .ok (.aload_n 0, 1) := by decide +kernel
theorem dX0_reset_26 : decode cX0_reset 26 = .ok (.iconst 0, 1) := by decide +kernel
theorem dX0_reset_27 : decode cX0_reset 27 = .ok (.putfield 46, 3) := by decide +kernel
theorem dX0_reset_30 : decode cX0_reset 30 = .ok (.aload_n 0, 1) := by decide +kernel
theorem dX0_reset_31 : decode cX0_reset 31 = .ok (.iconst 0, 1) := by decide +kernel
theorem dX0_reset_32 : decode cX0_reset 32 = .ok (.putfield 49, 3) := by decide +kernel
theorem dX0_reset_35 : decode cX0_reset 35 = .ok (.aload_n 0, 1) := by decide +kernel
theorem dX0_reset_36 : decode cX0_reset 36 = .ok (.iconst 0, 1) := by decide +kernel
theorem dX0_reset_37 : decode cX0_reset 37 = .ok (.putfield 52, 3) := by decide +kernel
theorem dX0_reset_40 : decode cX0_reset 40 = .ok (.aload_n 0, 1) := by decide +kernel
theorem dX0_reset_41 : decode cX0_reset 41 = .ok (.getfield 29, 3) := by decide +kernel
theorem dX0_reset_44 : decode cX0_reset 44 = .ok (.invokevirtual 55, 3) := by decide +kernel
theorem dX0_reset_47 : decode cX0_reset 47 = .ok (.pop, 1) := by decide +kernel
theorem dX0_reset_48 : decode cX0_reset 48 = .ok (.aload_n 0, 1) := by decide +kernel
theorem dX0_reset_49 : decode cX0_reset 49 = .ok (.getfield 33, 3) := by decide +kernel
theorem dX0_reset_52 : decode cX0_reset 52 = .ok (.invokevirtual 55, 3) := by decide +kernel
theorem dX0_reset_55 : decode cX0_reset 55 = .ok (.pop, 1) := by decide +kernel
theorem dX0_reset_56 : decode cX0_reset 56 = .ok (.aload_n 0, 1) := by decide +kernel
theorem dX0_reset_57 : decode cX0_reset 57 = .ok (.getfield 36, 3) := by decide +kernel
theorem dX0_reset_60 : decode cX0_reset 60 = .ok (.invokevirtual 55, 3) := by decide +kernel
theorem dX0_reset_63 : decode cX0_reset 63 = .ok (.pop, 1) := by decide +kernel
theorem dX0_reset_64 : decode cX0_reset 64 = .ok (.aload_n 0, 1) := by decide +kernel
theorem dX0_reset_65 : decode cX0_reset 65 = .ok (.getfield 39, 3) := by decide +kernel
theorem dX0_reset_68 : decode cX0_reset 68 = .ok (.invokevirtual 55, 3) := by decide +kernel
theorem dX0_reset_71 : decode cX0_reset 71 = .ok (.pop, 1) := by decide +kernel
theorem dX0_reset_72 : decode cX0_reset 72 = .ok (.return_, 1) := by decide +kernel
theorem dX0_takeFrom_0 : decode cX0_takeFrom 0 = .ok (.aload_n 1, 1) := by decide +kernel
theorem dX0_takeFrom_1 : decode cX0_takeFrom 1 = .ok (.getfield 9, 3) := by decide +kernel
theorem dX0_takeFrom_4 : decode cX0_takeFrom 4 = .ok (.iconst 0, 1) := by decide +kernel
theorem dX0_takeFrom_5 : decode cX0_takeFrom 5 = .ok (.aload_n 0, 1) := by decide +kernel
theorem dX0_takeFrom_6 : decode cX0_takeFrom 6 = .ok (.getfield 9, 3) := by decide +kernel
theorem dX0_takeFrom_9 : decode cX0_takeFrom 9 = .ok (.iconst 0, 1) := by decide +kernel
theorem dX0_takeFrom_10 : decode cX0_takeFrom 10 = .ok (.iconst 5, 1) := by decide +kernel
theorem dX0_takeFrom_11 : decode cX0_takeFrom 11 = .ok (.invokestatic 59, 3) := by decide +kernel
theorem dX0_takeFrom_14 : decode cX0_takeFrom 14 = .ok (.aload_n 1, 1) := by decide +kernel
theorem dX0_takeFrom_15 : decode cX0_takeFrom 15 = .ok (.getfield 15, 3) := by decide +kernel
theorem dX0_takeFrom_18 : decode cX0_takeFrom 18 = .ok (.iconst 0, 1) := by decide +kernel
theorem dX0_takeFrom_19 : decode cX0_takeFrom 19 = .ok (.aload_n 0, 1) := by decide +kernel
theorem dX0_takeFrom_20 : decode cX0_takeFrom 20 = .ok (.getfield 15, 3) := by decide +kernel
theorem dX0_takeFrom_23 : decode cX0_takeFrom 23 = .ok (.iconst 0, 1) := by decide +kernel
theorem dX0_takeFrom_24 : decode cX0_takeFrom 24 = .ok (.bipush 7, 2) := by decide +kernel
theorem dX0_takeFrom_26 : decode cX0_takeFrom 26 = .ok (.invokestatic 59, 3) := by decide +kernel
theorem dX0_takeFrom_29 : decode cX0_takeFrom 29 = .ok (.aload_n 1, 1) := by decide +kernel
theorem dX0_takeFrom_30 : decode cX0_takeFrom 30 = .ok (.getfield 18, 3) := by decide +kernel
theorem dX0_takeFrom_33 : decode cX0_takeFrom 33 = .ok (.iconst 0, 1) := by decide +kernel
theorem dX0_takeFrom_34 : decode cX0_takeFrom 34 = .ok (.aload_n 0, 1) := by decide +kernel
theorem dX0_takeFrom_35 : decode cX0_takeFrom 35 = .ok (.getfield 18, 3) := by decide +kernel
theorem dX0_takeFrom_38 : decode cX0_takeFrom 38 = .ok (.iconst 0, 1) := by decide +kernel
theorem dX0_takeFrom_39 : decode cX0_takeFrom 39 = .ok (.bipush 7, 2) := by decide +kernel
theorem dX0_takeFrom_41 : decode cX0_takeFrom 41 = .ok (.invokestatic 59, 3) := by decide +kernel
theorem dX0_takeFrom_44 : decode cX0_takeFrom 44 = .ok (.aload_n 1, 1) := by decide +kernel
theorem dX0_takeFrom_45 : decode cX0_takeFrom 45 = .ok (.getfield 21, 3) := by decide +kernel
theorem dX0_takeFrom_48 : decode cX0_takeFrom 48 = .ok (.iconst 0, 1) := by decide +kernel
theorem dX0_takeFrom_49 : decode cX0_takeFrom 49 = .ok (.aload_n 0, 1) := by decide +kernel
theorem dX0_takeFrom_50 : decode cX0_takeFrom 50 = .ok (.getfield 21, 3) := by decide +kernel
theorem dX0_takeFrom_53 : decode cX0_takeFrom 53 = .ok (.iconst 0, 1) := by decide +kernel
theorem dX0_takeFrom_54 : decode cX0_takeFrom 54 = .ok (.bipush 7, 2) := by decide +kernel
theorem dX0_takeFrom_56 : decode cX0_takeFrom 56 = .ok (.invokestatic 59, 3) := by decide +kernel
theorem dX0_takeFrom_59 : decode cX0_takeFrom 59 = .ok (.aload_n 0, 1) := by decide +kernel
theorem dX0_takeFrom_60 : decode cX0_takeFrom 60 = .ok (.aload_n 1, 1) := by decide +kernel
theorem dX0_takeFrom_61 : decode cX0_takeFrom 61 = .ok (.getfield 42, 3) := by decide +kernel
theorem dX0_takeFrom_64 : decode cX0_takeFrom 64 = .ok (.putfield 42, 3) := by decide +kernel
theorem dX0_takeFrom_67 : decode cX0_takeFrom 67 = .ok (.aload_n 0, 1) := by decide +kernel
theorem dX0_takeFrom_68 : decode cX0_takeFrom 68 = .ok (.aload_n 1, 1) := by decide +kernel
theorem dX0_takeFrom_69 : decode cX0_takeFrom 69 = .ok (.getfield 46, 3) := by decide +kernel
theorem dX0_takeFrom_72 : decode cX0_takeFrom 72 = .ok (.putfield 46, 3) := by decide +kernel
theorem dX0_takeFrom_75 : decode cX0_takeFrom 75 = .ok (.aload_n 0, 1) := by decide +kernel
theorem dX0_takeFrom_76 : decode cX0_takeFrom 76 = .ok (.aload_n 1, 1) := by decide +kernel
theorem dX0_takeFrom_77 : decode cX0_takeFrom 77 = .ok (.getfield 49, 3) := by decide +kernel
theorem dX0_takeFrom_80 : decode cX0_takeFrom 80 = .ok (.putfield 49, 3) := by decide +kernel
theorem dX0_takeFrom_83 : decode cX0_takeFrom 83 = .ok (.aload_n 0, 1) := by decide +kernel
theorem dX0_takeFrom_84 : decode cX0_takeFrom 84 = .ok (.aload_n 1, 1) := by decide +kernel
theorem dX0_takeFrom_85 : decode cX0_takeFrom 85 = .ok (.getfield 52, 3) := by decide +kernel
theorem dX0_takeFrom_88 : decode cX0_takeFrom 88 = .ok (.putfield 52, 3) := by decide +kernel
theorem dX0_takeFrom_91 : decode cX0_takeFrom 91 = .ok (.aload_n 0, 1) := by decide +kernel
theorem dX0_takeFrom_92 : decode cX0_takeFrom 92 = .ok (.getfield 29, 3) := by decide +kernel
theorem dX0_takeFrom_95 : decode cX0_takeFrom 95 = .ok (.aload_n 1, 1) := by decide +kernel
theorem dX0_takeFrom_96 : decode cX0_takeFrom 96 = .ok (.getfield 29, 3) := by decide +kernel
theorem dX0_takeFrom_99 : decode cX0_takeFrom 99 = .ok (.invokevirtual 65, 3) := by decide +kernel
theorem dX0_takeFrom_102 : decode cX0_takeFrom 102 = .ok (.aload_n 0, 1) := by decide +kernel
theorem dX0_takeFrom_103 : decode cX0_takeFrom 103 = .ok (.getfield 33, 3) := by decide +kernel
theorem dX0_takeFrom_106 : decode cX0_takeFrom 106 = .ok (.aload_n 1, 1) := by decide +kernel
theorem dX0_takeFrom_107 : decode cX0_takeFrom 107 = .ok (.getfield 33, 3) := by decide +kernel
theorem dX0_takeFrom_110 : decode cX0_takeFrom 110 = .ok (.invokevirtual 65, 3) := by decide +kernel
theorem dX0_takeFrom_113 : decode cX0_takeFrom 113 = .ok (.aload_n 0, 1) := by decide +kernel
theorem dX0_takeFrom_114 : decode cX0_takeFrom 114 = .ok (.getfield 36, 3) := by decide +kernel
theorem dX0_takeFrom_117 : decode cX0_takeFrom 117 = .ok (.aload_n 1, 1) := by decide +kernel
theorem dX0_takeFrom_118 : decode cX0_takeFrom 118 = .ok (.getfield 36, 3) := by decide +kernel
theorem dX0_takeFrom_121 : decode cX0_takeFrom 121 = .ok (.invokevirtual 65, 3) := by decide +kernel
theorem dX0_takeFrom_124 : decode cX0_takeFrom 124 = .ok (.aload_n 0, 1) := by decide +kernel
theorem dX0_takeFrom_125 : decode cX0_takeFrom 125 = .ok (.getfield 39, 3) := by decide +kernel
theorem dX0_takeFrom_128 : decode cX0_takeFrom 128 = .ok (.aload_n 1, 1) := by decide +kernel
theorem dX0_takeFrom_129 : decode cX0_takeFrom 129 = .ok (.getfield 39, 3) := by decide +kernel
theorem dX0_takeFrom_132 : decode cX0_takeFrom 132 = .ok (.invokevirtual 65, 3) := by decide +kernel
theorem dX0_takeFrom_135 : decode cX0_takeFrom 135 = .ok (.return_, 1) := by decide +kernel
theorem dX0_addSoul_0 : decode cX0_addSoul 0 = .ok (.aload_n 0, 1) := by decide +kernel
theorem dX0_addSoul_1 : decode cX0_addSoul 1 = .ok (.getfield 42, 3) := by decide +kernel
theorem dX0_addSoul_4 : decode cX0_addSoul 4 = .ok (.bipush 7, 2) := by decide +kernel
theorem dX0_addSoul_6 : decode cX0_addSoul 6 = .ok (.if_icmp .lt 5, 3) := by decide +kernel
theorem dX0_addSoul_9 : decode cX0_addSoul 9 = .ok (.iconst (-1), 1) := by decide +kernel
theorem dX0_addSoul_10 : decode cX0_addSoul 10 = .ok (.ireturn, 1) := by decide +kernel
theorem dX0_addSoul_11 : decode cX0_addSoul 11 = .ok (.aload_n 0, 1) := by decide +kernel
theorem dX0_addSoul_12 : decode cX0_addSoul 12 = .ok (.getfield 15, 3) := by decide +kernel
theorem dX0_addSoul_15 : decode cX0_addSoul 15 = .ok (.aload_n 0, 1) := by decide +kernel
theorem dX0_addSoul_16 : decode cX0_addSoul 16 = .ok (.getfield 42, 3) := by decide +kernel
theorem dX0_addSoul_19 : decode cX0_addSoul 19 = .ok (.iload_n 1, 1) := by decide +kernel
theorem dX0_addSoul_20 : decode cX0_addSoul 20 = .ok (.iastore, 1) := by decide +kernel
theorem dX0_addSoul_21 : decode cX0_addSoul 21 = .ok (.aload_n 0, 1) := by decide +kernel
theorem dX0_addSoul_22 : decode cX0_addSoul 22 = .ok (.getfield 18, 3) := by decide +kernel
theorem dX0_addSoul_25 : decode cX0_addSoul 25 = .ok (.aload_n 0, 1) := by decide +kernel
theorem dX0_addSoul_26 : decode cX0_addSoul 26 = .ok (.getfield 42, 3) := by decide +kernel
theorem dX0_addSoul_29 : decode cX0_addSoul 29 = .ok (.iload_n 2, 1) := by decide +kernel
theorem dX0_addSoul_30 : decode cX0_addSoul 30 = .ok (.iastore, 1) := by decide +kernel
theorem dX0_addSoul_31 : decode cX0_addSoul 31 = .ok (.aload_n 0, 1) := by decide +kernel
theorem dX0_addSoul_32 : decode cX0_addSoul 32 = .ok (.getfield 21, 3) := by decide +kernel
theorem dX0_addSoul_35 : decode cX0_addSoul 35 = .ok (.aload_n 0, 1) := by decide +kernel
theorem dX0_addSoul_36 : decode cX0_addSoul 36 = .ok (.getfield 42, 3) := by decide +kernel
theorem dX0_addSoul_39 : decode cX0_addSoul 39 = .ok (.iconst (-1), 1) := by decide +kernel
theorem dX0_addSoul_40 : decode cX0_addSoul 40 = .ok (.iastore, 1) := by decide +kernel
theorem dX0_addSoul_41 : decode cX0_addSoul 41 = .ok (.aload_n 0, 1) := by decide +kernel
theorem dX0_addSoul_42 : decode cX0_addSoul 42 = .ok (.dup, 1) := by decide +kernel
theorem dX0_addSoul_43 : decode cX0_addSoul 43 = .ok (.getfield 42, 3) := by decide +kernel
theorem dX0_addSoul_46 : decode cX0_addSoul 46 = .ok (.iconst 1, 1) := by decide +kernel
theorem dX0_addSoul_47 : decode cX0_addSoul 47 = .ok (.iadd, 1) := by decide +kernel
theorem dX0_addSoul_48 : decode cX0_addSoul 48 = .ok (.putfield 42, 3) := by decide +kernel
theorem dX0_addSoul_51 : decode cX0_addSoul 51 = .ok (.aload_n 0, 1) := by decide +kernel
theorem dX0_addSoul_52 : decode cX0_addSoul 52 = .ok (.getfield 42, 3) := by decide +kernel
theorem dX0_addSoul_55 : decode cX0_addSoul 55 = .ok (.iconst 1, 1) := by decide +kernel
theorem dX0_addSoul_56 : decode cX0_addSoul 56 = .ok (.isub, 1) := by decide +kernel
theorem dX0_addSoul_57 : decode cX0_addSoul 57 = .ok (.ireturn, 1) := by decide +kernel
theorem dX0_isSoul_0 : decode cX0_isSoul 0 = .ok (.iload_n 1, 1) := by decide +kernel
theorem dX0_isSoul_1 : decode cX0_isSoul 1 = .ok (.aload_n 0, 1) := by decide +kernel
theorem dX0_isSoul_2 : decode cX0_isSoul 2 = .ok (.getfield 42, 3) := by decide +kernel
theorem dX0_isSoul_5 : decode cX0_isSoul 5 = .ok (.invokestatic 69, 3) := by decide +kernel
theorem dX0_isSoul_8 : decode cX0_isSoul 8 = .ok (.ireturn, 1) := by decide +kernel
theorem dX0_sits_0 : decode cX0_sits 0 = .ok (.aload_n 0, 1) := by decide +kernel
theorem dX0_sits_1 : decode cX0_sits 1 = .ok (.getfield 21, 3) := by decide +kernel
theorem dX0_sits_4 : decode cX0_sits 4 = .ok (.iload_n 1, 1) := by decide +kernel
theorem dX0_sits_5 : decode cX0_sits 5 = .ok (.iaload, 1) := by decide +kernel
theorem dX0_sits_6 : decode cX0_sits 6 = .ok (.iconst (-1), 1) := by decide +kernel
theorem dX0_sits_7 : decode cX0_sits 7 = .ok (.if_icmp .eq 7, 3) := by decide +kernel
theorem dX0_sits_10 : decode cX0_sits 10 = .ok (.iconst 1, 1) := by decide +kernel
theorem dX0_sits_11 : decode cX0_sits 11 = .ok (.goto 4, 3) := by decide +kernel
theorem dX0_sits_14 : decode cX0_sits 14 = .ok (.iconst 0, 1) := by decide +kernel
theorem dX0_sits_15 : decode cX0_sits 15 = .ok (.ireturn, 1) := by decide +kernel
theorem dX0_howManySit_0 : decode cX0_howManySit 0 = .ok (.iconst 0, 1) := by decide +kernel
theorem dX0_howManySit_1 : decode cX0_howManySit 1 = .ok (.istore_n 1, 1) := by decide +kernel
theorem dX0_howManySit_2 : decode cX0_howManySit 2 = .ok (.iconst 0, 1) := by decide +kernel
theorem dX0_howManySit_3 : decode cX0_howManySit 3 = .ok (.istore_n 2, 1) := by decide +kernel
theorem dX0_howManySit_4 : decode cX0_howManySit 4 = .ok (.iload_n 2, 1) := by decide +kernel
theorem dX0_howManySit_5 : decode cX0_howManySit 5 = .ok (.aload_n 0, 1) := by decide +kernel
theorem dX0_howManySit_6 : decode cX0_howManySit 6 = .ok (.getfield 42, 3) := by decide +kernel
theorem dX0_howManySit_9 : decode cX0_howManySit 9 = .ok (.if_icmp .ge 20, 3) := by decide +kernel
theorem dX0_howManySit_12 : decode cX0_howManySit 12 = .ok (.aload_n 0, 1) := by decide +kernel
theorem dX0_howManySit_13 : decode cX0_howManySit 13 = .ok (.iload_n 2, 1) := by decide +kernel
theorem dX0_howManySit_14 : decode cX0_howManySit 14 = .ok (.invokevirtual 73, 3) := by decide +kernel
theorem dX0_howManySit_17 : decode cX0_howManySit 17 = .ok (.ifCond .eq 6, 3) := by decide +kernel
theorem dX0_howManySit_20 : decode cX0_howManySit 20 = .ok (.iinc 1 1, 3) := by decide +kernel
theorem dX0_howManySit_23 : decode cX0_howManySit 23 = .ok (.iinc 2 1, 3) := by decide +kernel
theorem dX0_howManySit_26 : decode cX0_howManySit 26 = .ok (.goto (-22), 3) := by decide +kernel
theorem dX0_howManySit_29 : decode cX0_howManySit 29 = .ok (.iload_n 1, 1) := by decide +kernel
theorem dX0_howManySit_30 : decode cX0_howManySit 30 = .ok (.ireturn, 1) := by decide +kernel
theorem dX0_sitterAt_0 : decode cX0_sitterAt 0 = .ok (.iconst 0, 1) := by decide +kernel
theorem dX0_sitterAt_1 : decode cX0_sitterAt 1 = .ok (.istore_n 2, 1) := by decide +kernel
theorem dX0_sitterAt_2 : decode cX0_sitterAt 2 = .ok (.iload_n 2, 1) := by decide +kernel
theorem dX0_sitterAt_3 : decode cX0_sitterAt 3 = .ok (.aload_n 0, 1) := by decide +kernel
theorem dX0_sitterAt_4 : decode cX0_sitterAt 4 = .ok (.getfield 42, 3) := by decide +kernel
theorem dX0_sitterAt_7 : decode cX0_sitterAt 7 = .ok (.if_icmp .ge 21, 3) := by decide +kernel
theorem dX0_sitterAt_10 : decode cX0_sitterAt 10 = .ok (.aload_n 0, 1) := by decide +kernel
theorem dX0_sitterAt_11 : decode cX0_sitterAt 11 = .ok (.getfield 21, 3) := by decide +kernel
theorem dX0_sitterAt_14 : decode cX0_sitterAt 14 = .ok (.iload_n 2, 1) := by decide +kernel
theorem dX0_sitterAt_15 : decode cX0_sitterAt 15 = .ok (.iaload, 1) := by decide +kernel
theorem dX0_sitterAt_16 : decode cX0_sitterAt 16 = .ok (.iload_n 1, 1) := by decide +kernel
theorem dX0_sitterAt_17 : decode cX0_sitterAt 17 = .ok (.if_icmp .ne 5, 3) := by decide +kernel
theorem dX0_sitterAt_20 : decode cX0_sitterAt 20 = .ok (.iload_n 2, 1) := by decide +kernel
theorem dX0_sitterAt_21 : decode cX0_sitterAt 21 = .ok (.ireturn, 1) := by decide +kernel
theorem dX0_sitterAt_22 : decode cX0_sitterAt 22 = .ok (.iinc 2 1, 3) := by decide +kernel
theorem dX0_sitterAt_25 : decode cX0_sitterAt 25 = .ok (.goto (-23), 3) := by decide +kernel
theorem dX0_sitterAt_28 : decode cX0_sitterAt 28 = .ok (.iconst (-1), 1) := by decide +kernel
theorem dX0_sitterAt_29 : decode cX0_sitterAt 29 = .ok (.ireturn, 1) := by decide +kernel
theorem dX0_hasCoat_0 : decode cX0_hasCoat 0 = .ok (.aload_n 0, 1) := by decide +kernel
theorem dX0_hasCoat_1 : decode cX0_hasCoat 1 = .ok (.getfield 46, 3) := by decide +kernel
theorem dX0_hasCoat_4 : decode cX0_hasCoat 4 = .ok (.iload_n 1, 1) := by decide +kernel
theorem dX0_hasCoat_5 : decode cX0_hasCoat 5 = .ok (.invokestatic 77, 3) := by decide +kernel
theorem dX0_hasCoat_8 : decode cX0_hasCoat 8 = .ok (.ireturn, 1) := by decide +kernel
theorem dX0_isFree_0 : decode cX0_isFree 0 = .ok (.aload_n 0, 1) := by decide +kernel
theorem dX0_isFree_1 : decode cX0_isFree 1 = .ok (.iload_n 1, 1) := by decide +kernel
theorem dX0_isFree_2 : decode cX0_isFree 2 = .ok (.invokevirtual 80, 3) := by decide +kernel
theorem dX0_isFree_5 : decode cX0_isFree 5 = .ok (.iconst (-1), 1) := by decide +kernel
theorem dX0_isFree_6 : decode cX0_isFree 6 = .ok (.if_icmp .ne 15, 3) := by decide +kernel
theorem dX0_isFree_9 : decode cX0_isFree 9 = .ok (.aload_n 0, 1) := by decide +kernel
theorem dX0_isFree_10 : decode cX0_isFree 10 = .ok (.iload_n 1, 1) := by decide +kernel
theorem dX0_isFree_11 : decode cX0_isFree 11 = .ok (.invokevirtual 84, 3) := by decide +kernel
theorem dX0_isFree_14 : decode cX0_isFree 14 = .ok (.ifCond .ne 7, 3) := by decide +kernel
theorem dX0_isFree_17 : decode cX0_isFree 17 = .ok (.iconst 1, 1) := by decide +kernel
theorem dX0_isFree_18 : decode cX0_isFree 18 = .ok (.goto 4, 3) := by decide +kernel
theorem dX0_isFree_21 : decode cX0_isFree 21 = .ok (.iconst 0, 1) := by decide +kernel
theorem dX0_isFree_22 : decode cX0_isFree 22 = .ok (.ireturn, 1) := by decide +kernel
theorem dX0_kneesTo_0 : decode cX0_kneesTo 0 = .ok (.iload_n 1, 1) := by decide +kernel
theorem dX0_kneesTo_1 : decode cX0_kneesTo 1 = .ok (.iload_n 1, 1) := by decide +kernel
theorem dX0_kneesTo_2 : decode cX0_kneesTo 2 = .ok (.bipush 6, 2) := by decide +kernel
theorem dX0_kneesTo_4 : decode cX0_kneesTo 4 = .ok (.irem, 1) := by decide +kernel
theorem dX0_kneesTo_5 : decode cX0_kneesTo 5 = .ok (.isub, 1) := by decide +kernel
theorem dX0_kneesTo_6 : decode cX0_kneesTo 6 = .ok (.istore_n 2, 1) := by decide +kernel
theorem dX0_kneesTo_7 : decode cX0_kneesTo 7 = .ok (.iconst 0, 1) := by decide +kernel
theorem dX0_kneesTo_8 : decode cX0_kneesTo 8 = .ok (.istore_n 3, 1) := by decide +kernel
theorem dX0_kneesTo_9 : decode cX0_kneesTo 9 = .ok (.iconst 0, 1) := by decide +kernel
theorem dX0_kneesTo_10 : decode cX0_kneesTo 10 = .ok (.istore 4, 2) := by decide +kernel
theorem dX0_kneesTo_12 : decode cX0_kneesTo 12 = .ok (.iload 4, 2) := by decide +kernel
theorem dX0_kneesTo_14 : decode cX0_kneesTo 14 = .ok (.aload_n 0, 1) := by decide +kernel
theorem dX0_kneesTo_15 : decode cX0_kneesTo 15 = .ok (.getfield 42, 3) := by decide +kernel
theorem dX0_kneesTo_18 : decode cX0_kneesTo 18 = .ok (.if_icmp .ge 34, 3) := by decide +kernel
theorem dX0_kneesTo_21 : decode cX0_kneesTo 21 = .ok (.aload_n 0, 1) := by decide +kernel
theorem dX0_kneesTo_22 : decode cX0_kneesTo 22 = .ok (.getfield 21, 3) := by decide +kernel
theorem dX0_kneesTo_25 : decode cX0_kneesTo 25 = .ok (.iload 4, 2) := by decide +kernel
theorem dX0_kneesTo_27 : decode cX0_kneesTo 27 = .ok (.iaload, 1) := by decide +kernel
theorem dX0_kneesTo_28 : decode cX0_kneesTo 28 = .ok (.iload_n 2, 1) := by decide +kernel
theorem dX0_kneesTo_29 : decode cX0_kneesTo 29 = .ok (.if_icmp .lt 17, 3) := by decide +kernel
theorem dX0_kneesTo_32 : decode cX0_kneesTo 32 = .ok (.aload_n 0, 1) := by decide +kernel
theorem dX0_kneesTo_33 : decode cX0_kneesTo 33 = .ok (.getfield 21, 3) := by decide +kernel
theorem dX0_kneesTo_36 : decode cX0_kneesTo 36 = .ok (.iload 4, 2) := by decide +kernel
theorem dX0_kneesTo_38 : decode cX0_kneesTo 38 = .ok (.iaload, 1) := by decide +kernel
theorem dX0_kneesTo_39 : decode cX0_kneesTo 39 = .ok (.iload_n 1, 1) := by decide +kernel
theorem dX0_kneesTo_40 : decode cX0_kneesTo 40 = .ok (.if_icmp .ge 6, 3) := by decide +kernel
theorem dX0_kneesTo_43 : decode cX0_kneesTo 43 = .ok (.iinc 3 1, 3) := by decide +kernel
theorem dX0_kneesTo_46 : decode cX0_kneesTo 46 = .ok (.iinc 4 1, 3) := by decide +kernel
theorem dX0_kneesTo_49 : decode cX0_kneesTo 49 = .ok (.goto (-37), 3) := by decide +kernel
theorem dX0_kneesTo_52 : decode cX0_kneesTo 52 = .ok (.iload_n 3, 1) := by decide +kernel
theorem dX0_kneesTo_53 : decode cX0_kneesTo 53 = .ok (.ireturn, 1) := by decide +kernel
theorem dX0_sightFrom_0 : decode cX0_sightFrom 0 = .ok (.aload_n 0, 1) := by decide +kernel
theorem dX0_sightFrom_1 : decode cX0_sightFrom 1 = .ok (.getfield 9, 3) := by decide +kernel
theorem dX0_sightFrom_4 : decode cX0_sightFrom 4 = .ok (.iload_n 1, 1) := by decide +kernel
theorem dX0_sightFrom_5 : decode cX0_sightFrom 5 = .ok (.bipush 6, 2) := by decide +kernel
theorem dX0_sightFrom_7 : decode cX0_sightFrom 7 = .ok (.idiv, 1) := by decide +kernel
theorem dX0_sightFrom_8 : decode cX0_sightFrom 8 = .ok (.iaload, 1) := by decide +kernel
theorem dX0_sightFrom_9 : decode cX0_sightFrom 9 = .ok (.iload_n 1, 1) := by decide +kernel
theorem dX0_sightFrom_10 : decode cX0_sightFrom 10 = .ok (.bipush 6, 2) := by decide +kernel
theorem dX0_sightFrom_12 : decode cX0_sightFrom 12 = .ok (.irem, 1) := by decide +kernel
theorem dX0_sightFrom_13 : decode cX0_sightFrom 13 = .ok (.invokestatic 87, 3) := by decide +kernel
theorem dX0_sightFrom_16 : decode cX0_sightFrom 16 = .ok (.ireturn, 1) := by decide +kernel
theorem dX0_fussTo_0 : decode cX0_fussTo 0 = .ok (.aload_n 0, 1) := by decide +kernel
theorem dX0_fussTo_1 : decode cX0_fussTo 1 = .ok (.getfield 15, 3) := by decide +kernel
theorem dX0_fussTo_4 : decode cX0_fussTo 4 = .ok (.iload_n 1, 1) := by decide +kernel
theorem dX0_fussTo_5 : decode cX0_fussTo 5 = .ok (.iaload, 1) := by decide +kernel
theorem dX0_fussTo_6 : decode cX0_fussTo 6 = .ok (.aload_n 0, 1) := by decide +kernel
theorem dX0_fussTo_7 : decode cX0_fussTo 7 = .ok (.iload_n 2, 1) := by decide +kernel
theorem dX0_fussTo_8 : decode cX0_fussTo 8 = .ok (.invokevirtual 93, 3) := by decide +kernel
theorem dX0_fussTo_11 : decode cX0_fussTo 11 = .ok (.aload_n 0, 1) := by decide +kernel
theorem dX0_fussTo_12 : decode cX0_fussTo 12 = .ok (.getfield 49, 3) := by decide +kernel
theorem dX0_fussTo_15 : decode cX0_fussTo 15 = .ok (.invokestatic 96, 3) := by decide +kernel
theorem dX0_fussTo_18 : decode cX0_fussTo 18 = .ok (.ireturn, 1) := by decide +kernel
theorem dX0_showIn_0 : decode cX0_showIn 0 = .ok (.aload_n 0, 1) := by decide +kernel
theorem dX0_showIn_1 : decode cX0_showIn 1 = .ok (.iload_n 1, 1) := by decide +kernel
theorem dX0_showIn_2 : decode cX0_showIn 2 = .ok (.iload_n 2, 1) := by decide +kernel
theorem dX0_showIn_3 : decode cX0_showIn 3 = .ok (.invokevirtual 99, 3) := by decide +kernel
theorem dX0_showIn_6 : decode cX0_showIn 6 = .ok (.istore_n 3, 1) := by decide +kernel
theorem dX0_showIn_7 : decode cX0_showIn 7 = .ok (.aload_n 0, 1) := by decide +kernel
theorem dX0_showIn_8 : decode cX0_showIn 8 = .ok (.getfield 21, 3) := by decide +kernel
theorem dX0_showIn_11 : decode cX0_showIn 11 = .ok (.iload_n 1, 1) := by decide +kernel
theorem dX0_showIn_12 : decode cX0_showIn 12 = .ok (.iload_n 2, 1) := by decide +kernel
theorem dX0_showIn_13 : decode cX0_showIn 13 = .ok (.iastore, 1) := by decide +kernel
theorem dX0_showIn_14 : decode cX0_showIn 14 = .ok (.aload_n 0, 1) := by decide +kernel
theorem dX0_showIn_15 : decode cX0_showIn 15 = .ok (.iload_n 3, 1) := by decide +kernel
theorem dX0_showIn_16 : decode cX0_showIn 16 = .ok (.invokevirtual 102, 3) := by decide +kernel
theorem dX0_showIn_19 : decode cX0_showIn 19 = .ok (.ireturn, 1) := by decide +kernel
theorem dX0_moveTo_0 : decode cX0_moveTo 0 = .ok (.aload_n 0, 1) := by decide +kernel
theorem dX0_moveTo_1 : decode cX0_moveTo 1 = .ok (.iload_n 1, 1) := by decide +kernel
theorem dX0_moveTo_2 : decode cX0_moveTo 2 = .ok (.aload_n 0, 1) := by decide +kernel
theorem dX0_moveTo_3 : decode cX0_moveTo 3 = .ok (.getfield 21, 3) := by decide +kernel
theorem dX0_moveTo_6 : decode cX0_moveTo 6 = .ok (.iload_n 1, 1) := by decide +kernel
theorem dX0_moveTo_7 : decode cX0_moveTo 7 = .ok (.iaload, 1) := by decide +kernel
theorem dX0_moveTo_8 : decode cX0_moveTo 8 = .ok (.invokevirtual 99, 3) := by decide +kernel
theorem dX0_moveTo_11 : decode cX0_moveTo 11 = .ok (.istore_n 3, 1) := by decide +kernel
theorem dX0_moveTo_12 : decode cX0_moveTo 12 = .ok (.aload_n 0, 1) := by decide +kernel
theorem dX0_moveTo_13 : decode cX0_moveTo 13 = .ok (.getfield 21, 3) := by decide +kernel
theorem dX0_moveTo_16 : decode cX0_moveTo 16 = .ok (.iload_n 1, 1) := by decide +kernel
theorem dX0_moveTo_17 : decode cX0_moveTo 17 = .ok (.iconst (-1), 1) := by decide +kernel
theorem dX0_moveTo_18 : decode cX0_moveTo 18 = .ok (.iastore, 1) := by decide +kernel
theorem dX0_moveTo_19 : decode cX0_moveTo 19 = .ok (.iload_n 3, 1) := by decide +kernel
theorem dX0_moveTo_20 : decode cX0_moveTo 20 = .ok (.aload_n 0, 1) := by decide +kernel
theorem dX0_moveTo_21 : decode cX0_moveTo 21 = .ok (.iload_n 1, 1) := by decide +kernel
theorem dX0_moveTo_22 : decode cX0_moveTo 22 = .ok (.iload_n 2, 1) := by decide +kernel
theorem dX0_moveTo_23 : decode cX0_moveTo 23 = .ok (.invokevirtual 99, 3) := by decide +kernel
theorem dX0_moveTo_26 : decode cX0_moveTo 26 = .ok (.iadd, 1) := by decide +kernel
theorem dX0_moveTo_27 : decode cX0_moveTo 27 = .ok (.istore_n 3, 1) := by decide +kernel
theorem dX0_moveTo_28 : decode cX0_moveTo 28 = .ok (.aload_n 0, 1) := by decide +kernel
theorem dX0_moveTo_29 : decode cX0_moveTo 29 = .ok (.getfield 21, 3) := by decide +kernel
theorem dX0_moveTo_32 : decode cX0_moveTo 32 = .ok (.iload_n 1, 1) := by decide +kernel
theorem dX0_moveTo_33 : decode cX0_moveTo 33 = .ok (.iload_n 2, 1) := by decide +kernel
theorem dX0_moveTo_34 : decode cX0_moveTo 34 = .ok (.iastore, 1) := by decide +kernel
theorem dX0_moveTo_35 : decode cX0_moveTo 35 = .ok (.aload_n 0, 1) := by decide +kernel
theorem dX0_moveTo_36 : decode cX0_moveTo 36 = .ok (.iload_n 3, 1) := by decide +kernel
theorem dX0_moveTo_37 : decode cX0_moveTo 37 = .ok (.invokevirtual 102, 3) := by decide +kernel
theorem dX0_moveTo_40 : decode cX0_moveTo 40 = .ok (.ireturn, 1) := by decide +kernel
theorem dX0_sendOut_0 : decode cX0_sendOut 0 = .ok (.aload_n 0, 1) := by decide +kernel
theorem dX0_sendOut_1 : decode cX0_sendOut 1 = .ok (.iload_n 1, 1) := by decide +kernel
theorem dX0_sendOut_2 : decode cX0_sendOut 2 = .ok (.aload_n 0, 1) := by decide +kernel
theorem dX0_sendOut_3 : decode cX0_sendOut 3 = .ok (.getfield 21, 3) := by decide +kernel
theorem dX0_sendOut_6 : decode cX0_sendOut 6 = .ok (.iload_n 1, 1) := by decide +kernel
theorem dX0_sendOut_7 : decode cX0_sendOut 7 = .ok (.iaload, 1) := by decide +kernel
theorem dX0_sendOut_8 : decode cX0_sendOut 8 = .ok (.invokevirtual 99, 3) := by decide +kernel
theorem dX0_sendOut_11 : decode cX0_sendOut 11 = .ok (.istore_n 2, 1) := by decide +kernel
theorem dX0_sendOut_12 : decode cX0_sendOut 12 = .ok (.aload_n 0, 1) := by decide +kernel
theorem dX0_sendOut_13 : decode cX0_sendOut 13 = .ok (.getfield 21, 3) := by decide +kernel
theorem dX0_sendOut_16 : decode cX0_sendOut 16 = .ok (.iload_n 1, 1) := by decide +kernel
theorem dX0_sendOut_17 : decode cX0_sendOut 17 = .ok (.iconst (-1), 1) := by decide +kernel
theorem dX0_sendOut_18 : decode cX0_sendOut 18 = .ok (.iastore, 1) := by decide +kernel
theorem dX0_sendOut_19 : decode cX0_sendOut 19 = .ok (.aload_n 0, 1) := by decide +kernel
theorem dX0_sendOut_20 : decode cX0_sendOut 20 = .ok (.iload_n 2, 1) := by decide +kernel
theorem dX0_sendOut_21 : decode cX0_sendOut 21 = .ok (.invokevirtual 102, 3) := by decide +kernel
theorem dX0_sendOut_24 : decode cX0_sendOut 24 = .ok (.ireturn, 1) := by decide +kernel
theorem dX0_settle_0 : decode cX0_settle 0 = .ok (.aload_n 0, 1) := by decide +kernel
theorem dX0_settle_1 : decode cX0_settle 1 = .ok (.ldc 105, 2) := by decide +kernel
theorem dX0_settle_3 : decode cX0_settle 3 = .ok (.aload_n 0, 1) := by decide +kernel
theorem dX0_settle_4 : decode cX0_settle 4 = .ok (.getfield 52, 3) := by decide +kernel
theorem dX0_settle_7 : decode cX0_settle 7 = .ok (.iload_n 1, 1) := by decide +kernel
theorem dX0_settle_8 : decode cX0_settle 8 = .ok (.iadd, 1) := by decide +kernel
theorem dX0_settle_9 : decode cX0_settle 9 = .ok (.invokestatic 106, 3) := by decide +kernel
theorem dX0_settle_12 : decode cX0_settle 12 = .ok (.putfield 52, 3) := by decide +kernel
theorem dX0_settle_15 : decode cX0_settle 15 = .ok (.aload_n 0, 1) := by decide +kernel
theorem dX0_settle_16 : decode cX0_settle 16 = .ok (.dup, 1) := by decide +kernel
theorem dX0_settle_17 : decode cX0_settle 17 = .ok (.getfield 49, 3) := by decide +kernel
theorem dX0_settle_20 : decode cX0_settle 20 = .ok (.iconst 1, 1) := by decide +kernel
theorem dX0_settle_21 : decode cX0_settle 21 = .ok (.iadd, 1) := by decide +kernel
theorem dX0_settle_22 : decode cX0_settle 22 = .ok (.putfield 49, 3) := by decide +kernel
theorem dX0_settle_25 : decode cX0_settle 25 = .ok (.iload_n 1, 1) := by decide +kernel
theorem dX0_settle_26 : decode cX0_settle 26 = .ok (.ireturn, 1) := by decide +kernel
theorem dX0_liveThrough_0 : decode cX0_liveThrough 0 = .ok (.aload_n 0, 1) := by decide +kernel
theorem dX0_liveThrough_1 : decode cX0_liveThrough 1 = .ok (.iload_n 1, 1) := by decide +kernel
theorem dX0_liveThrough_2 : decode cX0_liveThrough 2 = .ok (.invokevirtual 111, 3) := by decide +kernel
theorem dX0_liveThrough_5 : decode cX0_liveThrough 5 = .ok (.ifCond .eq 17, 3) := by decide +kernel
theorem dX0_liveThrough_8 : decode cX0_liveThrough 8 = .ok (.aload_n 0, 1) := by decide +kernel
theorem dX0_liveThrough_9 : decode cX0_liveThrough 9 = .ok (.iload_n 1, 1) := by decide +kernel
theorem dX0_liveThrough_10 : decode cX0_liveThrough 10 = .ok (.invokevirtual 73, 3) := by decide +kernel
theorem dX0_liveThrough_13 : decode cX0_liveThrough 13 = .ok (.ifCond .eq 9, 3) := by decide +kernel
theorem dX0_liveThrough_16 : decode cX0_liveThrough 16 = .ok (.aload_n 0, 1) := by decide +kernel
theorem dX0_liveThrough_17 : decode cX0_liveThrough 17 = .ok (.iload_n 1, 1) := by decide +kernel
theorem dX0_liveThrough_18 : decode cX0_liveThrough 18 = .ok (.invokevirtual 114, 3) := by decide +kernel
theorem dX0_liveThrough_21 : decode cX0_liveThrough 21 = .ok (.ireturn, 1) := by decide +kernel
theorem dX0_liveThrough_22 : decode cX0_liveThrough 22 = .ok (.aload_n 0, 1) := by decide +kernel
theorem dX0_liveThrough_23 : decode cX0_liveThrough 23 = .ok (.iload_n 1, 1) := by decide +kernel
theorem dX0_liveThrough_24 : decode cX0_liveThrough 24 = .ok (.invokevirtual 111, 3) := by decide +kernel
theorem dX0_liveThrough_27 : decode cX0_liveThrough 27 = .ok (.ifCond .eq 18, 3) := by decide +kernel
theorem dX0_liveThrough_30 : decode cX0_liveThrough 30 = .ok (.aload_n 0, 1) := by decide +kernel
theorem dX0_liveThrough_31 : decode cX0_liveThrough 31 = .ok (.iload_n 2, 1) := by decide +kernel
theorem dX0_liveThrough_32 : decode cX0_liveThrough 32 = .ok (.invokevirtual 117, 3) := by decide +kernel
theorem dX0_liveThrough_35 : decode cX0_liveThrough 35 = .ok (.ifCond .eq 10, 3) := by decide +kernel
theorem dX0_liveThrough_38 : decode cX0_liveThrough 38 = .ok (.aload_n 0, 1) := by decide +kernel
theorem dX0_liveThrough_39 : decode cX0_liveThrough 39 = .ok (.iload_n 1, 1) := by decide +kernel
theorem dX0_liveThrough_40 : decode cX0_liveThrough 40 = .ok (.iload_n 2, 1) := by decide +kernel
theorem dX0_liveThrough_41 : decode cX0_liveThrough 41 = .ok (.invokevirtual 120, 3) := by decide +kernel
theorem dX0_liveThrough_44 : decode cX0_liveThrough 44 = .ok (.ireturn, 1) := by decide +kernel
theorem dX0_liveThrough_45 : decode cX0_liveThrough 45 = .ok (.aload_n 0, 1) := by decide +kernel
theorem dX0_liveThrough_46 : decode cX0_liveThrough 46 = .ok (.dup, 1) := by decide +kernel
theorem dX0_liveThrough_47 : decode cX0_liveThrough 47 = .ok (.getfield 49, 3) := by decide +kernel
theorem dX0_liveThrough_50 : decode cX0_liveThrough 50 = .ok (.iconst 1, 1) := by decide +kernel
theorem dX0_liveThrough_51 : decode cX0_liveThrough 51 = .ok (.iadd, 1) := by decide +kernel
theorem dX0_liveThrough_52 : decode cX0_liveThrough 52 = .ok (.putfield 49, 3) := by decide +kernel
theorem dX0_liveThrough_55 : decode cX0_liveThrough 55 = .ok (.iconst 0, 1) := by decide +kernel
theorem dX0_liveThrough_56 : decode cX0_liveThrough 56 = .ok (.ireturn, 1) := by decide +kernel
theorem dX0_remember_0 : decode cX0_remember 0 = .ok (.aload_n 0, 1) := by decide +kernel
theorem dX0_remember_1 : decode cX0_remember 1 = .ok (.getfield 39, 3) := by decide +kernel
theorem dX0_remember_4 : decode cX0_remember 4 = .ok (.invokevirtual 123, 3) := by decide +kernel
theorem dX0_remember_7 : decode cX0_remember 7 = .ok (.ifCond .eq 10, 3) := by decide +kernel
theorem dX0_remember_10 : decode cX0_remember 10 = .ok (.aload_n 0, 1) := by decide +kernel
theorem dX0_remember_11 : decode cX0_remember 11 = .ok (.getfield 39, 3) := by decide +kernel
theorem dX0_remember_14 : decode cX0_remember 14 = .ok (.invokevirtual 127, 3) := by decide +kernel
theorem dX0_remember_17 : decode cX0_remember 17 = .ok (.aload_n 0, 1) := by decide +kernel
theorem dX0_remember_18 : decode cX0_remember 18 = .ok (.getfield 39, 3) := by decide +kernel
theorem dX0_remember_21 : decode cX0_remember 21 = .ok (.invokevirtual 130, 3) := by decide +kernel
theorem dX0_remember_24 : decode cX0_remember 24 = .ok (.iconst 0, 1) := by decide +kernel
theorem dX0_remember_25 : decode cX0_remember 25 = .ok (.istore_n 1, 1) := by decide +kernel
theorem dX0_remember_26 : decode cX0_remember 26 = .ok (.iload_n 1, 1) := by decide +kernel
theorem dX0_remember_27 : decode cX0_remember 27 = .ok (.aload_n 0, 1) := by decide +kernel
theorem dX0_remember_28 : decode cX0_remember 28 = .ok (.getfield 42, 3) := by decide +kernel
theorem dX0_remember_31 : decode cX0_remember 31 = .ok (.if_icmp .ge 23, 3) := by decide +kernel
theorem dX0_remember_34 : decode cX0_remember 34 = .ok (.aload_n 0, 1) := by decide +kernel
theorem dX0_remember_35 : decode cX0_remember 35 = .ok (.getfield 39, 3) := by decide +kernel
theorem dX0_remember_38 : decode cX0_remember 38 = .ok (.iload_n 1, 1) := by decide +kernel
theorem dX0_remember_39 : decode cX0_remember 39 = .ok (.aload_n 0, 1) := by decide +kernel
theorem dX0_remember_40 : decode cX0_remember 40 = .ok (.getfield 21, 3) := by decide +kernel
theorem dX0_remember_43 : decode cX0_remember 43 = .ok (.iload_n 1, 1) := by decide +kernel
theorem dX0_remember_44 : decode cX0_remember 44 = .ok (.iaload, 1) := by decide +kernel
theorem dX0_remember_45 : decode cX0_remember 45 = .ok (.invokevirtual 133, 3) := by decide +kernel
theorem dX0_remember_48 : decode cX0_remember 48 = .ok (.iinc 1 1, 3) := by decide +kernel
theorem dX0_remember_51 : decode cX0_remember 51 = .ok (.goto (-25), 3) := by decide +kernel
theorem dX0_remember_54 : decode cX0_remember 54 = .ok (.aload_n 0, 1) := by decide +kernel
theorem dX0_remember_55 : decode cX0_remember 55 = .ok (.getfield 39, 3) := by decide +kernel
theorem dX0_remember_58 : decode cX0_remember 58 = .ok (.bipush 7, 2) := by decide +kernel
theorem dX0_remember_60 : decode cX0_remember 60 = .ok (.aload_n 0, 1) := by decide +kernel
theorem dX0_remember_61 : decode cX0_remember 61 = .ok (.getfield 46, 3) := by decide +kernel
theorem dX0_remember_64 : decode cX0_remember 64 = .ok (.invokevirtual 133, 3) := by decide +kernel
theorem dX0_remember_67 : decode cX0_remember 67 = .ok (.aload_n 0, 1) := by decide +kernel
theorem dX0_remember_68 : decode cX0_remember 68 = .ok (.getfield 39, 3) := by decide +kernel
theorem dX0_remember_71 : decode cX0_remember 71 = .ok (.bipush 8, 2) := by decide +kernel
theorem dX0_remember_73 : decode cX0_remember 73 = .ok (.aload_n 0, 1) := by decide +kernel
theorem dX0_remember_74 : decode cX0_remember 74 = .ok (.getfield 52, 3) := by decide +kernel
theorem dX0_remember_77 : decode cX0_remember 77 = .ok (.invokevirtual 133, 3) := by decide +kernel
theorem dX0_remember_80 : decode cX0_remember 80 = .ok (.aload_n 0, 1) := by decide +kernel
theorem dX0_remember_81 : decode cX0_remember 81 = .ok (.getfield 39, 3) := by decide +kernel
theorem dX0_remember_84 : decode cX0_remember 84 = .ok (.bipush 9, 2) := by decide +kernel
theorem dX0_remember_86 : decode cX0_remember 86 = .ok (.aload_n 0, 1) := by decide +kernel
theorem dX0_remember_87 : decode cX0_remember 87 = .ok (.getfield 49, 3) := by decide +kernel
theorem dX0_remember_90 : decode cX0_remember 90 = .ok (.invokevirtual 133, 3) := by decide +kernel
theorem dX0_remember_93 : decode cX0_remember 93 = .ok (.return_, 1) := by decide +kernel
theorem dX0_goBack_0 : decode cX0_goBack 0 = .ok (.aload_n 0, 1) := by decide +kernel
theorem dX0_goBack_1 : decode cX0_goBack 1 = .ok (.getfield 39, 3) := by decide +kernel
theorem dX0_goBack_4 : decode cX0_goBack 4 = .ok (.getfield 136, 3) := by decide +kernel
theorem dX0_goBack_7 : decode cX0_goBack 7 = .ok (.iconst 1, 1) := by decide +kernel
theorem dX0_goBack_8 : decode cX0_goBack 8 = .ok (.isub, 1) := by decide +kernel
theorem dX0_goBack_9 : decode cX0_goBack 9 = .ok (.istore_n 1, 1) := by decide +kernel
theorem dX0_goBack_10 : decode cX0_goBack 10 = .ok (.iconst 0, 1) := by decide +kernel
theorem dX0_goBack_11 : decode cX0_goBack 11 = .ok (.istore_n 2, 1) := by decide +kernel
theorem dX0_goBack_12 : decode cX0_goBack 12 = .ok (.iload_n 2, 1) := by decide +kernel
theorem dX0_goBack_13 : decode cX0_goBack 13 = .ok (.aload_n 0, 1) := by decide +kernel
theorem dX0_goBack_14 : decode cX0_goBack 14 = .ok (.getfield 42, 3) := by decide +kernel
theorem dX0_goBack_17 : decode cX0_goBack 17 = .ok (.if_icmp .ge 24, 3) := by decide +kernel
theorem dX0_goBack_20 : decode cX0_goBack 20 = .ok (.aload_n 0, 1) := by decide +kernel
theorem dX0_goBack_21 : decode cX0_goBack 21 = .ok (.getfield 21, 3) := by decide +kernel
theorem dX0_goBack_24 : decode cX0_goBack 24 = .ok (.iload_n 2, 1) := by decide +kernel
theorem dX0_goBack_25 : decode cX0_goBack 25 = .ok (.aload_n 0, 1) := by decide +kernel
theorem dX0_goBack_26 : decode cX0_goBack 26 = .ok (.getfield 39, 3) := by decide +kernel
theorem dX0_goBack_29 : decode cX0_goBack 29 = .ok (.iload_n 1, 1) := by decide +kernel
theorem dX0_goBack_30 : decode cX0_goBack 30 = .ok (.iload_n 2, 1) := by decide +kernel
theorem dX0_goBack_31 : decode cX0_goBack 31 = .ok (.invokevirtual 139, 3) := by decide +kernel
theorem dX0_goBack_34 : decode cX0_goBack 34 = .ok (.iastore, 1) := by decide +kernel
theorem dX0_goBack_35 : decode cX0_goBack 35 = .ok (.iinc 2 1, 3) := by decide +kernel
theorem dX0_goBack_38 : decode cX0_goBack 38 = .ok (.goto (-26), 3) := by decide +kernel
theorem dX0_goBack_41 : decode cX0_goBack 41 = .ok (.aload_n 0, 1) := by decide +kernel
theorem dX0_goBack_42 : decode cX0_goBack 42 = .ok (.aload_n 0, 1) := by decide +kernel
theorem dX0_goBack_43 : decode cX0_goBack 43 = .ok (.getfield 39, 3) := by decide +kernel
theorem dX0_goBack_46 : decode cX0_goBack 46 = .ok (.iload_n 1, 1) := by decide +kernel
theorem dX0_goBack_47 : decode cX0_goBack 47 = .ok (.bipush 7, 2) := by decide +kernel
theorem dX0_goBack_49 : decode cX0_goBack 49 = .ok (.invokevirtual 139, 3) := by decide +kernel
theorem dX0_goBack_52 : decode cX0_goBack 52 = .ok (.putfield 46, 3) := by decide +kernel
theorem dX0_goBack_55 : decode cX0_goBack 55 = .ok (.aload_n 0, 1) := by decide +kernel
theorem dX0_goBack_56 : decode cX0_goBack 56 = .ok (.aload_n 0, 1) := by decide +kernel
theorem dX0_goBack_57 : decode cX0_goBack 57 = .ok (.getfield 39, 3) := by decide +kernel
theorem dX0_goBack_60 : decode cX0_goBack 60 = .ok (.iload_n 1, 1) := by decide +kernel
theorem dX0_goBack_61 : decode cX0_goBack 61 = .ok (.bipush 8, 2) := by decide +kernel
theorem dX0_goBack_63 : decode cX0_goBack 63 = .ok (.invokevirtual 139, 3) := by decide +kernel
theorem dX0_goBack_66 : decode cX0_goBack 66 = .ok (.putfield 52, 3) := by decide +kernel
theorem dX0_goBack_69 : decode cX0_goBack 69 = .ok (.aload_n 0, 1) := by decide +kernel
theorem dX0_goBack_70 : decode cX0_goBack 70 = .ok (.aload_n 0, 1) := by decide +kernel
theorem dX0_goBack_71 : decode cX0_goBack 71 = .ok (.getfield 39, 3) := by decide +kernel
theorem dX0_goBack_74 : decode cX0_goBack 74 = .ok (.iload_n 1, 1) := by decide +kernel
theorem dX0_goBack_75 : decode cX0_goBack 75 = .ok (.bipush 9, 2) := by decide +kernel
theorem dX0_goBack_77 : decode cX0_goBack 77 = .ok (.invokevirtual 139, 3) := by decide +kernel
theorem dX0_goBack_80 : decode cX0_goBack 80 = .ok (.putfield 49, 3) := by decide +kernel
theorem dX0_goBack_83 : decode cX0_goBack 83 = .ok (.aload_n 0, 1) := by decide +kernel
theorem dX0_goBack_84 : decode cX0_goBack 84 = .ok (.getfield 39, 3) := by decide +kernel
theorem dX0_goBack_87 : decode cX0_goBack 87 = .ok (.invokevirtual 142, 3) := by decide +kernel
theorem dX0_goBack_90 : decode cX0_goBack 90 = .ok (.return_, 1) := by decide +kernel
theorem dX0_mixInto_0 : decode cX0_mixInto 0 = .ok (.lload_n 1, 1) := by decide +kernel
theorem dX0_mixInto_1 : decode cX0_mixInto 1 = .ok (.lstore_n 3, 1) := by decide +kernel
theorem dX0_mixInto_2 : decode cX0_mixInto 2 = .ok (.iconst 0, 1) := by decide +kernel
theorem dX0_mixInto_3 : decode cX0_mixInto 3 = .ok (.istore 5, 2) := by decide +kernel
theorem dX0_mixInto_5 : decode cX0_mixInto 5 = .ok (.iload 5, 2) := by decide +kernel
theorem dX0_mixInto_7 : decode cX0_mixInto 7 = .ok (.iconst 5, 1) := by decide +kernel
theorem dX0_mixInto_8 : decode cX0_mixInto 8 = .ok (.if_icmp .ge 24, 3) := by decide +kernel
theorem dX0_mixInto_11 : decode cX0_mixInto 11 = .ok (.ldc2_w 145, 3) := by decide +kernel
theorem dX0_mixInto_14 : decode cX0_mixInto 14 = .ok (.lload_n 3, 1) := by decide +kernel
theorem dX0_mixInto_15 : decode cX0_mixInto 15 = .ok (.lmul, 1) := by decide +kernel
theorem dX0_mixInto_16 : decode cX0_mixInto 16 = .ok (.aload_n 0, 1) := by decide +kernel
theorem dX0_mixInto_17 : decode cX0_mixInto 17 = .ok (.getfield 9, 3) := by decide +kernel
theorem dX0_mixInto_20 : decode cX0_mixInto 20 = .ok (.iload 5, 2) := by decide +kernel
theorem dX0_mixInto_22 : decode cX0_mixInto 22 = .ok (.iaload, 1) := by decide +kernel
theorem dX0_mixInto_23 : decode cX0_mixInto 23 = .ok (.i2l, 1) := by decide +kernel
theorem dX0_mixInto_24 : decode cX0_mixInto 24 = .ok (.ladd, 1) := by decide +kernel
theorem dX0_mixInto_25 : decode cX0_mixInto 25 = .ok (.lstore_n 3, 1) := by decide +kernel
theorem dX0_mixInto_26 : decode cX0_mixInto 26 = .ok (.iinc 5 1, 3) := by decide +kernel
theorem dX0_mixInto_29 : decode cX0_mixInto 29 = .ok (.goto (-24), 3) := by decide +kernel
theorem dX0_mixInto_32 : decode cX0_mixInto 32 = .ok (.ldc2_w 145, 3) := by decide +kernel
theorem dX0_mixInto_35 : decode cX0_mixInto 35 = .ok (.lload_n 3, 1) := by decide +kernel
theorem dX0_mixInto_36 : decode cX0_mixInto 36 = .ok (.lmul, 1) := by decide +kernel
theorem dX0_mixInto_37 : decode cX0_mixInto 37 = .ok (.aload_n 0, 1) := by decide +kernel
theorem dX0_mixInto_38 : decode cX0_mixInto 38 = .ok (.getfield 46, 3) := by decide +kernel
theorem dX0_mixInto_41 : decode cX0_mixInto 41 = .ok (.i2l, 1) := by decide +kernel
theorem dX0_mixInto_42 : decode cX0_mixInto 42 = .ok (.ladd, 1) := by decide +kernel
theorem dX0_mixInto_43 : decode cX0_mixInto 43 = .ok (.lstore_n 3, 1) := by decide +kernel
theorem dX0_mixInto_44 : decode cX0_mixInto 44 = .ok (.iconst 0, 1) := by decide +kernel
theorem dX0_mixInto_45 : decode cX0_mixInto 45 = .ok (.istore 5, 2) := by decide +kernel
theorem dX0_mixInto_47 : decode cX0_mixInto 47 = .ok (.iload 5, 2) := by decide +kernel
theorem dX0_mixInto_49 : decode cX0_mixInto 49 = .ok (.aload_n 0, 1) := by decide +kernel
theorem dX0_mixInto_50 : decode cX0_mixInto 50 = .ok (.getfield 42, 3) := by decide +kernel
theorem dX0_mixInto_53 : decode cX0_mixInto 53 = .ok (.if_icmp .ge 54, 3) := by decide +kernel
theorem dX0_mixInto_56 : decode cX0_mixInto 56 = .ok (.ldc2_w 145, 3) := by decide +kernel
theorem dX0_mixInto_59 : decode cX0_mixInto 59 = .ok (.lload_n 3, 1) := by decide +kernel
theorem dX0_mixInto_60 : decode cX0_mixInto 60 = .ok (.lmul, 1) := by decide +kernel
theorem dX0_mixInto_61 : decode cX0_mixInto 61 = .ok (.aload_n 0, 1) := by decide +kernel
theorem dX0_mixInto_62 : decode cX0_mixInto 62 = .ok (.getfield 15, 3) := by decide +kernel
theorem dX0_mixInto_65 : decode cX0_mixInto 65 = .ok (.iload 5, 2) := by decide +kernel
theorem dX0_mixInto_67 : decode cX0_mixInto 67 = .ok (.iaload, 1) := by decide +kernel
theorem dX0_mixInto_68 : decode cX0_mixInto 68 = .ok (.i2l, 1) := by decide +kernel
theorem dX0_mixInto_69 : decode cX0_mixInto 69 = .ok (.ladd, 1) := by decide +kernel
theorem dX0_mixInto_70 : decode cX0_mixInto 70 = .ok (.lstore_n 3, 1) := by decide +kernel
theorem dX0_mixInto_71 : decode cX0_mixInto 71 = .ok (.ldc2_w 145, 3) := by decide +kernel
theorem dX0_mixInto_74 : decode cX0_mixInto 74 = .ok (.lload_n 3, 1) := by decide +kernel
theorem dX0_mixInto_75 : decode cX0_mixInto 75 = .ok (.lmul, 1) := by decide +kernel
theorem dX0_mixInto_76 : decode cX0_mixInto 76 = .ok (.aload_n 0, 1) := by decide +kernel
theorem dX0_mixInto_77 : decode cX0_mixInto 77 = .ok (.getfield 18, 3) := by decide +kernel
theorem dX0_mixInto_80 : decode cX0_mixInto 80 = .ok (.iload 5, 2) := by decide +kernel
theorem dX0_mixInto_82 : decode cX0_mixInto 82 = .ok (.iaload, 1) := by decide +kernel
theorem dX0_mixInto_83 : decode cX0_mixInto 83 = .ok (.i2l, 1) := by decide +kernel
theorem dX0_mixInto_84 : decode cX0_mixInto 84 = .ok (.ladd, 1) := by decide +kernel
theorem dX0_mixInto_85 : decode cX0_mixInto 85 = .ok (.lstore_n 3, 1) := by decide +kernel
theorem dX0_mixInto_86 : decode cX0_mixInto 86 = .ok (.ldc2_w 145, 3) := by decide +kernel
theorem dX0_mixInto_89 : decode cX0_mixInto 89 = .ok (.lload_n 3, 1) := by decide +kernel
theorem dX0_mixInto_90 : decode cX0_mixInto 90 = .ok (.lmul, 1) := by decide +kernel
theorem dX0_mixInto_91 : decode cX0_mixInto 91 = .ok (.aload_n 0, 1) := by decide +kernel
theorem dX0_mixInto_92 : decode cX0_mixInto 92 = .ok (.getfield 21, 3) := by decide +kernel
theorem dX0_mixInto_95 : decode cX0_mixInto 95 = .ok (.iload 5, 2) := by decide +kernel
theorem dX0_mixInto_97 : decode cX0_mixInto 97 = .ok (.iaload, 1) := by decide +kernel
theorem dX0_mixInto_98 : decode cX0_mixInto 98 = .ok (.i2l, 1) := by decide +kernel
theorem dX0_mixInto_99 : decode cX0_mixInto 99 = .ok (.ladd, 1) := by decide +kernel
theorem dX0_mixInto_100 : decode cX0_mixInto 100 = .ok (.lstore_n 3, 1) := by decide +kernel
theorem dX0_mixInto_101 : decode cX0_mixInto 101 = .ok (.iinc 5 1, 3) := by decide +kernel
theorem dX0_mixInto_104 : decode cX0_mixInto 104 = .ok (.goto (-57), 3) := by decide +kernel
theorem dX0_mixInto_107 : decode cX0_mixInto 107 = .ok (.aload_n 0, 1) := by decide +kernel
theorem dX0_mixInto_108 : decode cX0_mixInto 108 = .ok (.getfield 29, 3) := by decide +kernel
theorem dX0_mixInto_111 : decode cX0_mixInto 111 = .ok (.lload_n 3, 1) := by decide +kernel
theorem dX0_mixInto_112 : decode cX0_mixInto 112 = .ok (.invokevirtual 147, 3) := by decide +kernel
theorem dX0_mixInto_115 : decode cX0_mixInto 115 = .ok (.lstore_n 3, 1) := by decide +kernel
theorem dX0_mixInto_116 : decode cX0_mixInto 116 = .ok (.aload_n 0, 1) := by decide +kernel
theorem dX0_mixInto_117 : decode cX0_mixInto 117 = .ok (.getfield 33, 3) := by decide +kernel
theorem dX0_mixInto_120 : decode cX0_mixInto 120 = .ok (.lload_n 3, 1) := by decide +kernel
theorem dX0_mixInto_121 : decode cX0_mixInto 121 = .ok (.invokevirtual 147, 3) := by decide +kernel
theorem dX0_mixInto_124 : decode cX0_mixInto 124 = .ok (.lstore_n 3, 1) := by decide +kernel
theorem dX0_mixInto_125 : decode cX0_mixInto 125 = .ok (.aload_n 0, 1) := by decide +kernel
theorem dX0_mixInto_126 : decode cX0_mixInto 126 = .ok (.getfield 36, 3) := by decide +kernel
theorem dX0_mixInto_129 : decode cX0_mixInto 129 = .ok (.lload_n 3, 1) := by decide +kernel
theorem dX0_mixInto_130 : decode cX0_mixInto 130 = .ok (.invokevirtual 147, 3) := by decide +kernel
theorem dX0_mixInto_133 : decode cX0_mixInto 133 = .ok (.lreturn, 1) := by decide +kernel
end
section
theorem dX1_sight_0 : decode cX1_sight 0 = .ok (.bipush 9, 2) := by decide +kernel
theorem dX1_sight_2 : decode cX1_sight 2 = .ok (.iconst 2, 1) := by decide +kernel
theorem dX1_sight_3 : decode cX1_sight 3 = .ok (.iload_n 1, 1) := by decide +kernel
theorem dX1_sight_4 : decode cX1_sight 4 = .ok (.imul, 1) := by decide +kernel
theorem dX1_sight_5 : decode cX1_sight 5 = .ok (.iconst 5, 1) := by decide +kernel
theorem dX1_sight_6 : decode cX1_sight 6 = .ok (.isub, 1) := by decide +kernel
theorem dX1_sight_7 : decode cX1_sight 7 = .ok (.invokestatic 7, 3) := by decide +kernel
theorem dX1_sight_10 : decode cX1_sight 10 = .ok (.isub, 1) := by decide +kernel
theorem dX1_sight_11 : decode cX1_sight 11 = .ok (.istore_n 2, 1) := by decide +kernel
theorem dX1_sight_12 : decode cX1_sight 12 = .ok (.iload_n 1, 1) := by decide +kernel
theorem dX1_sight_13 : decode cX1_sight 13 = .ok (.iconst 2, 1) := by decide +kernel
theorem dX1_sight_14 : decode cX1_sight 14 = .ok (.if_icmp .ne 7, 3) := by decide +kernel
theorem dX1_sight_17 : decode cX1_sight 17 = .ok (.iconst 0, 1) := by decide +kernel
theorem dX1_sight_18 : decode cX1_sight 18 = .ok (.goto 4, 3) := by decide +kernel
theorem dX1_sight_21 : decode cX1_sight 21 = .ok (.iload_n 2, 1) := by decide +kernel
theorem dX1_sight_22 : decode cX1_sight 22 = .ok (.istore_n 3, 1) := by decide +kernel
theorem dX1_sight_23 : decode cX1_sight 23 = .ok (.iload_n 2, 1) := by decide +kernel
theorem dX1_sight_24 : decode cX1_sight 24 = .ok (.iconst 4, 1) := by decide +kernel
theorem dX1_sight_25 : decode cX1_sight 25 = .ok (.iadd, 1) := by decide +kernel
theorem dX1_sight_26 : decode cX1_sight 26 = .ok (.istore 4, 2) := by decide +kernel
theorem dX1_sight_28 : decode cX1_sight 28 = .ok (.iload_n 0, 1) := by decide +kernel
theorem dX1_sight_29 : decode cX1_sight 29 = .ok (.tableswitch 63 1 5 #[35, 37, 40, 44, 52], 35) := by decide +kernel
theorem dX1_sight_64 : decode cX1_sight 64 = .ok (.iload_n 3, 1) := by decide +kernel
theorem dX1_sight_65 : decode cX1_sight 65 = .ok (.ireturn, 1) := by decide +kernel
theorem dX1_sight_66 : decode cX1_sight 66 = .ok (.iload 4, 2) := by decide +kernel
theorem dX1_sight_68 : decode cX1_sight 68 = .ok (.ireturn, 1) := by decide +kernel
theorem dX1_sight_69 : decode cX1_sight 69 = .ok (.iload_n 2, 1) := by decide +kernel
theorem dX1_sight_70 : decode cX1_sight 70 = .ok (.iconst 2, 1) := by decide +kernel
theorem dX1_sight_71 : decode cX1_sight 71 = .ok (.idiv, 1) := by decide +kernel
theorem dX1_sight_72 : decode cX1_sight 72 = .ok (.ireturn, 1) := by decide +kernel
theorem dX1_sight_73 : decode cX1_sight 73 = .ok (.iconst 0, 1) := by decide +kernel
theorem dX1_sight_74 : decode cX1_sight 74 = .ok (.iload_n 3, 1) := by decide +kernel
theorem dX1_sight_75 : decode cX1_sight 75 = .ok (.iconst 2, 1) := by decide +kernel
theorem dX1_sight_76 : decode cX1_sight 76 = .ok (.isub, 1) := by decide +kernel
theorem dX1_sight_77 : decode cX1_sight 77 = .ok (.invokestatic 13, 3) := by decide +kernel
theorem dX1_sight_80 : decode cX1_sight 80 = .ok (.ireturn, 1) := by decide +kernel
theorem dX1_sight_81 : decode cX1_sight 81 = .ok (.iconst 0, 1) := by decide +kernel
theorem dX1_sight_82 : decode cX1_sight 82 = .ok (.iload 4, 2) := by decide +kernel
theorem dX1_sight_84 : decode cX1_sight 84 = .ok (.iconst 2, 1) := by decide +kernel
theorem dX1_sight_85 : decode cX1_sight 85 = .ok (.iload_n 1, 1) := by decide +kernel
theorem dX1_sight_86 : decode cX1_sight 86 = .ok (.imul, 1) := by decide +kernel
theorem dX1_sight_87 : decode cX1_sight 87 = .ok (.isub, 1) := by decide +kernel
theorem dX1_sight_88 : decode cX1_sight 88 = .ok (.invokestatic 13, 3) := by decide +kernel
theorem dX1_sight_91 : decode cX1_sight 91 = .ok (.ireturn, 1) := by decide +kernel
theorem dX1_sight_92 : decode cX1_sight 92 = .ok (.iload_n 2, 1) := by decide +kernel
theorem dX1_sight_93 : decode cX1_sight 93 = .ok (.ireturn, 1) := by decide +kernel
theorem dX1_fuss_0 : decode cX1_fuss 0 = .ok (.iload_n 1, 1) := by decide +kernel
theorem dX1_fuss_1 : decode cX1_fuss 1 = .ok (.iconst 2, 1) := by decide +kernel
theorem dX1_fuss_2 : decode cX1_fuss 2 = .ok (.iadd, 1) := by decide +kernel
theorem dX1_fuss_3 : decode cX1_fuss 3 = .ok (.istore_n 3, 1) := by decide +kernel
theorem dX1_fuss_4 : decode cX1_fuss 4 = .ok (.iload_n 2, 1) := by decide +kernel
theorem dX1_fuss_5 : decode cX1_fuss 5 = .ok (.bipush 10, 2) := by decide +kernel
theorem dX1_fuss_7 : decode cX1_fuss 7 = .ok (.if_icmp .lt 9, 3) := by decide +kernel
theorem dX1_fuss_10 : decode cX1_fuss 10 = .ok (.iconst 2, 1) := by decide +kernel
theorem dX1_fuss_11 : decode cX1_fuss 11 = .ok (.iload_n 1, 1) := by decide +kernel
theorem dX1_fuss_12 : decode cX1_fuss 12 = .ok (.imul, 1) := by decide +kernel
theorem dX1_fuss_13 : decode cX1_fuss 13 = .ok (.goto 4, 3) := by decide +kernel
theorem dX1_fuss_16 : decode cX1_fuss 16 = .ok (.iload_n 1, 1) := by decide +kernel
theorem dX1_fuss_17 : decode cX1_fuss 17 = .ok (.istore 4, 2) := by decide +kernel
theorem dX1_fuss_19 : decode cX1_fuss 19 = .ok (.iload_n 0, 1) := by decide +kernel
theorem dX1_fuss_20 : decode cX1_fuss 20 = .ok (.tableswitch 66 1 5 #[36, 38, 41, 47, 51], 36) := by decide +kernel
theorem dX1_fuss_56 : decode cX1_fuss 56 = .ok (.iload_n 3, 1) := by decide +kernel
theorem dX1_fuss_57 : decode cX1_fuss 57 = .ok (.ireturn, 1) := by decide +kernel
theorem dX1_fuss_58 : decode cX1_fuss 58 = .ok (.iload 4, 2) := by decide +kernel
theorem dX1_fuss_60 : decode cX1_fuss 60 = .ok (.ireturn, 1) := by decide +kernel
theorem dX1_fuss_61 : decode cX1_fuss 61 = .ok (.iload_n 1, 1) := by decide +kernel
theorem dX1_fuss_62 : decode cX1_fuss 62 = .ok (.iconst 1, 1) := by decide +kernel
theorem dX1_fuss_63 : decode cX1_fuss 63 = .ok (.iadd, 1) := by decide +kernel
theorem dX1_fuss_64 : decode cX1_fuss 64 = .ok (.iconst 2, 1) := by decide +kernel
theorem dX1_fuss_65 : decode cX1_fuss 65 = .ok (.idiv, 1) := by decide +kernel
theorem dX1_fuss_66 : decode cX1_fuss 66 = .ok (.ireturn, 1) := by decide +kernel
theorem dX1_fuss_67 : decode cX1_fuss 67 = .ok (.iload_n 3, 1) := by decide +kernel
theorem dX1_fuss_68 : decode cX1_fuss 68 = .ok (.iconst 1, 1) := by decide +kernel
theorem dX1_fuss_69 : decode cX1_fuss 69 = .ok (.isub, 1) := by decide +kernel
theorem dX1_fuss_70 : decode cX1_fuss 70 = .ok (.ireturn, 1) := by decide +kernel
theorem dX1_fuss_71 : decode cX1_fuss 71 = .ok (.iload_n 1, 1) := by decide +kernel
theorem dX1_fuss_72 : decode cX1_fuss 72 = .ok (.iconst 1, 1) := by decide +kernel
theorem dX1_fuss_73 : decode cX1_fuss 73 = .ok (.if_icmp .lt 10, 3) := by decide +kernel
theorem dX1_fuss_76 : decode cX1_fuss 76 = .ok (.iload 4, 2) := by decide +kernel
theorem dX1_fuss_78 : decode cX1_fuss 78 = .ok (.iconst 3, 1) := by decide +kernel
theorem dX1_fuss_79 : decode cX1_fuss 79 = .ok (.iadd, 1) := by decide +kernel
theorem dX1_fuss_80 : decode cX1_fuss 80 = .ok (.goto 5, 3) := by decide +kernel
theorem dX1_fuss_83 : decode cX1_fuss 83 = .ok (.iload 4, 2) := by decide +kernel
theorem dX1_fuss_85 : decode cX1_fuss 85 = .ok (.ireturn, 1) := by decide +kernel
theorem dX1_fuss_86 : decode cX1_fuss 86 = .ok (.iload_n 1, 1) := by decide +kernel
theorem dX1_fuss_87 : decode cX1_fuss 87 = .ok (.ireturn, 1) := by decide +kernel
end
section
theorem dX2_fewestSwaps_0 : decode cX2_fewestSwaps 0 = .ok (.iconst 0, 1) := by decide +kernel
theorem dX2_fewestSwaps_1 : decode cX2_fewestSwaps 1 = .ok (.istore_n 1, 1) := by decide +kernel
theorem dX2_fewestSwaps_2 : decode cX2_fewestSwaps 2 = .ok (.iconst 0, 1) := by decide +kernel
theorem dX2_fewestSwaps_3 : decode cX2_fewestSwaps 3 = .ok (.istore_n 2, 1) := by decide +kernel
theorem dX2_fewestSwaps_4 : decode cX2_fewestSwaps 4 = .ok (.iload_n 2, 1) := by decide +kernel
theorem dX2_fewestSwaps_5 : decode cX2_fewestSwaps 5 = .ok (.aload_n 0, 1) := by decide +kernel
theorem dX2_fewestSwaps_6 : decode cX2_fewestSwaps 6 = .ok (.getfield 9, 3) := by decide +kernel
theorem dX2_fewestSwaps_9 : decode cX2_fewestSwaps 9 = .ok (.if_icmp .ge 48, 3) := by decide +kernel
theorem dX2_fewestSwaps_12 : decode cX2_fewestSwaps 12 = .ok (.aload_n 0, 1) := by decide +kernel
theorem dX2_fewestSwaps_13 : decode cX2_fewestSwaps 13 = .ok (.iload_n 2, 1) := by decide +kernel
theorem dX2_fewestSwaps_14 : decode cX2_fewestSwaps 14 = .ok (.invokestatic 15, 3) := by decide +kernel
theorem dX2_fewestSwaps_17 : decode cX2_fewestSwaps 17 = .ok (.ifCond .eq 34, 3) := by decide +kernel
theorem dX2_fewestSwaps_20 : decode cX2_fewestSwaps 20 = .ok (.aload_n 0, 1) := by decide +kernel
theorem dX2_fewestSwaps_21 : decode cX2_fewestSwaps 21 = .ok (.getfield 21, 3) := by decide +kernel
theorem dX2_fewestSwaps_24 : decode cX2_fewestSwaps 24 = .ok (.iload_n 2, 1) := by decide +kernel
theorem dX2_fewestSwaps_25 : decode cX2_fewestSwaps 25 = .ok (.iaload, 1) := by decide +kernel
theorem dX2_fewestSwaps_26 : decode cX2_fewestSwaps 26 = .ok (.aload_n 0, 1) := by decide +kernel
theorem dX2_fewestSwaps_27 : decode cX2_fewestSwaps 27 = .ok (.getfield 25, 3) := by decide +kernel
theorem dX2_fewestSwaps_30 : decode cX2_fewestSwaps 30 = .ok (.iload_n 2, 1) := by decide +kernel
theorem dX2_fewestSwaps_31 : decode cX2_fewestSwaps 31 = .ok (.iaload, 1) := by decide +kernel
theorem dX2_fewestSwaps_32 : decode cX2_fewestSwaps 32 = .ok (.if_icmp .eq 19, 3) := by decide +kernel
theorem dX2_fewestSwaps_35 : decode cX2_fewestSwaps 35 = .ok (.iload_n 1, 1) := by decide +kernel
theorem dX2_fewestSwaps_36 : decode cX2_fewestSwaps 36 = .ok (.aload_n 0, 1) := by decide +kernel
theorem dX2_fewestSwaps_37 : decode cX2_fewestSwaps 37 = .ok (.iload_n 2, 1) := by decide +kernel
theorem dX2_fewestSwaps_38 : decode cX2_fewestSwaps 38 = .ok (.invokestatic 28, 3) := by decide +kernel
theorem dX2_fewestSwaps_41 : decode cX2_fewestSwaps 41 = .ok (.ifCond .eq 7, 3) := by decide +kernel
theorem dX2_fewestSwaps_44 : decode cX2_fewestSwaps 44 = .ok (.iconst 0, 1) := by decide +kernel
theorem dX2_fewestSwaps_45 : decode cX2_fewestSwaps 45 = .ok (.goto 4, 3) := by decide +kernel
theorem dX2_fewestSwaps_48 : decode cX2_fewestSwaps 48 = .ok (.iconst 1, 1) := by decide +kernel
theorem dX2_fewestSwaps_49 : decode cX2_fewestSwaps 49 = .ok (.iadd, 1) := by decide +kernel
theorem dX2_fewestSwaps_50 : decode cX2_fewestSwaps 50 = .ok (.istore_n 1, 1) := by decide +kernel
theorem dX2_fewestSwaps_51 : decode cX2_fewestSwaps 51 = .ok (.iinc 2 1, 3) := by decide +kernel
theorem dX2_fewestSwaps_54 : decode cX2_fewestSwaps 54 = .ok (.goto (-50), 3) := by decide +kernel
theorem dX2_fewestSwaps_57 : decode cX2_fewestSwaps 57 = .ok (.iload_n 1, 1) := by decide +kernel
theorem dX2_fewestSwaps_58 : decode cX2_fewestSwaps 58 = .ok (.ireturn, 1) := by decide +kernel
theorem dX2_owns_0 : decode cX2_owns 0 = .ok (.aload_n 0, 1) := by decide +kernel
theorem dX2_owns_1 : decode cX2_owns 1 = .ok (.iload_n 1, 1) := by decide +kernel
theorem dX2_owns_2 : decode cX2_owns 2 = .ok (.invokevirtual 31, 3) := by decide +kernel
theorem dX2_owns_5 : decode cX2_owns 5 = .ok (.ifCond .ne 5, 3) := by decide +kernel
theorem dX2_owns_8 : decode cX2_owns 8 = .ok (.iconst 0, 1) := by decide +kernel
theorem dX2_owns_9 : decode cX2_owns 9 = .ok (.ireturn, 1) := by decide +kernel
theorem dX2_owns_10 : decode cX2_owns 10 = .ok (.iconst 0, 1) := by decide +kernel
theorem dX2_owns_11 : decode cX2_owns 11 = .ok (.istore_n 2, 1) := by decide +kernel
theorem dX2_owns_12 : decode cX2_owns 12 = .ok (.iload_n 2, 1) := by decide +kernel
theorem dX2_owns_13 : decode cX2_owns 13 = .ok (.iload_n 1, 1) := by decide +kernel
theorem dX2_owns_14 : decode cX2_owns 14 = .ok (.if_icmp .ge 34, 3) := by decide +kernel
theorem dX2_owns_17 : decode cX2_owns 17 = .ok (.aload_n 0, 1) := by decide +kernel
theorem dX2_owns_18 : decode cX2_owns 18 = .ok (.iload_n 2, 1) := by decide +kernel
theorem dX2_owns_19 : decode cX2_owns 19 = .ok (.invokevirtual 31, 3) := by decide +kernel
theorem dX2_owns_22 : decode cX2_owns 22 = .ok (.ifCond .eq 20, 3) := by decide +kernel
theorem dX2_owns_25 : decode cX2_owns 25 = .ok (.aload_n 0, 1) := by decide +kernel
theorem dX2_owns_26 : decode cX2_owns 26 = .ok (.getfield 25, 3) := by decide +kernel
theorem dX2_owns_29 : decode cX2_owns 29 = .ok (.iload_n 2, 1) := by decide +kernel
theorem dX2_owns_30 : decode cX2_owns 30 = .ok (.iaload, 1) := by decide +kernel
theorem dX2_owns_31 : decode cX2_owns 31 = .ok (.aload_n 0, 1) := by decide +kernel
theorem dX2_owns_32 : decode cX2_owns 32 = .ok (.getfield 25, 3) := by decide +kernel
theorem dX2_owns_35 : decode cX2_owns 35 = .ok (.iload_n 1, 1) := by decide +kernel
theorem dX2_owns_36 : decode cX2_owns 36 = .ok (.iaload, 1) := by decide +kernel
theorem dX2_owns_37 : decode cX2_owns 37 = .ok (.if_icmp .ne 5, 3) := by decide +kernel
theorem dX2_owns_40 : decode cX2_owns 40 = .ok (.iconst 0, 1) := by decide +kernel
theorem dX2_owns_41 : decode cX2_owns 41 = .ok (.ireturn, 1) := by decide +kernel
theorem dX2_owns_42 : decode cX2_owns 42 = .ok (.iinc 2 1, 3) := by decide +kernel
theorem dX2_owns_45 : decode cX2_owns 45 = .ok (.goto (-33), 3) := by decide +kernel
theorem dX2_owns_48 : decode cX2_owns 48 = .ok (.iconst 1, 1) := by decide +kernel
theorem dX2_owns_49 : decode cX2_owns 49 = .ok (.ireturn, 1) := by decide +kernel
theorem dX2_leadsRing_0 : decode cX2_leadsRing 0 = .ok (.iload_n 1, 1) := by decide +kernel
theorem dX2_leadsRing_1 : decode cX2_leadsRing 1 = .ok (.istore_n 2, 1) := by decide +kernel
theorem dX2_leadsRing_2 : decode cX2_leadsRing 2 = .ok (.iconst 0, 1) := by decide +kernel
theorem dX2_leadsRing_3 : decode cX2_leadsRing 3 = .ok (.istore_n 3, 1) := by decide +kernel
theorem dX2_leadsRing_4 : decode cX2_leadsRing 4 = .ok (.iload_n 3, 1) := by decide +kernel
theorem dX2_leadsRing_5 : decode cX2_leadsRing 5 = .ok (.bipush 7, 2) := by decide +kernel
theorem dX2_leadsRing_7 : decode cX2_leadsRing 7 = .ok (.if_icmp .ge 42, 3) := by decide +kernel
theorem dX2_leadsRing_10 : decode cX2_leadsRing 10 = .ok (.aload_n 0, 1) := by decide +kernel
theorem dX2_leadsRing_11 : decode cX2_leadsRing 11 = .ok (.aload_n 0, 1) := by decide +kernel
theorem dX2_leadsRing_12 : decode cX2_leadsRing 12 = .ok (.getfield 25, 3) := by decide +kernel
theorem dX2_leadsRing_15 : decode cX2_leadsRing 15 = .ok (.iload_n 2, 1) := by decide +kernel
theorem dX2_leadsRing_16 : decode cX2_leadsRing 16 = .ok (.iaload, 1) := by decide +kernel
theorem dX2_leadsRing_17 : decode cX2_leadsRing 17 = .ok (.invokevirtual 35, 3) := by decide +kernel
theorem dX2_leadsRing_20 : decode cX2_leadsRing 20 = .ok (.istore_n 2, 1) := by decide +kernel
theorem dX2_leadsRing_21 : decode cX2_leadsRing 21 = .ok (.iload_n 2, 1) := by decide +kernel
theorem dX2_leadsRing_22 : decode cX2_leadsRing 22 = .ok (.iload_n 1, 1) := by decide +kernel
theorem dX2_leadsRing_23 : decode cX2_leadsRing 23 = .ok (.if_icmp .ne 5, 3) := by decide +kernel
theorem dX2_leadsRing_26 : decode cX2_leadsRing 26 = .ok (.iconst 1, 1) := by decide +kernel
theorem dX2_leadsRing_27 : decode cX2_leadsRing 27 = .ok (.ireturn, 1) := by decide +kernel
theorem dX2_leadsRing_28 : decode cX2_leadsRing 28 = .ok (.iload_n 2, 1) := by decide +kernel
theorem dX2_leadsRing_29 : decode cX2_leadsRing 29 = .ok (.iload_n 1, 1) := by decide +kernel
theorem dX2_leadsRing_30 : decode cX2_leadsRing 30 = .ok (.if_icmp .lt 11, 3) := by decide +kernel
theorem dX2_leadsRing_33 : decode cX2_leadsRing 33 = .ok (.aload_n 0, 1) := by decide +kernel
theorem dX2_leadsRing_34 : decode cX2_leadsRing 34 = .ok (.iload_n 2, 1) := by decide +kernel
theorem dX2_leadsRing_35 : decode cX2_leadsRing 35 = .ok (.invokestatic 15, 3) := by decide +kernel
theorem dX2_leadsRing_38 : decode cX2_leadsRing 38 = .ok (.ifCond .ne 5, 3) := by decide +kernel
theorem dX2_leadsRing_41 : decode cX2_leadsRing 41 = .ok (.iconst 0, 1) := by decide +kernel
theorem dX2_leadsRing_42 : decode cX2_leadsRing 42 = .ok (.ireturn, 1) := by decide +kernel
theorem dX2_leadsRing_43 : decode cX2_leadsRing 43 = .ok (.iinc 3 1, 3) := by decide +kernel
theorem dX2_leadsRing_46 : decode cX2_leadsRing 46 = .ok (.goto (-42), 3) := by decide +kernel
theorem dX2_leadsRing_49 : decode cX2_leadsRing 49 = .ok (.iconst 0, 1) := by decide +kernel
theorem dX2_leadsRing_50 : decode cX2_leadsRing 50 = .ok (.ireturn, 1) := by decide +kernel
end
section
theorem dX3_init_0 : decode cX3_init 0 = .ok (.aload_n 0, 1) := by decide +kernel
theorem dX3_init_1 : decode cX3_init 1 = .ok (.invokespecial 3, 3) := by decide +kernel
theorem dX3_init_4 : decode cX3_init 4 = .ok (.aload_n 0, 1) := by decide +kernel
theorem dX3_init_5 : decode cX3_init 5 = .ok (.sipush 128, 3) := by decide +kernel
theorem dX3_init_8 : decode cX3_init 8 = .ok (.newarray .int, 2) := by decide +kernel
theorem dX3_init_10 : decode cX3_init 10 = .ok (.putfield 11, 3) := by decide +kernel
theorem dX3_init_13 : decode cX3_init 13 = .ok (.return_, 1) := by decide +kernel
theorem dX3_prepare_0 : decode cX3_prepare 0 = .ok (.aload_n 0, 1) := by decide +kernel
theorem dX3_prepare_1 : decode cX3_prepare 1 = .ok (.aload_n 1, 1) := by decide +kernel
theorem dX3_prepare_2 : decode cX3_prepare 2 = .ok (.invokestatic 15, 3) := by decide +kernel
theorem dX3_prepare_5 : decode cX3_prepare 5 = .ok (.putfield 19, 3) := by decide +kernel
theorem dX3_prepare_8 : decode cX3_prepare 8 = .ok (.bipush 127, 2) := by decide +kernel
theorem dX3_prepare_10 : decode cX3_prepare 10 = .ok (.istore_n 2, 1) := by decide +kernel
theorem dX3_prepare_11 : decode cX3_prepare 11 = .ok (.iload_n 2, 1) := by decide +kernel
theorem dX3_prepare_12 : decode cX3_prepare 12 = .ok (.ifCond .lt 32, 3) := by decide +kernel
theorem dX3_prepare_15 : decode cX3_prepare 15 = .ok (.iload_n 2, 1) := by decide +kernel
theorem dX3_prepare_16 : decode cX3_prepare 16 = .ok (.aload_n 0, 1) := by decide +kernel
theorem dX3_prepare_17 : decode cX3_prepare 17 = .ok (.getfield 19, 3) := by decide +kernel
theorem dX3_prepare_20 : decode cX3_prepare 20 = .ok (.iconst (-1), 1) := by decide +kernel
theorem dX3_prepare_21 : decode cX3_prepare 21 = .ok (.ixor, 1) := by decide +kernel
theorem dX3_prepare_22 : decode cX3_prepare 22 = .ok (.iand, 1) := by decide +kernel
theorem dX3_prepare_23 : decode cX3_prepare 23 = .ok (.ifCond .ne 15, 3) := by decide +kernel
theorem dX3_prepare_26 : decode cX3_prepare 26 = .ok (.aload_n 0, 1) := by decide +kernel
theorem dX3_prepare_27 : decode cX3_prepare 27 = .ok (.getfield 11, 3) := by decide +kernel
theorem dX3_prepare_30 : decode cX3_prepare 30 = .ok (.iload_n 2, 1) := by decide +kernel
theorem dX3_prepare_31 : decode cX3_prepare 31 = .ok (.aload_n 0, 1) := by decide +kernel
theorem dX3_prepare_32 : decode cX3_prepare 32 = .ok (.aload_n 1, 1) := by decide +kernel
theorem dX3_prepare_33 : decode cX3_prepare 33 = .ok (.iload_n 2, 1) := by decide +kernel
theorem dX3_prepare_34 : decode cX3_prepare 34 = .ok (.invokevirtual 23, 3) := by decide +kernel
theorem dX3_prepare_37 : decode cX3_prepare 37 = .ok (.iastore, 1) := by decide +kernel
theorem dX3_prepare_38 : decode cX3_prepare 38 = .ok (.iinc 2 (-1), 3) := by decide +kernel
theorem dX3_prepare_41 : decode cX3_prepare 41 = .ok (.goto (-30), 3) := by decide +kernel
theorem dX3_prepare_44 : decode cX3_prepare 44 = .ok (.return_, 1) := by decide +kernel
theorem dX3_size_0 : decode cX3_size 0 = .ok (.aload_n 0, 1) := by decide +kernel
theorem dX3_size_1 : decode cX3_size 1 = .ok (.getfield 19, 3) := by decide +kernel
theorem dX3_size_4 : decode cX3_size 4 = .ok (.invokestatic 27, 3) := by decide +kernel
theorem dX3_size_7 : decode cX3_size 7 = .ok (.ireturn, 1) := by decide +kernel
theorem dX3_leastFuss_0 : decode cX3_leastFuss 0 = .ok (.aload_n 0, 1) := by decide +kernel
theorem dX3_leastFuss_1 : decode cX3_leastFuss 1 = .ok (.getfield 11, 3) := by decide +kernel
theorem dX3_leastFuss_4 : decode cX3_leastFuss 4 = .ok (.iconst 0, 1) := by decide +kernel
theorem dX3_leastFuss_5 : decode cX3_leastFuss 5 = .ok (.iaload, 1) := by decide +kernel
theorem dX3_leastFuss_6 : decode cX3_leastFuss 6 = .ok (.ireturn, 1) := by decide +kernel
theorem dX3_whoComes_0 : decode cX3_whoComes 0 = .ok (.iconst 0, 1) := by decide +kernel
theorem dX3_whoComes_1 : decode cX3_whoComes 1 = .ok (.istore_n 3, 1) := by decide +kernel
theorem dX3_whoComes_2 : decode cX3_whoComes 2 = .ok (.iconst (-1), 1) := by decide +kernel
theorem dX3_whoComes_3 : decode cX3_whoComes 3 = .ok (.istore 4, 2) := by decide +kernel
theorem dX3_whoComes_5 : decode cX3_whoComes 5 = .ok (.iconst 0, 1) := by decide +kernel
theorem dX3_whoComes_6 : decode cX3_whoComes 6 = .ok (.istore 5, 2) := by decide +kernel
theorem dX3_whoComes_8 : decode cX3_whoComes 8 = .ok (.iload 5, 2) := by decide +kernel
theorem dX3_whoComes_10 : decode cX3_whoComes 10 = .ok (.iload_n 2, 1) := by decide +kernel
theorem dX3_whoComes_11 : decode cX3_whoComes 11 = .ok (.if_icmp .gt 39, 3) := by decide +kernel
theorem dX3_whoComes_14 : decode cX3_whoComes 14 = .ok (.iload 5, 2) := by decide +kernel
theorem dX3_whoComes_16 : decode cX3_whoComes 16 = .ok (.bipush 7, 2) := by decide +kernel
theorem dX3_whoComes_18 : decode cX3_whoComes 18 = .ok (.if_icmp .ge 32, 3) := by decide +kernel
theorem dX3_whoComes_21 : decode cX3_whoComes 21 = .ok (.aload_n 0, 1) := by decide +kernel
theorem dX3_whoComes_22 : decode cX3_whoComes 22 = .ok (.aload_n 1, 1) := by decide +kernel
theorem dX3_whoComes_23 : decode cX3_whoComes 23 = .ok (.iload_n 3, 1) := by decide +kernel
theorem dX3_whoComes_24 : decode cX3_whoComes 24 = .ok (.invokevirtual 33, 3) := by decide +kernel
theorem dX3_whoComes_27 : decode cX3_whoComes 27 = .ok (.istore 4, 2) := by decide +kernel
theorem dX3_whoComes_29 : decode cX3_whoComes 29 = .ok (.iload 4, 2) := by decide +kernel
theorem dX3_whoComes_31 : decode cX3_whoComes 31 = .ok (.iconst (-1), 1) := by decide +kernel
theorem dX3_whoComes_32 : decode cX3_whoComes 32 = .ok (.if_icmp .ne 5, 3) := by decide +kernel
theorem dX3_whoComes_35 : decode cX3_whoComes 35 = .ok (.iconst (-1), 1) := by decide +kernel
theorem dX3_whoComes_36 : decode cX3_whoComes 36 = .ok (.ireturn, 1) := by decide +kernel
theorem dX3_whoComes_37 : decode cX3_whoComes 37 = .ok (.iload_n 3, 1) := by decide +kernel
theorem dX3_whoComes_38 : decode cX3_whoComes 38 = .ok (.iconst 1, 1) := by decide +kernel
theorem dX3_whoComes_39 : decode cX3_whoComes 39 = .ok (.iload 4, 2) := by decide +kernel
theorem dX3_whoComes_41 : decode cX3_whoComes 41 = .ok (.ishl, 1) := by decide +kernel
theorem dX3_whoComes_42 : decode cX3_whoComes 42 = .ok (.ior, 1) := by decide +kernel
theorem dX3_whoComes_43 : decode cX3_whoComes 43 = .ok (.istore_n 3, 1) := by decide +kernel
theorem dX3_whoComes_44 : decode cX3_whoComes 44 = .ok (.iinc 5 1, 3) := by decide +kernel
theorem dX3_whoComes_47 : decode cX3_whoComes 47 = .ok (.goto (-39), 3) := by decide +kernel
theorem dX3_whoComes_50 : decode cX3_whoComes 50 = .ok (.iload 4, 2) := by decide +kernel
theorem dX3_whoComes_52 : decode cX3_whoComes 52 = .ok (.ireturn, 1) := by decide +kernel
theorem dX3_whoCanCome_0 : decode cX3_whoCanCome 0 = .ok (.iconst 0, 1) := by decide +kernel
theorem dX3_whoCanCome_1 : decode cX3_whoCanCome 1 = .ok (.istore_n 1, 1) := by decide +kernel
theorem dX3_whoCanCome_2 : decode cX3_whoCanCome 2 = .ok (.iconst 0, 1) := by decide +kernel
theorem dX3_whoCanCome_3 : decode cX3_whoCanCome 3 = .ok (.istore_n 2, 1) := by decide +kernel
theorem dX3_whoCanCome_4 : decode cX3_whoCanCome 4 = .ok (.iload_n 2, 1) := by decide +kernel
theorem dX3_whoCanCome_5 : decode cX3_whoCanCome 5 = .ok (.aload_n 0, 1) := by decide +kernel
theorem dX3_whoCanCome_6 : decode cX3_whoCanCome 6 = .ok (.getfield 36, 3) := by decide +kernel
theorem dX3_whoCanCome_9 : decode cX3_whoCanCome 9 = .ok (.if_icmp .ge 50, 3) := by decide +kernel
theorem dX3_whoCanCome_12 : decode cX3_whoCanCome 12 = .ok (.aload_n 0, 1) := by decide +kernel
theorem dX3_whoCanCome_13 : decode cX3_whoCanCome 13 = .ok (.iload_n 2, 1) := by decide +kernel
theorem dX3_whoCanCome_14 : decode cX3_whoCanCome 14 = .ok (.invokevirtual 41, 3) := by decide +kernel
theorem dX3_whoCanCome_17 : decode cX3_whoCanCome 17 = .ok (.ifCond .ne 36, 3) := by decide +kernel
theorem dX3_whoCanCome_20 : decode cX3_whoCanCome 20 = .ok (.aload_n 0, 1) := by decide +kernel
theorem dX3_whoCanCome_21 : decode cX3_whoCanCome 21 = .ok (.aload_n 0, 1) := by decide +kernel
theorem dX3_whoCanCome_22 : decode cX3_whoCanCome 22 = .ok (.getfield 45, 3) := by decide +kernel
theorem dX3_whoCanCome_25 : decode cX3_whoCanCome 25 = .ok (.iload_n 2, 1) := by decide +kernel
theorem dX3_whoCanCome_26 : decode cX3_whoCanCome 26 = .ok (.iaload, 1) := by decide +kernel
theorem dX3_whoCanCome_27 : decode cX3_whoCanCome 27 = .ok (.invokevirtual 48, 3) := by decide +kernel
theorem dX3_whoCanCome_30 : decode cX3_whoCanCome 30 = .ok (.ifCond .eq 23, 3) := by decide +kernel
theorem dX3_whoCanCome_33 : decode cX3_whoCanCome 33 = .ok (.aload_n 0, 1) := by decide +kernel
theorem dX3_whoCanCome_34 : decode cX3_whoCanCome 34 = .ok (.iload_n 1, 1) := by decide +kernel
theorem dX3_whoCanCome_35 : decode cX3_whoCanCome 35 = .ok (.aload_n 0, 1) := by decide +kernel
theorem dX3_whoCanCome_36 : decode cX3_whoCanCome 36 = .ok (.getfield 45, 3) := by decide +kernel
theorem dX3_whoCanCome_39 : decode cX3_whoCanCome 39 = .ok (.iload_n 2, 1) := by decide +kernel
theorem dX3_whoCanCome_40 : decode cX3_whoCanCome 40 = .ok (.iaload, 1) := by decide +kernel
theorem dX3_whoCanCome_41 : decode cX3_whoCanCome 41 = .ok (.invokestatic 51, 3) := by decide +kernel
theorem dX3_whoCanCome_44 : decode cX3_whoCanCome 44 = .ok (.ifCond .ne 9, 3) := by decide +kernel
theorem dX3_whoCanCome_47 : decode cX3_whoCanCome 47 = .ok (.iload_n 1, 1) := by decide +kernel
theorem dX3_whoCanCome_48 : decode cX3_whoCanCome 48 = .ok (.iconst 1, 1) := by decide +kernel
theorem dX3_whoCanCome_49 : decode cX3_whoCanCome 49 = .ok (.iload_n 2, 1) := by decide +kernel
theorem dX3_whoCanCome_50 : decode cX3_whoCanCome 50 = .ok (.ishl, 1) := by decide +kernel
theorem dX3_whoCanCome_51 : decode cX3_whoCanCome 51 = .ok (.ior, 1) := by decide +kernel
theorem dX3_whoCanCome_52 : decode cX3_whoCanCome 52 = .ok (.istore_n 1, 1) := by decide +kernel
theorem dX3_whoCanCome_53 : decode cX3_whoCanCome 53 = .ok (.iinc 2 1, 3) := by decide +kernel
theorem dX3_whoCanCome_56 : decode cX3_whoCanCome 56 = .ok (.goto (-52), 3) := by decide +kernel
theorem dX3_whoCanCome_59 : decode cX3_whoCanCome 59 = .ok (.iload_n 1, 1) := by decide +kernel
theorem dX3_whoCanCome_60 : decode cX3_whoCanCome 60 = .ok (.ireturn, 1) := by decide +kernel
theorem dX3_hasStub_0 : decode cX3_hasStub 0 = .ok (.iconst 0, 1) := by decide +kernel
theorem dX3_hasStub_1 : decode cX3_hasStub 1 = .ok (.istore_n 3, 1) := by decide +kernel
theorem dX3_hasStub_2 : decode cX3_hasStub 2 = .ok (.iload_n 3, 1) := by decide +kernel
theorem dX3_hasStub_3 : decode cX3_hasStub 3 = .ok (.aload_n 0, 1) := by decide +kernel
theorem dX3_hasStub_4 : decode cX3_hasStub 4 = .ok (.getfield 36, 3) := by decide +kernel
theorem dX3_hasStub_7 : decode cX3_hasStub 7 = .ok (.if_icmp .ge 29, 3) := by decide +kernel
theorem dX3_hasStub_10 : decode cX3_hasStub 10 = .ok (.iload_n 1, 1) := by decide +kernel
theorem dX3_hasStub_11 : decode cX3_hasStub 11 = .ok (.iload_n 3, 1) := by decide +kernel
theorem dX3_hasStub_12 : decode cX3_hasStub 12 = .ok (.invokestatic 55, 3) := by decide +kernel
theorem dX3_hasStub_15 : decode cX3_hasStub 15 = .ok (.ifCond .eq 15, 3) := by decide +kernel
theorem dX3_hasStub_18 : decode cX3_hasStub 18 = .ok (.aload_n 0, 1) := by decide +kernel
theorem dX3_hasStub_19 : decode cX3_hasStub 19 = .ok (.getfield 45, 3) := by decide +kernel
theorem dX3_hasStub_22 : decode cX3_hasStub 22 = .ok (.iload_n 3, 1) := by decide +kernel
theorem dX3_hasStub_23 : decode cX3_hasStub 23 = .ok (.iaload, 1) := by decide +kernel
theorem dX3_hasStub_24 : decode cX3_hasStub 24 = .ok (.iload_n 2, 1) := by decide +kernel
theorem dX3_hasStub_25 : decode cX3_hasStub 25 = .ok (.if_icmp .ne 5, 3) := by decide +kernel
theorem dX3_hasStub_28 : decode cX3_hasStub 28 = .ok (.iconst 1, 1) := by decide +kernel
theorem dX3_hasStub_29 : decode cX3_hasStub 29 = .ok (.ireturn, 1) := by decide +kernel
theorem dX3_hasStub_30 : decode cX3_hasStub 30 = .ok (.iinc 3 1, 3) := by decide +kernel
theorem dX3_hasStub_33 : decode cX3_hasStub 33 = .ok (.goto (-31), 3) := by decide +kernel
theorem dX3_hasStub_36 : decode cX3_hasStub 36 = .ok (.iconst 0, 1) := by decide +kernel
theorem dX3_hasStub_37 : decode cX3_hasStub 37 = .ok (.ireturn, 1) := by decide +kernel
theorem dX3_leastBehind_0 : decode cX3_leastBehind 0 = .ok (.iload_n 2, 1) := by decide +kernel
theorem dX3_leastBehind_1 : decode cX3_leastBehind 1 = .ok (.aload_n 0, 1) := by decide +kernel
theorem dX3_leastBehind_2 : decode cX3_leastBehind 2 = .ok (.getfield 19, 3) := by decide +kernel
theorem dX3_leastBehind_5 : decode cX3_leastBehind 5 = .ok (.if_icmp .ne 7, 3) := by decide +kernel
theorem dX3_leastBehind_8 : decode cX3_leastBehind 8 = .ok (.iconst 0, 1) := by decide +kernel
theorem dX3_leastBehind_9 : decode cX3_leastBehind 9 = .ok (.goto 5, 3) := by decide +kernel
theorem dX3_leastBehind_12 : decode cX3_leastBehind 12 = .ok (.ldc 59, 2) := by decide +kernel
theorem dX3_leastBehind_14 : decode cX3_leastBehind 14 = .ok (.istore_n 3, 1) := by decide +kernel
theorem dX3_leastBehind_15 : decode cX3_leastBehind 15 = .ok (.iconst 0, 1) := by decide +kernel
theorem dX3_leastBehind_16 : decode cX3_leastBehind 16 = .ok (.istore 4, 2) := by decide +kernel
theorem dX3_leastBehind_18 : decode cX3_leastBehind 18 = .ok (.iload 4, 2) := by decide +kernel
theorem dX3_leastBehind_20 : decode cX3_leastBehind 20 = .ok (.aload_n 1, 1) := by decide +kernel
theorem dX3_leastBehind_21 : decode cX3_leastBehind 21 = .ok (.getfield 36, 3) := by decide +kernel
theorem dX3_leastBehind_24 : decode cX3_leastBehind 24 = .ok (.if_icmp .ge 38, 3) := by decide +kernel
theorem dX3_leastBehind_27 : decode cX3_leastBehind 27 = .ok (.aload_n 0, 1) := by decide +kernel
theorem dX3_leastBehind_28 : decode cX3_leastBehind 28 = .ok (.getfield 19, 3) := by decide +kernel
theorem dX3_leastBehind_31 : decode cX3_leastBehind 31 = .ok (.iload_n 2, 1) := by decide +kernel
theorem dX3_leastBehind_32 : decode cX3_leastBehind 32 = .ok (.iconst (-1), 1) := by decide +kernel
theorem dX3_leastBehind_33 : decode cX3_leastBehind 33 = .ok (.ixor, 1) := by decide +kernel
theorem dX3_leastBehind_34 : decode cX3_leastBehind 34 = .ok (.iand, 1) := by decide +kernel
theorem dX3_leastBehind_35 : decode cX3_leastBehind 35 = .ok (.iload 4, 2) := by decide +kernel
theorem dX3_leastBehind_37 : decode cX3_leastBehind 37 = .ok (.invokestatic 55, 3) := by decide +kernel
theorem dX3_leastBehind_40 : decode cX3_leastBehind 40 = .ok (.ifCond .eq 16, 3) := by decide +kernel
theorem dX3_leastBehind_43 : decode cX3_leastBehind 43 = .ok (.iload_n 3, 1) := by decide +kernel
theorem dX3_leastBehind_44 : decode cX3_leastBehind 44 = .ok (.aload_n 0, 1) := by decide +kernel
theorem dX3_leastBehind_45 : decode cX3_leastBehind 45 = .ok (.aload_n 1, 1) := by decide +kernel
theorem dX3_leastBehind_46 : decode cX3_leastBehind 46 = .ok (.iload_n 2, 1) := by decide +kernel
theorem dX3_leastBehind_47 : decode cX3_leastBehind 47 = .ok (.iload 4, 2) := by decide +kernel
theorem dX3_leastBehind_49 : decode cX3_leastBehind 49 = .ok (.invokevirtual 60, 3) := by decide +kernel
theorem dX3_leastBehind_52 : decode cX3_leastBehind 52 = .ok (.invokestatic 64, 3) := by decide +kernel
theorem dX3_leastBehind_55 : decode cX3_leastBehind 55 = .ok (.istore_n 3, 1) := by decide +kernel
theorem dX3_leastBehind_56 : decode cX3_leastBehind 56 = .ok (.iinc 4 1, 3) := by decide +kernel
theorem dX3_leastBehind_59 : decode cX3_leastBehind 59 = .ok (.goto (-41), 3) := by decide +kernel
theorem dX3_leastBehind_62 : decode cX3_leastBehind 62 = .ok (.iload_n 3, 1) := by decide +kernel
theorem dX3_leastBehind_63 : decode cX3_leastBehind 63 = .ok (.ireturn, 1) := by decide +kernel
theorem dX3_nextOf_0 : decode cX3_nextOf 0 = .ok (.iconst 0, 1) := by decide +kernel
theorem dX3_nextOf_1 : decode cX3_nextOf 1 = .ok (.istore_n 3, 1) := by decide +kernel
theorem dX3_nextOf_2 : decode cX3_nextOf 2 = .ok (.iload_n 3, 1) := by decide +kernel
theorem dX3_nextOf_3 : decode cX3_nextOf 3 = .ok (.aload_n 1, 1) := by decide +kernel
theorem dX3_nextOf_4 : decode cX3_nextOf 4 = .ok (.getfield 36, 3) := by decide +kernel
theorem dX3_nextOf_7 : decode cX3_nextOf 7 = .ok (.if_icmp .ge 42, 3) := by decide +kernel
theorem dX3_nextOf_10 : decode cX3_nextOf 10 = .ok (.aload_n 0, 1) := by decide +kernel
theorem dX3_nextOf_11 : decode cX3_nextOf 11 = .ok (.getfield 19, 3) := by decide +kernel
theorem dX3_nextOf_14 : decode cX3_nextOf 14 = .ok (.iload_n 2, 1) := by decide +kernel
theorem dX3_nextOf_15 : decode cX3_nextOf 15 = .ok (.iconst (-1), 1) := by decide +kernel
theorem dX3_nextOf_16 : decode cX3_nextOf 16 = .ok (.ixor, 1) := by decide +kernel
theorem dX3_nextOf_17 : decode cX3_nextOf 17 = .ok (.iand, 1) := by decide +kernel
theorem dX3_nextOf_18 : decode cX3_nextOf 18 = .ok (.iload_n 3, 1) := by decide +kernel
theorem dX3_nextOf_19 : decode cX3_nextOf 19 = .ok (.invokestatic 55, 3) := by decide +kernel
theorem dX3_nextOf_22 : decode cX3_nextOf 22 = .ok (.ifCond .eq 21, 3) := by decide +kernel
theorem dX3_nextOf_25 : decode cX3_nextOf 25 = .ok (.aload_n 0, 1) := by decide +kernel
theorem dX3_nextOf_26 : decode cX3_nextOf 26 = .ok (.aload_n 1, 1) := by decide +kernel
theorem dX3_nextOf_27 : decode cX3_nextOf 27 = .ok (.iload_n 2, 1) := by decide +kernel
theorem dX3_nextOf_28 : decode cX3_nextOf 28 = .ok (.iload_n 3, 1) := by decide +kernel
theorem dX3_nextOf_29 : decode cX3_nextOf 29 = .ok (.invokevirtual 60, 3) := by decide +kernel
theorem dX3_nextOf_32 : decode cX3_nextOf 32 = .ok (.aload_n 0, 1) := by decide +kernel
theorem dX3_nextOf_33 : decode cX3_nextOf 33 = .ok (.getfield 11, 3) := by decide +kernel
theorem dX3_nextOf_36 : decode cX3_nextOf 36 = .ok (.iload_n 2, 1) := by decide +kernel
theorem dX3_nextOf_37 : decode cX3_nextOf 37 = .ok (.iaload, 1) := by decide +kernel
theorem dX3_nextOf_38 : decode cX3_nextOf 38 = .ok (.if_icmp .ne 5, 3) := by decide +kernel
theorem dX3_nextOf_41 : decode cX3_nextOf 41 = .ok (.iload_n 3, 1) := by decide +kernel
theorem dX3_nextOf_42 : decode cX3_nextOf 42 = .ok (.ireturn, 1) := by decide +kernel
theorem dX3_nextOf_43 : decode cX3_nextOf 43 = .ok (.iinc 3 1, 3) := by decide +kernel
theorem dX3_nextOf_46 : decode cX3_nextOf 46 = .ok (.goto (-44), 3) := by decide +kernel
theorem dX3_nextOf_49 : decode cX3_nextOf 49 = .ok (.iconst (-1), 1) := by decide +kernel
theorem dX3_nextOf_50 : decode cX3_nextOf 50 = .ok (.ireturn, 1) := by decide +kernel
theorem dX3_fussByWay_0 : decode cX3_fussByWay 0 = .ok (.aload_n 1, 1) := by decide +kernel
theorem dX3_fussByWay_1 : decode cX3_fussByWay 1 = .ok (.aload_n 1, 1) := by decide +kernel
theorem dX3_fussByWay_2 : decode cX3_fussByWay 2 = .ok (.getfield 45, 3) := by decide +kernel
theorem dX3_fussByWay_5 : decode cX3_fussByWay 5 = .ok (.iload_n 3, 1) := by decide +kernel
theorem dX3_fussByWay_6 : decode cX3_fussByWay 6 = .ok (.iaload, 1) := by decide +kernel
theorem dX3_fussByWay_7 : decode cX3_fussByWay 7 = .ok (.invokevirtual 70, 3) := by decide +kernel
theorem dX3_fussByWay_10 : decode cX3_fussByWay 10 = .ok (.aload_n 1, 1) := by decide +kernel
theorem dX3_fussByWay_11 : decode cX3_fussByWay 11 = .ok (.iload_n 2, 1) := by decide +kernel
theorem dX3_fussByWay_12 : decode cX3_fussByWay 12 = .ok (.aload_n 1, 1) := by decide +kernel
theorem dX3_fussByWay_13 : decode cX3_fussByWay 13 = .ok (.getfield 45, 3) := by decide +kernel
theorem dX3_fussByWay_16 : decode cX3_fussByWay 16 = .ok (.iload_n 3, 1) := by decide +kernel
theorem dX3_fussByWay_17 : decode cX3_fussByWay 17 = .ok (.iaload, 1) := by decide +kernel
theorem dX3_fussByWay_18 : decode cX3_fussByWay 18 = .ok (.invokestatic 73, 3) := by decide +kernel
theorem dX3_fussByWay_21 : decode cX3_fussByWay 21 = .ok (.iadd, 1) := by decide +kernel
theorem dX3_fussByWay_22 : decode cX3_fussByWay 22 = .ok (.istore 4, 2) := by decide +kernel
theorem dX3_fussByWay_24 : decode cX3_fussByWay 24 = .ok (.aload_n 1, 1) := by decide +kernel
theorem dX3_fussByWay_25 : decode cX3_fussByWay 25 = .ok (.getfield 76, 3) := by decide +kernel
theorem dX3_fussByWay_28 : decode cX3_fussByWay 28 = .ok (.iload_n 3, 1) := by decide +kernel
theorem dX3_fussByWay_29 : decode cX3_fussByWay 29 = .ok (.iaload, 1) := by decide +kernel
theorem dX3_fussByWay_30 : decode cX3_fussByWay 30 = .ok (.iload 4, 2) := by decide +kernel
theorem dX3_fussByWay_32 : decode cX3_fussByWay 32 = .ok (.aload_n 1, 1) := by decide +kernel
theorem dX3_fussByWay_33 : decode cX3_fussByWay 33 = .ok (.getfield 79, 3) := by decide +kernel
theorem dX3_fussByWay_36 : decode cX3_fussByWay 36 = .ok (.iload_n 2, 1) := by decide +kernel
theorem dX3_fussByWay_37 : decode cX3_fussByWay 37 = .ok (.invokestatic 27, 3) := by decide +kernel
theorem dX3_fussByWay_40 : decode cX3_fussByWay 40 = .ok (.iadd, 1) := by decide +kernel
theorem dX3_fussByWay_41 : decode cX3_fussByWay 41 = .ok (.invokestatic 82, 3) := by decide +kernel
theorem dX3_fussByWay_44 : decode cX3_fussByWay 44 = .ok (.istore 5, 2) := by decide +kernel
theorem dX3_fussByWay_46 : decode cX3_fussByWay 46 = .ok (.iload 5, 2) := by decide +kernel
theorem dX3_fussByWay_48 : decode cX3_fussByWay 48 = .ok (.aload_n 0, 1) := by decide +kernel
theorem dX3_fussByWay_49 : decode cX3_fussByWay 49 = .ok (.getfield 11, 3) := by decide +kernel
theorem dX3_fussByWay_52 : decode cX3_fussByWay 52 = .ok (.iload_n 2, 1) := by decide +kernel
theorem dX3_fussByWay_53 : decode cX3_fussByWay 53 = .ok (.iconst 1, 1) := by decide +kernel
theorem dX3_fussByWay_54 : decode cX3_fussByWay 54 = .ok (.iload_n 3, 1) := by decide +kernel
theorem dX3_fussByWay_55 : decode cX3_fussByWay 55 = .ok (.ishl, 1) := by decide +kernel
theorem dX3_fussByWay_56 : decode cX3_fussByWay 56 = .ok (.ior, 1) := by decide +kernel
theorem dX3_fussByWay_57 : decode cX3_fussByWay 57 = .ok (.iaload, 1) := by decide +kernel
theorem dX3_fussByWay_58 : decode cX3_fussByWay 58 = .ok (.iadd, 1) := by decide +kernel
theorem dX3_fussByWay_59 : decode cX3_fussByWay 59 = .ok (.ireturn, 1) := by decide +kernel
theorem dX3_kneesOf_0 : decode cX3_kneesOf 0 = .ok (.iload_n 2, 1) := by decide +kernel
theorem dX3_kneesOf_1 : decode cX3_kneesOf 1 = .ok (.iload_n 2, 1) := by decide +kernel
theorem dX3_kneesOf_2 : decode cX3_kneesOf 2 = .ok (.bipush 6, 2) := by decide +kernel
theorem dX3_kneesOf_4 : decode cX3_kneesOf 4 = .ok (.irem, 1) := by decide +kernel
theorem dX3_kneesOf_5 : decode cX3_kneesOf 5 = .ok (.isub, 1) := by decide +kernel
theorem dX3_kneesOf_6 : decode cX3_kneesOf 6 = .ok (.istore_n 3, 1) := by decide +kernel
theorem dX3_kneesOf_7 : decode cX3_kneesOf 7 = .ok (.iconst 0, 1) := by decide +kernel
theorem dX3_kneesOf_8 : decode cX3_kneesOf 8 = .ok (.istore 4, 2) := by decide +kernel
theorem dX3_kneesOf_10 : decode cX3_kneesOf 10 = .ok (.iconst 0, 1) := by decide +kernel
theorem dX3_kneesOf_11 : decode cX3_kneesOf 11 = .ok (.istore 5, 2) := by decide +kernel
theorem dX3_kneesOf_13 : decode cX3_kneesOf 13 = .ok (.iload 5, 2) := by decide +kernel
theorem dX3_kneesOf_15 : decode cX3_kneesOf 15 = .ok (.aload_n 0, 1) := by decide +kernel
theorem dX3_kneesOf_16 : decode cX3_kneesOf 16 = .ok (.getfield 36, 3) := by decide +kernel
theorem dX3_kneesOf_19 : decode cX3_kneesOf 19 = .ok (.if_icmp .ge 43, 3) := by decide +kernel
theorem dX3_kneesOf_22 : decode cX3_kneesOf 22 = .ok (.iload_n 1, 1) := by decide +kernel
theorem dX3_kneesOf_23 : decode cX3_kneesOf 23 = .ok (.iload 5, 2) := by decide +kernel
theorem dX3_kneesOf_25 : decode cX3_kneesOf 25 = .ok (.invokestatic 55, 3) := by decide +kernel
theorem dX3_kneesOf_28 : decode cX3_kneesOf 28 = .ok (.ifCond .eq 28, 3) := by decide +kernel
theorem dX3_kneesOf_31 : decode cX3_kneesOf 31 = .ok (.aload_n 0, 1) := by decide +kernel
theorem dX3_kneesOf_32 : decode cX3_kneesOf 32 = .ok (.getfield 45, 3) := by decide +kernel
theorem dX3_kneesOf_35 : decode cX3_kneesOf 35 = .ok (.iload 5, 2) := by decide +kernel
theorem dX3_kneesOf_37 : decode cX3_kneesOf 37 = .ok (.iaload, 1) := by decide +kernel
theorem dX3_kneesOf_38 : decode cX3_kneesOf 38 = .ok (.iload_n 3, 1) := by decide +kernel
theorem dX3_kneesOf_39 : decode cX3_kneesOf 39 = .ok (.if_icmp .lt 17, 3) := by decide +kernel
theorem dX3_kneesOf_42 : decode cX3_kneesOf 42 = .ok (.aload_n 0, 1) := by decide +kernel
theorem dX3_kneesOf_43 : decode cX3_kneesOf 43 = .ok (.getfield 45, 3) := by decide +kernel
theorem dX3_kneesOf_46 : decode cX3_kneesOf 46 = .ok (.iload 5, 2) := by decide +kernel
theorem dX3_kneesOf_48 : decode cX3_kneesOf 48 = .ok (.iaload, 1) := by decide +kernel
theorem dX3_kneesOf_49 : decode cX3_kneesOf 49 = .ok (.iload_n 2, 1) := by decide +kernel
theorem dX3_kneesOf_50 : decode cX3_kneesOf 50 = .ok (.if_icmp .ge 6, 3) := by decide +kernel
theorem dX3_kneesOf_53 : decode cX3_kneesOf 53 = .ok (.iinc 4 1, 3) := by decide +kernel
theorem dX3_kneesOf_56 : decode cX3_kneesOf 56 = .ok (.iinc 5 1, 3) := by decide +kernel
theorem dX3_kneesOf_59 : decode cX3_kneesOf 59 = .ok (.goto (-46), 3) := by decide +kernel
theorem dX3_kneesOf_62 : decode cX3_kneesOf 62 = .ok (.iload 4, 2) := by decide +kernel
theorem dX3_kneesOf_64 : decode cX3_kneesOf 64 = .ok (.ireturn, 1) := by decide +kernel
end
section
theorem dX4_init_0 : decode cX4_init 0 = .ok (.aload_n 0, 1) := by decide +kernel
theorem dX4_init_1 : decode cX4_init 1 = .ok (.invokespecial 3, 3) := by decide +kernel
theorem dX4_init_4 : decode cX4_init 4 = .ok (.aload_n 0, 1) := by decide +kernel
theorem dX4_init_5 : decode cX4_init 5 = .ok (.iconst 0, 1) := by decide +kernel
theorem dX4_init_6 : decode cX4_init 6 = .ok (.iload_n 1, 1) := by decide +kernel
theorem dX4_init_7 : decode cX4_init 7 = .ok (.invokestatic 9, 3) := by decide +kernel
theorem dX4_init_10 : decode cX4_init 10 = .ok (.putfield 15, 3) := by decide +kernel
theorem dX4_init_13 : decode cX4_init 13 = .ok (.aload_n 0, 1) := by decide +kernel
theorem dX4_init_14 : decode cX4_init 14 = .ok (.iconst 0, 1) := by decide +kernel
theorem dX4_init_15 : decode cX4_init 15 = .ok (.iload_n 2, 1) := by decide +kernel
theorem dX4_init_16 : decode cX4_init 16 = .ok (.invokestatic 9, 3) := by decide +kernel
theorem dX4_init_19 : decode cX4_init 19 = .ok (.putfield 21, 3) := by decide +kernel
theorem dX4_init_22 : decode cX4_init 22 = .ok (.aload_n 0, 1) := by decide +kernel
theorem dX4_init_23 : decode cX4_init 23 = .ok (.aload_n 0, 1) := by decide +kernel
theorem dX4_init_24 : decode cX4_init 24 = .ok (.getfield 15, 3) := by decide +kernel
theorem dX4_init_27 : decode cX4_init 27 = .ok (.aload_n 0, 1) := by decide +kernel
theorem dX4_init_28 : decode cX4_init 28 = .ok (.getfield 21, 3) := by decide +kernel
theorem dX4_init_31 : decode cX4_init 31 = .ok (.imul, 1) := by decide +kernel
theorem dX4_init_32 : decode cX4_init 32 = .ok (.newarray .int, 2) := by decide +kernel
theorem dX4_init_34 : decode cX4_init 34 = .ok (.putfield 24, 3) := by decide +kernel
theorem dX4_init_37 : decode cX4_init 37 = .ok (.return_, 1) := by decide +kernel
theorem dX4_isFull_0 : decode cX4_isFull 0 = .ok (.aload_n 0, 1) := by decide +kernel
theorem dX4_isFull_1 : decode cX4_isFull 1 = .ok (.getfield 28, 3) := by decide +kernel
theorem dX4_isFull_4 : decode cX4_isFull 4 = .ok (.aload_n 0, 1) := by decide +kernel
theorem dX4_isFull_5 : decode cX4_isFull 5 = .ok (.getfield 15, 3) := by decide +kernel
theorem dX4_isFull_8 : decode cX4_isFull 8 = .ok (.if_icmp .lt 7, 3) := by decide +kernel
theorem dX4_isFull_11 : decode cX4_isFull 11 = .ok (.iconst 1, 1) := by decide +kernel
theorem dX4_isFull_12 : decode cX4_isFull 12 = .ok (.goto 4, 3) := by decide +kernel
theorem dX4_isFull_15 : decode cX4_isFull 15 = .ok (.iconst 0, 1) := by decide +kernel
theorem dX4_isFull_16 : decode cX4_isFull 16 = .ok (.ireturn, 1) := by decide +kernel
theorem dX4_empty_0 : decode cX4_empty 0 = .ok (.aload_n 0, 1) := by decide +kernel
theorem dX4_empty_1 : decode cX4_empty 1 = .ok (.getfield 28, 3) := by decide +kernel
theorem dX4_empty_4 : decode cX4_empty 4 = .ok (.istore_n 1, 1) := by decide +kernel
theorem dX4_empty_5 : decode cX4_empty 5 = .ok (.aload_n 0, 1) := by decide +kernel
theorem dX4_empty_6 : decode cX4_empty 6 = .ok (.iconst 0, 1) := by decide +kernel
theorem dX4_empty_7 : decode cX4_empty 7 = .ok (.putfield 28, 3) := by decide +kernel
theorem dX4_empty_10 : decode cX4_empty 10 = .ok (.iload_n 1, 1) := by decide +kernel
theorem dX4_empty_11 : decode cX4_empty 11 = .ok (.ireturn, 1) := by decide +kernel
theorem dX4_add_0 : decode cX4_add 0 = .ok (.aload_n 0, 1) := by decide +kernel
theorem dX4_add_1 : decode cX4_add 1 = .ok (.invokevirtual 31, 3) := by decide +kernel
theorem dX4_add_4 : decode cX4_add 4 = .ok (.aload_n 0, 1) := by decide +kernel
theorem dX4_add_5 : decode cX4_add 5 = .ok (.iconst 0, 1) := by decide +kernel
theorem dX4_add_6 : decode cX4_add 6 = .ok (.iload_n 1, 1) := by decide +kernel
theorem dX4_add_7 : decode cX4_add 7 = .ok (.invokevirtual 34, 3) := by decide +kernel
theorem dX4_add_10 : decode cX4_add 10 = .ok (.aload_n 0, 1) := by decide +kernel
theorem dX4_add_11 : decode cX4_add 11 = .ok (.iconst 1, 1) := by decide +kernel
theorem dX4_add_12 : decode cX4_add 12 = .ok (.iload_n 2, 1) := by decide +kernel
theorem dX4_add_13 : decode cX4_add 13 = .ok (.invokevirtual 34, 3) := by decide +kernel
theorem dX4_add_16 : decode cX4_add 16 = .ok (.aload_n 0, 1) := by decide +kernel
theorem dX4_add_17 : decode cX4_add 17 = .ok (.iconst 2, 1) := by decide +kernel
theorem dX4_add_18 : decode cX4_add 18 = .ok (.iload_n 3, 1) := by decide +kernel
theorem dX4_add_19 : decode cX4_add 19 = .ok (.invokevirtual 34, 3) := by decide +kernel
theorem dX4_add_22 : decode cX4_add 22 = .ok (.aload_n 0, 1) := by decide +kernel
theorem dX4_add_23 : decode cX4_add 23 = .ok (.getfield 28, 3) := by decide +kernel
theorem dX4_add_26 : decode cX4_add 26 = .ok (.ireturn, 1) := by decide +kernel
theorem dX4_add__0 : decode cX4_add_ 0 = .ok (.aload_n 0, 1) := by decide +kernel
theorem dX4_add__1 : decode cX4_add_ 1 = .ok (.iload_n 1, 1) := by decide +kernel
theorem dX4_add__2 : decode cX4_add_ 2 = .ok (.iload_n 2, 1) := by decide +kernel
theorem dX4_add__3 : decode cX4_add_ 3 = .ok (.iload_n 3, 1) := by decide +kernel
theorem dX4_add__4 : decode cX4_add_ 4 = .ok (.invokevirtual 38, 3) := by decide +kernel
theorem dX4_add__7 : decode cX4_add_ 7 = .ok (.pop, 1) := by decide +kernel
theorem dX4_add__8 : decode cX4_add_ 8 = .ok (.aload_n 0, 1) := by decide +kernel
theorem dX4_add__9 : decode cX4_add_ 9 = .ok (.iconst 3, 1) := by decide +kernel
theorem dX4_add__10 : decode cX4_add_ 10 = .ok (.iload 4, 2) := by decide +kernel
theorem dX4_add__12 : decode cX4_add_ 12 = .ok (.invokevirtual 34, 3) := by decide +kernel
theorem dX4_add__15 : decode cX4_add_ 15 = .ok (.aload_n 0, 1) := by decide +kernel
theorem dX4_add__16 : decode cX4_add_ 16 = .ok (.getfield 28, 3) := by decide +kernel
theorem dX4_add__19 : decode cX4_add_ 19 = .ok (.ireturn, 1) := by decide +kernel
theorem dX4_openRow_0 : decode cX4_openRow 0 = .ok (.aload_n 0, 1) := by decide +kernel
theorem dX4_openRow_1 : decode cX4_openRow 1 = .ok (.getfield 28, 3) := by decide +kernel
theorem dX4_openRow_4 : decode cX4_openRow 4 = .ok (.aload_n 0, 1) := by decide +kernel
theorem dX4_openRow_5 : decode cX4_openRow 5 = .ok (.getfield 15, 3) := by decide +kernel
theorem dX4_openRow_8 : decode cX4_openRow 8 = .ok (.if_icmp .ge 13, 3) := by decide +kernel
theorem dX4_openRow_11 : decode cX4_openRow 11 = .ok (.aload_n 0, 1) := by decide +kernel
theorem dX4_openRow_12 : decode cX4_openRow 12 = .ok (.dup, 1) := by decide +kernel
theorem dX4_openRow_13 : decode cX4_openRow 13 = .ok (.getfield 28, 3) := by decide +kernel
theorem dX4_openRow_16 : decode cX4_openRow 16 = .ok (.iconst 1, 1) := by decide +kernel
theorem dX4_openRow_17 : decode cX4_openRow 17 = .ok (.iadd, 1) := by decide +kernel
theorem dX4_openRow_18 : decode cX4_openRow 18 = .ok (.putfield 28, 3) := by decide +kernel
theorem dX4_openRow_21 : decode cX4_openRow 21 = .ok (.return_, 1) := by decide +kernel
theorem dX4_dropFirst_0 : decode cX4_dropFirst 0 = .ok (.aload_n 0, 1) := by decide +kernel
theorem dX4_dropFirst_1 : decode cX4_dropFirst 1 = .ok (.getfield 28, 3) := by decide +kernel
theorem dX4_dropFirst_4 : decode cX4_dropFirst 4 = .ok (.ifCond .le 38, 3) := by decide +kernel
theorem dX4_dropFirst_7 : decode cX4_dropFirst 7 = .ok (.aload_n 0, 1) := by decide +kernel
theorem dX4_dropFirst_8 : decode cX4_dropFirst 8 = .ok (.dup, 1) := by decide +kernel
theorem dX4_dropFirst_9 : decode cX4_dropFirst 9 = .ok (.getfield 28, 3) := by decide +kernel
theorem dX4_dropFirst_12 : decode cX4_dropFirst 12 = .ok (.iconst 1, 1) := by decide +kernel
theorem dX4_dropFirst_13 : decode cX4_dropFirst 13 = .ok (.isub, 1) := by decide +kernel
theorem dX4_dropFirst_14 : decode cX4_dropFirst 14 = .ok (.putfield 28, 3) := by decide +kernel
theorem dX4_dropFirst_17 : decode cX4_dropFirst 17 = .ok (.aload_n 0, 1) := by decide +kernel
theorem dX4_dropFirst_18 : decode cX4_dropFirst 18 = .ok (.getfield 24, 3) := by decide +kernel
theorem dX4_dropFirst_21 : decode cX4_dropFirst 21 = .ok (.aload_n 0, 1) := by decide +kernel
theorem dX4_dropFirst_22 : decode cX4_dropFirst 22 = .ok (.getfield 21, 3) := by decide +kernel
theorem dX4_dropFirst_25 : decode cX4_dropFirst 25 = .ok (.aload_n 0, 1) := by decide +kernel
theorem dX4_dropFirst_26 : decode cX4_dropFirst 26 = .ok (.getfield 24, 3) := by decide +kernel
theorem dX4_dropFirst_29 : decode cX4_dropFirst 29 = .ok (.iconst 0, 1) := by decide +kernel
theorem dX4_dropFirst_30 : decode cX4_dropFirst 30 = .ok (.aload_n 0, 1) := by decide +kernel
theorem dX4_dropFirst_31 : decode cX4_dropFirst 31 = .ok (.getfield 28, 3) := by decide +kernel
theorem dX4_dropFirst_34 : decode cX4_dropFirst 34 = .ok (.aload_n 0, 1) := by decide +kernel
theorem dX4_dropFirst_35 : decode cX4_dropFirst 35 = .ok (.getfield 21, 3) := by decide +kernel
theorem dX4_dropFirst_38 : decode cX4_dropFirst 38 = .ok (.imul, 1) := by decide +kernel
theorem dX4_dropFirst_39 : decode cX4_dropFirst 39 = .ok (.invokestatic 42, 3) := by decide +kernel
theorem dX4_dropFirst_42 : decode cX4_dropFirst 42 = .ok (.return_, 1) := by decide +kernel
theorem dX4_dropLast_0 : decode cX4_dropLast 0 = .ok (.aload_n 0, 1) := by decide +kernel
theorem dX4_dropLast_1 : decode cX4_dropLast 1 = .ok (.getfield 28, 3) := by decide +kernel
theorem dX4_dropLast_4 : decode cX4_dropLast 4 = .ok (.ifCond .le 13, 3) := by decide +kernel
theorem dX4_dropLast_7 : decode cX4_dropLast 7 = .ok (.aload_n 0, 1) := by decide +kernel
theorem dX4_dropLast_8 : decode cX4_dropLast 8 = .ok (.dup, 1) := by decide +kernel
theorem dX4_dropLast_9 : decode cX4_dropLast 9 = .ok (.getfield 28, 3) := by decide +kernel
theorem dX4_dropLast_12 : decode cX4_dropLast 12 = .ok (.iconst 1, 1) := by decide +kernel
theorem dX4_dropLast_13 : decode cX4_dropLast 13 = .ok (.isub, 1) := by decide +kernel
theorem dX4_dropLast_14 : decode cX4_dropLast 14 = .ok (.putfield 28, 3) := by decide +kernel
theorem dX4_dropLast_17 : decode cX4_dropLast 17 = .ok (.return_, 1) := by decide +kernel
theorem dX4_put_0 : decode cX4_put 0 = .ok (.aload_n 0, 1) := by decide +kernel
theorem dX4_put_1 : decode cX4_put 1 = .ok (.getfield 28, 3) := by decide +kernel
theorem dX4_put_4 : decode cX4_put 4 = .ok (.ifCond .le 33, 3) := by decide +kernel
theorem dX4_put_7 : decode cX4_put 7 = .ok (.iload_n 1, 1) := by decide +kernel
theorem dX4_put_8 : decode cX4_put 8 = .ok (.aload_n 0, 1) := by decide +kernel
theorem dX4_put_9 : decode cX4_put 9 = .ok (.getfield 21, 3) := by decide +kernel
theorem dX4_put_12 : decode cX4_put 12 = .ok (.invokestatic 48, 3) := by decide +kernel
theorem dX4_put_15 : decode cX4_put 15 = .ok (.ifCond .eq 22, 3) := by decide +kernel
theorem dX4_put_18 : decode cX4_put 18 = .ok (.aload_n 0, 1) := by decide +kernel
theorem dX4_put_19 : decode cX4_put 19 = .ok (.getfield 24, 3) := by decide +kernel
theorem dX4_put_22 : decode cX4_put 22 = .ok (.aload_n 0, 1) := by decide +kernel
theorem dX4_put_23 : decode cX4_put 23 = .ok (.getfield 28, 3) := by decide +kernel
theorem dX4_put_26 : decode cX4_put 26 = .ok (.iconst 1, 1) := by decide +kernel
theorem dX4_put_27 : decode cX4_put 27 = .ok (.isub, 1) := by decide +kernel
theorem dX4_put_28 : decode cX4_put 28 = .ok (.aload_n 0, 1) := by decide +kernel
theorem dX4_put_29 : decode cX4_put 29 = .ok (.getfield 21, 3) := by decide +kernel
theorem dX4_put_32 : decode cX4_put 32 = .ok (.imul, 1) := by decide +kernel
theorem dX4_put_33 : decode cX4_put 33 = .ok (.iload_n 1, 1) := by decide +kernel
theorem dX4_put_34 : decode cX4_put 34 = .ok (.iadd, 1) := by decide +kernel
theorem dX4_put_35 : decode cX4_put 35 = .ok (.iload_n 2, 1) := by decide +kernel
theorem dX4_put_36 : decode cX4_put 36 = .ok (.iastore, 1) := by decide +kernel
theorem dX4_put_37 : decode cX4_put 37 = .ok (.return_, 1) := by decide +kernel
theorem dX4_at_0 : decode cX4_at 0 = .ok (.iload_n 1, 1) := by decide +kernel
theorem dX4_at_1 : decode cX4_at 1 = .ok (.aload_n 0, 1) := by decide +kernel
theorem dX4_at_2 : decode cX4_at 2 = .ok (.getfield 28, 3) := by decide +kernel
theorem dX4_at_5 : decode cX4_at 5 = .ok (.invokestatic 48, 3) := by decide +kernel
theorem dX4_at_8 : decode cX4_at 8 = .ok (.ifCond .eq 30, 3) := by decide +kernel
theorem dX4_at_11 : decode cX4_at 11 = .ok (.iload_n 2, 1) := by decide +kernel
theorem dX4_at_12 : decode cX4_at 12 = .ok (.aload_n 0, 1) := by decide +kernel
theorem dX4_at_13 : decode cX4_at 13 = .ok (.getfield 21, 3) := by decide +kernel
theorem dX4_at_16 : decode cX4_at 16 = .ok (.invokestatic 48, 3) := by decide +kernel
theorem dX4_at_19 : decode cX4_at 19 = .ok (.ifCond .eq 19, 3) := by decide +kernel
theorem dX4_at_22 : decode cX4_at 22 = .ok (.aload_n 0, 1) := by decide +kernel
theorem dX4_at_23 : decode cX4_at 23 = .ok (.getfield 24, 3) := by decide +kernel
theorem dX4_at_26 : decode cX4_at 26 = .ok (.iload_n 1, 1) := by decide +kernel
theorem dX4_at_27 : decode cX4_at 27 = .ok (.aload_n 0, 1) := by decide +kernel
theorem dX4_at_28 : decode cX4_at 28 = .ok (.getfield 21, 3) := by decide +kernel
theorem dX4_at_31 : decode cX4_at 31 = .ok (.imul, 1) := by decide +kernel
theorem dX4_at_32 : decode cX4_at 32 = .ok (.iload_n 2, 1) := by decide +kernel
theorem dX4_at_33 : decode cX4_at 33 = .ok (.iadd, 1) := by decide +kernel
theorem dX4_at_34 : decode cX4_at 34 = .ok (.iaload, 1) := by decide +kernel
theorem dX4_at_35 : decode cX4_at 35 = .ok (.goto 4, 3) := by decide +kernel
theorem dX4_at_38 : decode cX4_at 38 = .ok (.iconst (-1), 1) := by decide +kernel
theorem dX4_at_39 : decode cX4_at 39 = .ok (.ireturn, 1) := by decide +kernel
theorem dX4_takeFrom_0 : decode cX4_takeFrom 0 = .ok (.aload_n 0, 1) := by decide +kernel
theorem dX4_takeFrom_1 : decode cX4_takeFrom 1 = .ok (.getfield 24, 3) := by decide +kernel
theorem dX4_takeFrom_4 : decode cX4_takeFrom 4 = .ok (.arraylength, 1) := by decide +kernel
theorem dX4_takeFrom_5 : decode cX4_takeFrom 5 = .ok (.aload_n 1, 1) := by decide +kernel
theorem dX4_takeFrom_6 : decode cX4_takeFrom 6 = .ok (.getfield 24, 3) := by decide +kernel
theorem dX4_takeFrom_9 : decode cX4_takeFrom 9 = .ok (.arraylength, 1) := by decide +kernel
theorem dX4_takeFrom_10 : decode cX4_takeFrom 10 = .ok (.invokestatic 52, 3) := by decide +kernel
theorem dX4_takeFrom_13 : decode cX4_takeFrom 13 = .ok (.istore_n 2, 1) := by decide +kernel
theorem dX4_takeFrom_14 : decode cX4_takeFrom 14 = .ok (.aload_n 1, 1) := by decide +kernel
theorem dX4_takeFrom_15 : decode cX4_takeFrom 15 = .ok (.getfield 24, 3) := by decide +kernel
theorem dX4_takeFrom_18 : decode cX4_takeFrom 18 = .ok (.iconst 0, 1) := by decide +kernel
theorem dX4_takeFrom_19 : decode cX4_takeFrom 19 = .ok (.aload_n 0, 1) := by decide +kernel
theorem dX4_takeFrom_20 : decode cX4_takeFrom 20 = .ok (.getfield 24, 3) := by decide +kernel
theorem dX4_takeFrom_23 : decode cX4_takeFrom 23 = .ok (.iconst 0, 1) := by decide +kernel
theorem dX4_takeFrom_24 : decode cX4_takeFrom 24 = .ok (.iload_n 2, 1) := by decide +kernel
theorem dX4_takeFrom_25 : decode cX4_takeFrom 25 = .ok (.invokestatic 42, 3) := by decide +kernel
theorem dX4_takeFrom_28 : decode cX4_takeFrom 28 = .ok (.aload_n 0, 1) := by decide +kernel
theorem dX4_takeFrom_29 : decode cX4_takeFrom 29 = .ok (.aload_n 0, 1) := by decide +kernel
theorem dX4_takeFrom_30 : decode cX4_takeFrom 30 = .ok (.getfield 15, 3) := by decide +kernel
theorem dX4_takeFrom_33 : decode cX4_takeFrom 33 = .ok (.aload_n 1, 1) := by decide +kernel
theorem dX4_takeFrom_34 : decode cX4_takeFrom 34 = .ok (.getfield 28, 3) := by decide +kernel
theorem dX4_takeFrom_37 : decode cX4_takeFrom 37 = .ok (.invokestatic 52, 3) := by decide +kernel
theorem dX4_takeFrom_40 : decode cX4_takeFrom 40 = .ok (.putfield 28, 3) := by decide +kernel
theorem dX4_takeFrom_43 : decode cX4_takeFrom 43 = .ok (.return_, 1) := by decide +kernel
theorem dX4_mixInto_0 : decode cX4_mixInto 0 = .ok (.lload_n 1, 1) := by decide +kernel
theorem dX4_mixInto_1 : decode cX4_mixInto 1 = .ok (.lstore_n 3, 1) := by decide +kernel
theorem dX4_mixInto_2 : decode cX4_mixInto 2 = .ok (.iconst 0, 1) := by decide +kernel
theorem dX4_mixInto_3 : decode cX4_mixInto 3 = .ok (.istore 5, 2) := by decide +kernel
theorem dX4_mixInto_5 : decode cX4_mixInto 5 = .ok (.iload 5, 2) := by decide +kernel
theorem dX4_mixInto_7 : decode cX4_mixInto 7 = .ok (.aload_n 0, 1) := by decide +kernel
theorem dX4_mixInto_8 : decode cX4_mixInto 8 = .ok (.getfield 28, 3) := by decide +kernel
theorem dX4_mixInto_11 : decode cX4_mixInto 11 = .ok (.aload_n 0, 1) := by decide +kernel
theorem dX4_mixInto_12 : decode cX4_mixInto 12 = .ok (.getfield 21, 3) := by decide +kernel
theorem dX4_mixInto_15 : decode cX4_mixInto 15 = .ok (.imul, 1) := by decide +kernel
theorem dX4_mixInto_16 : decode cX4_mixInto 16 = .ok (.if_icmp .ge 24, 3) := by decide +kernel
theorem dX4_mixInto_19 : decode cX4_mixInto 19 = .ok (.ldc2_w 55, 3) := by decide +kernel
theorem dX4_mixInto_22 : decode cX4_mixInto 22 = .ok (.lload_n 3, 1) := by decide +kernel
theorem dX4_mixInto_23 : decode cX4_mixInto 23 = .ok (.lmul, 1) := by decide +kernel
theorem dX4_mixInto_24 : decode cX4_mixInto 24 = .ok (.aload_n 0, 1) := by decide +kernel
theorem dX4_mixInto_25 : decode cX4_mixInto 25 = .ok (.getfield 24, 3) := by decide +kernel
theorem dX4_mixInto_28 : decode cX4_mixInto 28 = .ok (.iload 5, 2) := by decide +kernel
theorem dX4_mixInto_30 : decode cX4_mixInto 30 = .ok (.iaload, 1) := by decide +kernel
theorem dX4_mixInto_31 : decode cX4_mixInto 31 = .ok (.i2l, 1) := by decide +kernel
theorem dX4_mixInto_32 : decode cX4_mixInto 32 = .ok (.ladd, 1) := by decide +kernel
theorem dX4_mixInto_33 : decode cX4_mixInto 33 = .ok (.lstore_n 3, 1) := by decide +kernel
theorem dX4_mixInto_34 : decode cX4_mixInto 34 = .ok (.iinc 5 1, 3) := by decide +kernel
theorem dX4_mixInto_37 : decode cX4_mixInto 37 = .ok (.goto (-32), 3) := by decide +kernel
theorem dX4_mixInto_40 : decode cX4_mixInto 40 = .ok (.lload_n 3, 1) := by decide +kernel
theorem dX4_mixInto_41 : decode cX4_mixInto 41 = .ok (.lreturn, 1) := by decide +kernel
end
section
theorem dX5_init_0 : decode cX5_init 0 = .ok (.aload_n 0, 1) := by decide +kernel
theorem dX5_init_1 : decode cX5_init 1 = .ok (.invokespecial 1, 3) := by decide +kernel
theorem dX5_init_4 : decode cX5_init 4 = .ok (.aload_n 0, 1) := by decide +kernel
theorem dX5_init_5 : decode cX5_init 5 = .ok (.bipush 16, 2) := by decide +kernel
theorem dX5_init_7 : decode cX5_init 7 = .ok (.newarray .int, 2) := by decide +kernel
theorem dX5_init_9 : decode cX5_init 9 = .ok (.putfield 7, 3) := by decide +kernel
theorem dX5_init_12 : decode cX5_init 12 = .ok (.return_, 1) := by decide +kernel
theorem dX5_reset_0 : decode cX5_reset 0 = .ok (.iconst 0, 1) := by decide +kernel
theorem dX5_reset_1 : decode cX5_reset 1 = .ok (.istore_n 1, 1) := by decide +kernel
theorem dX5_reset_2 : decode cX5_reset 2 = .ok (.iload_n 1, 1) := by decide +kernel
theorem dX5_reset_3 : decode cX5_reset 3 = .ok (.aload_n 0, 1) := by decide +kernel
theorem dX5_reset_4 : decode cX5_reset 4 = .ok (.getfield 7, 3) := by decide +kernel
theorem dX5_reset_7 : decode cX5_reset 7 = .ok (.arraylength, 1) := by decide +kernel
theorem dX5_reset_8 : decode cX5_reset 8 = .ok (.if_icmp .ge 16, 3) := by decide +kernel
theorem dX5_reset_11 : decode cX5_reset 11 = .ok (.aload_n 0, 1) := by decide +kernel
theorem dX5_reset_12 : decode cX5_reset 12 = .ok (.getfield 7, 3) := by decide +kernel
theorem dX5_reset_15 : decode cX5_reset 15 = .ok (.iload_n 1, 1) := by decide +kernel
theorem dX5_reset_16 : decode cX5_reset 16 = .ok (.iconst 0, 1) := by decide +kernel
theorem dX5_reset_17 : decode cX5_reset 17 = .ok (.iastore, 1) := by decide +kernel
theorem dX5_reset_18 : decode cX5_reset 18 = .ok (.iinc 1 1, 3) := by decide +kernel
theorem dX5_reset_21 : decode cX5_reset 21 = .ok (.goto (-19), 3) := by decide +kernel
theorem dX5_reset_24 : decode cX5_reset 24 = .ok (.aload_n 0, 1) := by decide +kernel
theorem dX5_reset_25 : decode cX5_reset 25 = .ok (.iconst 0, 1) := by decide +kernel
theorem dX5_reset_26 : decode cX5_reset 26 = .ok (.putfield 13, 3) := by decide +kernel
theorem dX5_reset_29 : decode cX5_reset 29 = .ok (.return_, 1) := by decide +kernel
theorem dX5_add_0 : decode cX5_add 0 = .ok (.iload_n 1, 1) := by decide +kernel
theorem dX5_add_1 : decode cX5_add 1 = .ok (.aload_n 0, 1) := by decide +kernel
theorem dX5_add_2 : decode cX5_add 2 = .ok (.getfield 7, 3) := by decide +kernel
theorem dX5_add_5 : decode cX5_add 5 = .ok (.arraylength, 1) := by decide +kernel
theorem dX5_add_6 : decode cX5_add 6 = .ok (.invokestatic 17, 3) := by decide +kernel
theorem dX5_add_9 : decode cX5_add 9 = .ok (.ifCond .eq 30, 3) := by decide +kernel
theorem dX5_add_12 : decode cX5_add 12 = .ok (.aload_n 0, 1) := by decide +kernel
theorem dX5_add_13 : decode cX5_add 13 = .ok (.getfield 7, 3) := by decide +kernel
theorem dX5_add_16 : decode cX5_add 16 = .ok (.iload_n 1, 1) := by decide +kernel
theorem dX5_add_17 : decode cX5_add 17 = .ok (.dup2, 1) := by decide +kernel
theorem dX5_add_18 : decode cX5_add 18 = .ok (.iaload, 1) := by decide +kernel
theorem dX5_add_19 : decode cX5_add 19 = .ok (.iconst 1, 1) := by decide +kernel
theorem dX5_add_20 : decode cX5_add 20 = .ok (.iadd, 1) := by decide +kernel
theorem dX5_add_21 : decode cX5_add 21 = .ok (.iastore, 1) := by decide +kernel
theorem dX5_add_22 : decode cX5_add 22 = .ok (.aload_n 0, 1) := by decide +kernel
theorem dX5_add_23 : decode cX5_add 23 = .ok (.aload_n 0, 1) := by decide +kernel
theorem dX5_add_24 : decode cX5_add 24 = .ok (.getfield 13, 3) := by decide +kernel
theorem dX5_add_27 : decode cX5_add 27 = .ok (.aload_n 0, 1) := by decide +kernel
theorem dX5_add_28 : decode cX5_add 28 = .ok (.getfield 7, 3) := by decide +kernel
theorem dX5_add_31 : decode cX5_add 31 = .ok (.iload_n 1, 1) := by decide +kernel
theorem dX5_add_32 : decode cX5_add 32 = .ok (.iaload, 1) := by decide +kernel
theorem dX5_add_33 : decode cX5_add 33 = .ok (.invokestatic 23, 3) := by decide +kernel
theorem dX5_add_36 : decode cX5_add 36 = .ok (.putfield 13, 3) := by decide +kernel
theorem dX5_add_39 : decode cX5_add 39 = .ok (.return_, 1) := by decide +kernel
end
section
theorem dX6_init_0 : decode cX6_init 0 = .ok (.aload_n 0, 1) := by decide +kernel
theorem dX6_init_1 : decode cX6_init 1 = .ok (.invokespecial 3, 3) := by decide +kernel
theorem dX6_init_4 : decode cX6_init 4 = .ok (.aload_n 0, 1) := by decide +kernel
theorem dX6_init_5 : decode cX6_init 5 = .ok (.new 9, 3) := by decide +kernel
theorem dX6_init_8 : decode cX6_init 8 = .ok (.dup, 1) := by decide +kernel
theorem dX6_init_9 : decode cX6_init 9 = .ok (.invokespecial 11, 3) := by decide +kernel
theorem dX6_init_12 : decode cX6_init 12 = .ok (.putfield 12, 3) := by decide +kernel
theorem dX6_init_15 : decode cX6_init 15 = .ok (.aload_n 0, 1) := by decide +kernel
theorem dX6_init_16 : decode cX6_init 16 = .ok (.sipush 150, 3) := by decide +kernel
theorem dX6_init_19 : decode cX6_init 19 = .ok (.newarray .byte, 2) := by decide +kernel
theorem dX6_init_21 : decode cX6_init 21 = .ok (.putfield 18, 3) := by decide +kernel
theorem dX6_init_24 : decode cX6_init 24 = .ok (.return_, 1) := by decide +kernel
theorem dX6_isFull_0 : decode cX6_isFull 0 = .ok (.aload_n 0, 1) := by decide +kernel
theorem dX6_isFull_1 : decode cX6_isFull 1 = .ok (.getfield 22, 3) := by decide +kernel
theorem dX6_isFull_4 : decode cX6_isFull 4 = .ok (.aload_n 0, 1) := by decide +kernel
theorem dX6_isFull_5 : decode cX6_isFull 5 = .ok (.getfield 18, 3) := by decide +kernel
theorem dX6_isFull_8 : decode cX6_isFull 8 = .ok (.arraylength, 1) := by decide +kernel
theorem dX6_isFull_9 : decode cX6_isFull 9 = .ok (.if_icmp .lt 7, 3) := by decide +kernel
theorem dX6_isFull_12 : decode cX6_isFull 12 = .ok (.iconst 1, 1) := by decide +kernel
theorem dX6_isFull_13 : decode cX6_isFull 13 = .ok (.goto 4, 3) := by decide +kernel
theorem dX6_isFull_16 : decode cX6_isFull 16 = .ok (.iconst 0, 1) := by decide +kernel
theorem dX6_isFull_17 : decode cX6_isFull 17 = .ok (.ireturn, 1) := by decide +kernel
theorem dX6_add_0 : decode cX6_add 0 = .ok (.aload_n 0, 1) := by decide +kernel
theorem dX6_add_1 : decode cX6_add 1 = .ok (.getfield 22, 3) := by decide +kernel
theorem dX6_add_4 : decode cX6_add 4 = .ok (.aload_n 0, 1) := by decide +kernel
theorem dX6_add_5 : decode cX6_add 5 = .ok (.getfield 18, 3) := by decide +kernel
theorem dX6_add_8 : decode cX6_add 8 = .ok (.arraylength, 1) := by decide +kernel
theorem dX6_add_9 : decode cX6_add 9 = .ok (.if_icmp .ge 24, 3) := by decide +kernel
theorem dX6_add_12 : decode cX6_add 12 = .ok (.aload_n 0, 1) := by decide +kernel
theorem dX6_add_13 : decode cX6_add 13 = .ok (.getfield 18, 3) := by decide +kernel
theorem dX6_add_16 : decode cX6_add 16 = .ok (.aload_n 0, 1) := by decide +kernel
theorem dX6_add_17 : decode cX6_add 17 = .ok (.getfield 22, 3) := by decide +kernel
theorem dX6_add_20 : decode cX6_add 20 = .ok (.iload_n 1, 1) := by decide +kernel
theorem dX6_add_21 : decode cX6_add 21 = .ok (.i2b, 1) := by decide +kernel
theorem dX6_add_22 : decode cX6_add 22 = .ok (.bastore, 1) := by decide +kernel
theorem dX6_add_23 : decode cX6_add 23 = .ok (.aload_n 0, 1) := by decide +kernel
theorem dX6_add_24 : decode cX6_add 24 = .ok (.dup, 1) := by decide +kernel
theorem dX6_add_25 : decode cX6_add 25 = .ok (.getfield 22, 3) := by decide +kernel
theorem dX6_add_28 : decode cX6_add 28 = .ok (.iconst 1, 1) := by decide +kernel
theorem dX6_add_29 : decode cX6_add 29 = .ok (.iadd, 1) := by decide +kernel
theorem dX6_add_30 : decode cX6_add 30 = .ok (.putfield 22, 3) := by decide +kernel
theorem dX6_add_33 : decode cX6_add 33 = .ok (.aload_n 0, 1) := by decide +kernel
theorem dX6_add_34 : decode cX6_add 34 = .ok (.getfield 22, 3) := by decide +kernel
theorem dX6_add_37 : decode cX6_add 37 = .ok (.ireturn, 1) := by decide +kernel
theorem dX6_empty_0 : decode cX6_empty 0 = .ok (.aload_n 0, 1) := by decide +kernel
theorem dX6_empty_1 : decode cX6_empty 1 = .ok (.getfield 22, 3) := by decide +kernel
theorem dX6_empty_4 : decode cX6_empty 4 = .ok (.istore_n 1, 1) := by decide +kernel
theorem dX6_empty_5 : decode cX6_empty 5 = .ok (.aload_n 0, 1) := by decide +kernel
theorem dX6_empty_6 : decode cX6_empty 6 = .ok (.iconst 0, 1) := by decide +kernel
theorem dX6_empty_7 : decode cX6_empty 7 = .ok (.putfield 22, 3) := by decide +kernel
theorem dX6_empty_10 : decode cX6_empty 10 = .ok (.iload_n 1, 1) := by decide +kernel
theorem dX6_empty_11 : decode cX6_empty 11 = .ok (.ireturn, 1) := by decide +kernel
theorem dX6_readAll_0 : decode cX6_readAll 0 = .ok (.aload_n 0, 1) := by decide +kernel
theorem dX6_readAll_1 : decode cX6_readAll 1 = .ok (.getfield 12, 3) := by decide +kernel
theorem dX6_readAll_4 : decode cX6_readAll 4 = .ok (.invokevirtual 26, 3) := by decide +kernel
theorem dX6_readAll_7 : decode cX6_readAll 7 = .ok (.aload_n 0, 1) := by decide +kernel
theorem dX6_readAll_8 : decode cX6_readAll 8 = .ok (.iconst 0, 1) := by decide +kernel
theorem dX6_readAll_9 : decode cX6_readAll 9 = .ok (.putfield 29, 3) := by decide +kernel
theorem dX6_readAll_12 : decode cX6_readAll 12 = .ok (.iconst 0, 1) := by decide +kernel
theorem dX6_readAll_13 : decode cX6_readAll 13 = .ok (.istore_n 1, 1) := by decide +kernel
theorem dX6_readAll_14 : decode cX6_readAll 14 = .ok (.iconst 0, 1) := by decide +kernel
theorem dX6_readAll_15 : decode cX6_readAll 15 = .ok (.istore_n 2, 1) := by decide +kernel
theorem dX6_readAll_16 : decode cX6_readAll 16 = .ok (.iload_n 2, 1) := by decide +kernel
theorem dX6_readAll_17 : decode cX6_readAll 17 = .ok (.aload_n 0, 1) := by decide +kernel
theorem dX6_readAll_18 : decode cX6_readAll 18 = .ok (.getfield 22, 3) := by decide +kernel
theorem dX6_readAll_21 : decode cX6_readAll 21 = .ok (.if_icmp .gt 60, 3) := by decide +kernel
theorem dX6_readAll_24 : decode cX6_readAll 24 = .ok (.aload_n 0, 1) := by decide +kernel
theorem dX6_readAll_25 : decode cX6_readAll 25 = .ok (.invokevirtual 32, 3) := by decide +kernel
theorem dX6_readAll_28 : decode cX6_readAll 28 = .ok (.aload_n 0, 1) := by decide +kernel
theorem dX6_readAll_29 : decode cX6_readAll 29 = .ok (.getfield 35, 3) := by decide +kernel
theorem dX6_readAll_32 : decode cX6_readAll 32 = .ok (.ifCond .ne 9, 3) := by decide +kernel
theorem dX6_readAll_35 : decode cX6_readAll 35 = .ok (.iload_n 1, 1) := by decide +kernel
theorem dX6_readAll_36 : decode cX6_readAll 36 = .ok (.ifCond .le 5, 3) := by decide +kernel
theorem dX6_readAll_39 : decode cX6_readAll 39 = .ok (.iload_n 1, 1) := by decide +kernel
theorem dX6_readAll_40 : decode cX6_readAll 40 = .ok (.ireturn, 1) := by decide +kernel
theorem dX6_readAll_41 : decode cX6_readAll 41 = .ok (.aload_n 0, 1) := by decide +kernel
theorem dX6_readAll_42 : decode cX6_readAll 42 = .ok (.iload_n 1, 1) := by decide +kernel
theorem dX6_readAll_43 : decode cX6_readAll 43 = .ok (.ifCond .ne 7, 3) := by decide +kernel
theorem dX6_readAll_46 : decode cX6_readAll 46 = .ok (.iconst 1, 1) := by decide +kernel
theorem dX6_readAll_47 : decode cX6_readAll 47 = .ok (.goto 4, 3) := by decide +kernel
theorem dX6_readAll_50 : decode cX6_readAll 50 = .ok (.iconst 0, 1) := by decide +kernel
theorem dX6_readAll_51 : decode cX6_readAll 51 = .ok (.invokevirtual 38, 3) := by decide +kernel
theorem dX6_readAll_54 : decode cX6_readAll 54 = .ok (.ifCond .eq 10, 3) := by decide +kernel
theorem dX6_readAll_57 : decode cX6_readAll 57 = .ok (.aload_n 0, 1) := by decide +kernel
theorem dX6_readAll_58 : decode cX6_readAll 58 = .ok (.invokevirtual 42, 3) := by decide +kernel
theorem dX6_readAll_61 : decode cX6_readAll 61 = .ok (.ifCond .ne 11, 3) := by decide +kernel
theorem dX6_readAll_64 : decode cX6_readAll 64 = .ok (.bipush (-10), 2) := by decide +kernel
theorem dX6_readAll_66 : decode cX6_readAll 66 = .ok (.aload_n 0, 1) := by decide +kernel
theorem dX6_readAll_67 : decode cX6_readAll 67 = .ok (.getfield 46, 3) := by decide +kernel
theorem dX6_readAll_70 : decode cX6_readAll 70 = .ok (.isub, 1) := by decide +kernel
theorem dX6_readAll_71 : decode cX6_readAll 71 = .ok (.ireturn, 1) := by decide +kernel
theorem dX6_readAll_72 : decode cX6_readAll 72 = .ok (.iinc 1 1, 3) := by decide +kernel
theorem dX6_readAll_75 : decode cX6_readAll 75 = .ok (.iinc 2 1, 3) := by decide +kernel
theorem dX6_readAll_78 : decode cX6_readAll 78 = .ok (.goto (-62), 3) := by decide +kernel
theorem dX6_readAll_81 : decode cX6_readAll 81 = .ok (.bipush (-10), 2) := by decide +kernel
theorem dX6_readAll_83 : decode cX6_readAll 83 = .ok (.aload_n 0, 1) := by decide +kernel
theorem dX6_readAll_84 : decode cX6_readAll 84 = .ok (.getfield 46, 3) := by decide +kernel
theorem dX6_readAll_87 : decode cX6_readAll 87 = .ok (.isub, 1) := by decide +kernel
theorem dX6_readAll_88 : decode cX6_readAll 88 = .ok (.ireturn, 1) := by decide +kernel
theorem dX6_readItem_0 : decode cX6_readItem 0 = .ok (.aload_n 0, 1) := by decide +kernel
theorem dX6_readItem_1 : decode cX6_readItem 1 = .ok (.getfield 35, 3) := by decide +kernel
theorem dX6_readItem_4 : decode cX6_readItem 4 = .ok (.iconst 1, 1) := by decide +kernel
theorem dX6_readItem_5 : decode cX6_readItem 5 = .ok (.if_icmp .ne 13, 3) := by decide +kernel
theorem dX6_readItem_8 : decode cX6_readItem 8 = .ok (.iload_n 1, 1) := by decide +kernel
theorem dX6_readItem_9 : decode cX6_readItem 9 = .ok (.aload_n 0, 1) := by decide +kernel
theorem dX6_readItem_10 : decode cX6_readItem 10 = .ok (.ldc 49, 2) := by decide +kernel
theorem dX6_readItem_12 : decode cX6_readItem 12 = .ok (.invokevirtual 50, 3) := by decide +kernel
theorem dX6_readItem_15 : decode cX6_readItem 15 = .ok (.if_icmp .eq 5, 3) := by decide +kernel
theorem dX6_readItem_18 : decode cX6_readItem 18 = .ok (.iconst 0, 1) := by decide +kernel
theorem dX6_readItem_19 : decode cX6_readItem 19 = .ok (.ireturn, 1) := by decide +kernel
theorem dX6_readItem_20 : decode cX6_readItem 20 = .ok (.iload_n 1, 1) := by decide +kernel
theorem dX6_readItem_21 : decode cX6_readItem 21 = .ok (.ifCond .eq 8, 3) := by decide +kernel
theorem dX6_readItem_24 : decode cX6_readItem 24 = .ok (.aload_n 0, 1) := by decide +kernel
theorem dX6_readItem_25 : decode cX6_readItem 25 = .ok (.invokevirtual 54, 3) := by decide +kernel
theorem dX6_readItem_28 : decode cX6_readItem 28 = .ok (.ireturn, 1) := by decide +kernel
theorem dX6_readItem_29 : decode cX6_readItem 29 = .ok (.aload_n 0, 1) := by decide +kernel
theorem dX6_readItem_30 : decode cX6_readItem 30 = .ok (.ldc 57, 2) := by decide +kernel
theorem dX6_readItem_32 : decode cX6_readItem 32 = .ok (.invokevirtual 50, 3) := by decide +kernel
theorem dX6_readItem_35 : decode cX6_readItem 35 = .ok (.ifCond .eq 8, 3) := by decide +kernel
theorem dX6_readItem_38 : decode cX6_readItem 38 = .ok (.aload_n 0, 1) := by decide +kernel
theorem dX6_readItem_39 : decode cX6_readItem 39 = .ok (.invokevirtual 59, 3) := by decide +kernel
theorem dX6_readItem_42 : decode cX6_readItem 42 = .ok (.ireturn, 1) := by decide +kernel
theorem dX6_readItem_43 : decode cX6_readItem 43 = .ok (.aload_n 0, 1) := by decide +kernel
theorem dX6_readItem_44 : decode cX6_readItem 44 = .ok (.ldc 62, 2) := by decide +kernel
theorem dX6_readItem_46 : decode cX6_readItem 46 = .ok (.invokevirtual 50, 3) := by decide +kernel
theorem dX6_readItem_49 : decode cX6_readItem 49 = .ok (.ifCond .eq 8, 3) := by decide +kernel
theorem dX6_readItem_52 : decode cX6_readItem 52 = .ok (.aload_n 0, 1) := by decide +kernel
theorem dX6_readItem_53 : decode cX6_readItem 53 = .ok (.invokevirtual 64, 3) := by decide +kernel
theorem dX6_readItem_56 : decode cX6_readItem 56 = .ok (.ireturn, 1) := by decide +kernel
theorem dX6_readItem_57 : decode cX6_readItem 57 = .ok (.aload_n 0, 1) := by decide +kernel
theorem dX6_readItem_58 : decode cX6_readItem 58 = .ok (.ldc 67, 2) := by decide +kernel
theorem dX6_readItem_60 : decode cX6_readItem 60 = .ok (.invokevirtual 50, 3) := by decide +kernel
theorem dX6_readItem_63 : decode cX6_readItem 63 = .ok (.ifCond .eq 8, 3) := by decide +kernel
theorem dX6_readItem_66 : decode cX6_readItem 66 = .ok (.aload_n 0, 1) := by decide +kernel
theorem dX6_readItem_67 : decode cX6_readItem 67 = .ok (.invokevirtual 69, 3) := by decide +kernel
theorem dX6_readItem_70 : decode cX6_readItem 70 = .ok (.ireturn, 1) := by decide +kernel
theorem dX6_readItem_71 : decode cX6_readItem 71 = .ok (.aload_n 0, 1) := by decide +kernel
theorem dX6_readItem_72 : decode cX6_readItem 72 = .ok (.ldc 72, 2) := by decide +kernel
theorem dX6_readItem_74 : decode cX6_readItem 74 = .ok (.invokevirtual 50, 3) := by decide +kernel
theorem dX6_readItem_77 : decode cX6_readItem 77 = .ok (.ifCond .eq 8, 3) := by decide +kernel
theorem dX6_readItem_80 : decode cX6_readItem 80 = .ok (.aload_n 0, 1) := by decide +kernel
theorem dX6_readItem_81 : decode cX6_readItem 81 = .ok (.invokevirtual 74, 3) := by decide +kernel
theorem dX6_readItem_84 : decode cX6_readItem 84 = .ok (.ireturn, 1) := by decide +kernel
theorem dX6_readItem_85 : decode cX6_readItem 85 = .ok (.aload_n 0, 1) := by decide +kernel
theorem dX6_readItem_86 : decode cX6_readItem 86 = .ok (.ldc 77, 2) := by decide +kernel
theorem dX6_readItem_88 : decode cX6_readItem 88 = .ok (.invokevirtual 50, 3) := by decide +kernel
theorem dX6_readItem_91 : decode cX6_readItem 91 = .ok (.ifCond .eq 14, 3) := by decide +kernel
theorem dX6_readItem_94 : decode cX6_readItem 94 = .ok (.aload_n 0, 1) := by decide +kernel
theorem dX6_readItem_95 : decode cX6_readItem 95 = .ok (.invokevirtual 79, 3) := by decide +kernel
theorem dX6_readItem_98 : decode cX6_readItem 98 = .ok (.ifCond .eq 7, 3) := by decide +kernel
theorem dX6_readItem_101 : decode cX6_readItem 101 = .ok (.iconst 1, 1) := by decide +kernel
theorem dX6_readItem_102 : decode cX6_readItem 102 = .ok (.goto 4, 3) := by decide +kernel
theorem dX6_readItem_105 : decode cX6_readItem 105 = .ok (.iconst 0, 1) := by decide +kernel
theorem dX6_readItem_106 : decode cX6_readItem 106 = .ok (.ireturn, 1) := by decide +kernel
theorem dX6_readRowKinds_0 : decode cX6_readRowKinds 0 = .ok (.iconst 0, 1) := by decide +kernel
theorem dX6_readRowKinds_1 : decode cX6_readRowKinds 1 = .ok (.istore_n 1, 1) := by decide +kernel
theorem dX6_readRowKinds_2 : decode cX6_readRowKinds 2 = .ok (.iload_n 1, 1) := by decide +kernel
theorem dX6_readRowKinds_3 : decode cX6_readRowKinds 3 = .ok (.iconst 5, 1) := by decide +kernel
theorem dX6_readRowKinds_4 : decode cX6_readRowKinds 4 = .ok (.if_icmp .ge 33, 3) := by decide +kernel
theorem dX6_readRowKinds_7 : decode cX6_readRowKinds 7 = .ok (.aload_n 0, 1) := by decide +kernel
theorem dX6_readRowKinds_8 : decode cX6_readRowKinds 8 = .ok (.iconst 0, 1) := by decide +kernel
theorem dX6_readRowKinds_9 : decode cX6_readRowKinds 9 = .ok (.iconst 5, 1) := by decide +kernel
theorem dX6_readRowKinds_10 : decode cX6_readRowKinds 10 = .ok (.invokevirtual 82, 3) := by decide +kernel
theorem dX6_readRowKinds_13 : decode cX6_readRowKinds 13 = .ok (.ifCond .ne 5, 3) := by decide +kernel
theorem dX6_readRowKinds_16 : decode cX6_readRowKinds 16 = .ok (.iconst 0, 1) := by decide +kernel
theorem dX6_readRowKinds_17 : decode cX6_readRowKinds 17 = .ok (.ireturn, 1) := by decide +kernel
theorem dX6_readRowKinds_18 : decode cX6_readRowKinds 18 = .ok (.aload_n 0, 1) := by decide +kernel
theorem dX6_readRowKinds_19 : decode cX6_readRowKinds 19 = .ok (.getfield 12, 3) := by decide +kernel
theorem dX6_readRowKinds_22 : decode cX6_readRowKinds 22 = .ok (.getfield 86, 3) := by decide +kernel
theorem dX6_readRowKinds_25 : decode cX6_readRowKinds 25 = .ok (.iload_n 1, 1) := by decide +kernel
theorem dX6_readRowKinds_26 : decode cX6_readRowKinds 26 = .ok (.aload_n 0, 1) := by decide +kernel
theorem dX6_readRowKinds_27 : decode cX6_readRowKinds 27 = .ok (.getfield 90, 3) := by decide +kernel
theorem dX6_readRowKinds_30 : decode cX6_readRowKinds 30 = .ok (.iastore, 1) := by decide +kernel
theorem dX6_readRowKinds_31 : decode cX6_readRowKinds 31 = .ok (.iinc 1 1, 3) := by decide +kernel
theorem dX6_readRowKinds_34 : decode cX6_readRowKinds 34 = .ok (.goto (-32), 3) := by decide +kernel
theorem dX6_readRowKinds_37 : decode cX6_readRowKinds 37 = .ok (.iconst 1, 1) := by decide +kernel
theorem dX6_readRowKinds_38 : decode cX6_readRowKinds 38 = .ok (.ireturn, 1) := by decide +kernel
theorem dX6_readSoul_0 : decode cX6_readSoul 0 = .ok (.aload_n 0, 1) := by decide +kernel
theorem dX6_readSoul_1 : decode cX6_readSoul 1 = .ok (.getfield 12, 3) := by decide +kernel
theorem dX6_readSoul_4 : decode cX6_readSoul 4 = .ok (.getfield 93, 3) := by decide +kernel
theorem dX6_readSoul_7 : decode cX6_readSoul 7 = .ok (.bipush 7, 2) := by decide +kernel
theorem dX6_readSoul_9 : decode cX6_readSoul 9 = .ok (.if_icmp .ge 12, 3) := by decide +kernel
theorem dX6_readSoul_12 : decode cX6_readSoul 12 = .ok (.aload_n 0, 1) := by decide +kernel
theorem dX6_readSoul_13 : decode cX6_readSoul 13 = .ok (.iconst 0, 1) := by decide +kernel
theorem dX6_readSoul_14 : decode cX6_readSoul 14 = .ok (.iconst 5, 1) := by decide +kernel
theorem dX6_readSoul_15 : decode cX6_readSoul 15 = .ok (.invokevirtual 82, 3) := by decide +kernel
theorem dX6_readSoul_18 : decode cX6_readSoul 18 = .ok (.ifCond .ne 5, 3) := by decide +kernel
theorem dX6_readSoul_21 : decode cX6_readSoul 21 = .ok (.iconst 0, 1) := by decide +kernel
theorem dX6_readSoul_22 : decode cX6_readSoul 22 = .ok (.ireturn, 1) := by decide +kernel
theorem dX6_readSoul_23 : decode cX6_readSoul 23 = .ok (.aload_n 0, 1) := by decide +kernel
theorem dX6_readSoul_24 : decode cX6_readSoul 24 = .ok (.getfield 90, 3) := by decide +kernel
theorem dX6_readSoul_27 : decode cX6_readSoul 27 = .ok (.istore_n 1, 1) := by decide +kernel
theorem dX6_readSoul_28 : decode cX6_readSoul 28 = .ok (.aload_n 0, 1) := by decide +kernel
theorem dX6_readSoul_29 : decode cX6_readSoul 29 = .ok (.iconst 0, 1) := by decide +kernel
theorem dX6_readSoul_30 : decode cX6_readSoul 30 = .ok (.bipush 29, 2) := by decide +kernel
theorem dX6_readSoul_32 : decode cX6_readSoul 32 = .ok (.invokevirtual 82, 3) := by decide +kernel
theorem dX6_readSoul_35 : decode cX6_readSoul 35 = .ok (.ifCond .ne 5, 3) := by decide +kernel
theorem dX6_readSoul_38 : decode cX6_readSoul 38 = .ok (.iconst 0, 1) := by decide +kernel
theorem dX6_readSoul_39 : decode cX6_readSoul 39 = .ok (.ireturn, 1) := by decide +kernel
theorem dX6_readSoul_40 : decode cX6_readSoul 40 = .ok (.aload_n 0, 1) := by decide +kernel
theorem dX6_readSoul_41 : decode cX6_readSoul 41 = .ok (.getfield 12, 3) := by decide +kernel
theorem dX6_readSoul_44 : decode cX6_readSoul 44 = .ok (.iload_n 1, 1) := by decide +kernel
theorem dX6_readSoul_45 : decode cX6_readSoul 45 = .ok (.aload_n 0, 1) := by decide +kernel
theorem dX6_readSoul_46 : decode cX6_readSoul 46 = .ok (.getfield 90, 3) := by decide +kernel
theorem dX6_readSoul_49 : decode cX6_readSoul 49 = .ok (.invokevirtual 96, 3) := by decide +kernel
theorem dX6_readSoul_52 : decode cX6_readSoul 52 = .ok (.pop, 1) := by decide +kernel
theorem dX6_readSoul_53 : decode cX6_readSoul 53 = .ok (.iconst 1, 1) := by decide +kernel
theorem dX6_readSoul_54 : decode cX6_readSoul 54 = .ok (.ireturn, 1) := by decide +kernel
theorem dX6_readCoat_0 : decode cX6_readCoat 0 = .ok (.aload_n 0, 1) := by decide +kernel
theorem dX6_readCoat_1 : decode cX6_readCoat 1 = .ok (.iconst 0, 1) := by decide +kernel
theorem dX6_readCoat_2 : decode cX6_readCoat 2 = .ok (.bipush 29, 2) := by decide +kernel
theorem dX6_readCoat_4 : decode cX6_readCoat 4 = .ok (.invokevirtual 82, 3) := by decide +kernel
theorem dX6_readCoat_7 : decode cX6_readCoat 7 = .ok (.ifCond .eq 17, 3) := by decide +kernel
theorem dX6_readCoat_10 : decode cX6_readCoat 10 = .ok (.aload_n 0, 1) := by decide +kernel
theorem dX6_readCoat_11 : decode cX6_readCoat 11 = .ok (.getfield 12, 3) := by decide +kernel
theorem dX6_readCoat_14 : decode cX6_readCoat 14 = .ok (.aload_n 0, 1) := by decide +kernel
theorem dX6_readCoat_15 : decode cX6_readCoat 15 = .ok (.getfield 90, 3) := by decide +kernel
theorem dX6_readCoat_18 : decode cX6_readCoat 18 = .ok (.invokevirtual 100, 3) := by decide +kernel
theorem dX6_readCoat_21 : decode cX6_readCoat 21 = .ok (.ifCond .ne 5, 3) := by decide +kernel
theorem dX6_readCoat_24 : decode cX6_readCoat 24 = .ok (.iconst 0, 1) := by decide +kernel
theorem dX6_readCoat_25 : decode cX6_readCoat 25 = .ok (.ireturn, 1) := by decide +kernel
theorem dX6_readCoat_26 : decode cX6_readCoat 26 = .ok (.aload_n 0, 1) := by decide +kernel
theorem dX6_readCoat_27 : decode cX6_readCoat 27 = .ok (.getfield 12, 3) := by decide +kernel
theorem dX6_readCoat_30 : decode cX6_readCoat 30 = .ok (.dup, 1) := by decide +kernel
theorem dX6_readCoat_31 : decode cX6_readCoat 31 = .ok (.getfield 104, 3) := by decide +kernel
theorem dX6_readCoat_34 : decode cX6_readCoat 34 = .ok (.iconst 1, 1) := by decide +kernel
theorem dX6_readCoat_35 : decode cX6_readCoat 35 = .ok (.aload_n 0, 1) := by decide +kernel
theorem dX6_readCoat_36 : decode cX6_readCoat 36 = .ok (.getfield 90, 3) := by decide +kernel
theorem dX6_readCoat_39 : decode cX6_readCoat 39 = .ok (.ishl, 1) := by decide +kernel
theorem dX6_readCoat_40 : decode cX6_readCoat 40 = .ok (.ior, 1) := by decide +kernel
theorem dX6_readCoat_41 : decode cX6_readCoat 41 = .ok (.putfield 104, 3) := by decide +kernel
theorem dX6_readCoat_44 : decode cX6_readCoat 44 = .ok (.iconst 1, 1) := by decide +kernel
theorem dX6_readCoat_45 : decode cX6_readCoat 45 = .ok (.ireturn, 1) := by decide +kernel
theorem dX6_readSit_0 : decode cX6_readSit 0 = .ok (.aload_n 0, 1) := by decide +kernel
theorem dX6_readSit_1 : decode cX6_readSit 1 = .ok (.iconst 0, 1) := by decide +kernel
theorem dX6_readSit_2 : decode cX6_readSit 2 = .ok (.aload_n 0, 1) := by decide +kernel
theorem dX6_readSit_3 : decode cX6_readSit 3 = .ok (.getfield 12, 3) := by decide +kernel
theorem dX6_readSit_6 : decode cX6_readSit 6 = .ok (.getfield 93, 3) := by decide +kernel
theorem dX6_readSit_9 : decode cX6_readSit 9 = .ok (.iconst 1, 1) := by decide +kernel
theorem dX6_readSit_10 : decode cX6_readSit 10 = .ok (.isub, 1) := by decide +kernel
theorem dX6_readSit_11 : decode cX6_readSit 11 = .ok (.invokevirtual 82, 3) := by decide +kernel
theorem dX6_readSit_14 : decode cX6_readSit 14 = .ok (.ifCond .eq 17, 3) := by decide +kernel
theorem dX6_readSit_17 : decode cX6_readSit 17 = .ok (.aload_n 0, 1) := by decide +kernel
theorem dX6_readSit_18 : decode cX6_readSit 18 = .ok (.getfield 12, 3) := by decide +kernel
theorem dX6_readSit_21 : decode cX6_readSit 21 = .ok (.aload_n 0, 1) := by decide +kernel
theorem dX6_readSit_22 : decode cX6_readSit 22 = .ok (.getfield 90, 3) := by decide +kernel
theorem dX6_readSit_25 : decode cX6_readSit 25 = .ok (.invokevirtual 107, 3) := by decide +kernel
theorem dX6_readSit_28 : decode cX6_readSit 28 = .ok (.ifCond .eq 5, 3) := by decide +kernel
theorem dX6_readSit_31 : decode cX6_readSit 31 = .ok (.iconst 0, 1) := by decide +kernel
theorem dX6_readSit_32 : decode cX6_readSit 32 = .ok (.ireturn, 1) := by decide +kernel
theorem dX6_readSit_33 : decode cX6_readSit 33 = .ok (.aload_n 0, 1) := by decide +kernel
theorem dX6_readSit_34 : decode cX6_readSit 34 = .ok (.getfield 90, 3) := by decide +kernel
theorem dX6_readSit_37 : decode cX6_readSit 37 = .ok (.istore_n 1, 1) := by decide +kernel
theorem dX6_readSit_38 : decode cX6_readSit 38 = .ok (.aload_n 0, 1) := by decide +kernel
theorem dX6_readSit_39 : decode cX6_readSit 39 = .ok (.iconst 0, 1) := by decide +kernel
theorem dX6_readSit_40 : decode cX6_readSit 40 = .ok (.bipush 29, 2) := by decide +kernel
theorem dX6_readSit_42 : decode cX6_readSit 42 = .ok (.invokevirtual 82, 3) := by decide +kernel
theorem dX6_readSit_45 : decode cX6_readSit 45 = .ok (.ifCond .eq 17, 3) := by decide +kernel
theorem dX6_readSit_48 : decode cX6_readSit 48 = .ok (.aload_n 0, 1) := by decide +kernel
theorem dX6_readSit_49 : decode cX6_readSit 49 = .ok (.getfield 12, 3) := by decide +kernel
theorem dX6_readSit_52 : decode cX6_readSit 52 = .ok (.aload_n 0, 1) := by decide +kernel
theorem dX6_readSit_53 : decode cX6_readSit 53 = .ok (.getfield 90, 3) := by decide +kernel
theorem dX6_readSit_56 : decode cX6_readSit 56 = .ok (.invokevirtual 100, 3) := by decide +kernel
theorem dX6_readSit_59 : decode cX6_readSit 59 = .ok (.ifCond .ne 5, 3) := by decide +kernel
theorem dX6_readSit_62 : decode cX6_readSit 62 = .ok (.iconst 0, 1) := by decide +kernel
theorem dX6_readSit_63 : decode cX6_readSit 63 = .ok (.ireturn, 1) := by decide +kernel
theorem dX6_readSit_64 : decode cX6_readSit 64 = .ok (.aload_n 0, 1) := by decide +kernel
theorem dX6_readSit_65 : decode cX6_readSit 65 = .ok (.getfield 12, 3) := by decide +kernel
theorem dX6_readSit_68 : decode cX6_readSit 68 = .ok (.iload_n 1, 1) := by decide +kernel
theorem dX6_readSit_69 : decode cX6_readSit 69 = .ok (.aload_n 0, 1) := by decide +kernel
theorem dX6_readSit_70 : decode cX6_readSit 70 = .ok (.getfield 90, 3) := by decide +kernel
theorem dX6_readSit_73 : decode cX6_readSit 73 = .ok (.invokevirtual 110, 3) := by decide +kernel
theorem dX6_readSit_76 : decode cX6_readSit 76 = .ok (.pop, 1) := by decide +kernel
theorem dX6_readSit_77 : decode cX6_readSit 77 = .ok (.iconst 1, 1) := by decide +kernel
theorem dX6_readSit_78 : decode cX6_readSit 78 = .ok (.ireturn, 1) := by decide +kernel
theorem dX6_readOut_0 : decode cX6_readOut 0 = .ok (.aload_n 0, 1) := by decide +kernel
theorem dX6_readOut_1 : decode cX6_readOut 1 = .ok (.iconst 0, 1) := by decide +kernel
theorem dX6_readOut_2 : decode cX6_readOut 2 = .ok (.aload_n 0, 1) := by decide +kernel
theorem dX6_readOut_3 : decode cX6_readOut 3 = .ok (.getfield 12, 3) := by decide +kernel
theorem dX6_readOut_6 : decode cX6_readOut 6 = .ok (.getfield 93, 3) := by decide +kernel
theorem dX6_readOut_9 : decode cX6_readOut 9 = .ok (.iconst 1, 1) := by decide +kernel
theorem dX6_readOut_10 : decode cX6_readOut 10 = .ok (.isub, 1) := by decide +kernel
theorem dX6_readOut_11 : decode cX6_readOut 11 = .ok (.invokevirtual 82, 3) := by decide +kernel
theorem dX6_readOut_14 : decode cX6_readOut 14 = .ok (.ifCond .eq 17, 3) := by decide +kernel
theorem dX6_readOut_17 : decode cX6_readOut 17 = .ok (.aload_n 0, 1) := by decide +kernel
theorem dX6_readOut_18 : decode cX6_readOut 18 = .ok (.getfield 12, 3) := by decide +kernel
theorem dX6_readOut_21 : decode cX6_readOut 21 = .ok (.aload_n 0, 1) := by decide +kernel
theorem dX6_readOut_22 : decode cX6_readOut 22 = .ok (.getfield 90, 3) := by decide +kernel
theorem dX6_readOut_25 : decode cX6_readOut 25 = .ok (.invokevirtual 107, 3) := by decide +kernel
theorem dX6_readOut_28 : decode cX6_readOut 28 = .ok (.ifCond .ne 5, 3) := by decide +kernel
theorem dX6_readOut_31 : decode cX6_readOut 31 = .ok (.iconst 0, 1) := by decide +kernel
theorem dX6_readOut_32 : decode cX6_readOut 32 = .ok (.ireturn, 1) := by decide +kernel
theorem dX6_readOut_33 : decode cX6_readOut 33 = .ok (.aload_n 0, 1) := by decide +kernel
theorem dX6_readOut_34 : decode cX6_readOut 34 = .ok (.getfield 12, 3) := by decide +kernel
theorem dX6_readOut_37 : decode cX6_readOut 37 = .ok (.aload_n 0, 1) := by decide +kernel
theorem dX6_readOut_38 : decode cX6_readOut 38 = .ok (.getfield 90, 3) := by decide +kernel
theorem dX6_readOut_41 : decode cX6_readOut 41 = .ok (.invokevirtual 113, 3) := by decide +kernel
theorem dX6_readOut_44 : decode cX6_readOut 44 = .ok (.pop, 1) := by decide +kernel
theorem dX6_readOut_45 : decode cX6_readOut 45 = .ok (.iconst 1, 1) := by decide +kernel
theorem dX6_readOut_46 : decode cX6_readOut 46 = .ok (.ireturn, 1) := by decide +kernel
theorem dX6_readMinutes_0 : decode cX6_readMinutes 0 = .ok (.aload_n 0, 1) := by decide +kernel
theorem dX6_readMinutes_1 : decode cX6_readMinutes 1 = .ok (.iconst 1, 1) := by decide +kernel
theorem dX6_readMinutes_2 : decode cX6_readMinutes 2 = .ok (.bipush 99, 2) := by decide +kernel
theorem dX6_readMinutes_4 : decode cX6_readMinutes 4 = .ok (.invokevirtual 82, 3) := by decide +kernel
theorem dX6_readMinutes_7 : decode cX6_readMinutes 7 = .ok (.ifCond .ne 5, 3) := by decide +kernel
theorem dX6_readMinutes_10 : decode cX6_readMinutes 10 = .ok (.iconst 0, 1) := by decide +kernel
theorem dX6_readMinutes_11 : decode cX6_readMinutes 11 = .ok (.ireturn, 1) := by decide +kernel
theorem dX6_readMinutes_12 : decode cX6_readMinutes 12 = .ok (.aload_n 0, 1) := by decide +kernel
theorem dX6_readMinutes_13 : decode cX6_readMinutes 13 = .ok (.getfield 12, 3) := by decide +kernel
theorem dX6_readMinutes_16 : decode cX6_readMinutes 16 = .ok (.sipush 9999, 3) := by decide +kernel
theorem dX6_readMinutes_19 : decode cX6_readMinutes 19 = .ok (.aload_n 0, 1) := by decide +kernel
theorem dX6_readMinutes_20 : decode cX6_readMinutes 20 = .ok (.getfield 12, 3) := by decide +kernel
theorem dX6_readMinutes_23 : decode cX6_readMinutes 23 = .ok (.getfield 117, 3) := by decide +kernel
theorem dX6_readMinutes_26 : decode cX6_readMinutes 26 = .ok (.aload_n 0, 1) := by decide +kernel
theorem dX6_readMinutes_27 : decode cX6_readMinutes 27 = .ok (.getfield 90, 3) := by decide +kernel
theorem dX6_readMinutes_30 : decode cX6_readMinutes 30 = .ok (.iadd, 1) := by decide +kernel
theorem dX6_readMinutes_31 : decode cX6_readMinutes 31 = .ok (.invokestatic 120, 3) := by decide +kernel
theorem dX6_readMinutes_34 : decode cX6_readMinutes 34 = .ok (.putfield 117, 3) := by decide +kernel
theorem dX6_readMinutes_37 : decode cX6_readMinutes 37 = .ok (.iconst 1, 1) := by decide +kernel
theorem dX6_readMinutes_38 : decode cX6_readMinutes 38 = .ok (.ireturn, 1) := by decide +kernel
theorem dX6_readNumber_0 : decode cX6_readNumber 0 = .ok (.aload_n 0, 1) := by decide +kernel
theorem dX6_readNumber_1 : decode cX6_readNumber 1 = .ok (.invokevirtual 32, 3) := by decide +kernel
theorem dX6_readNumber_4 : decode cX6_readNumber 4 = .ok (.aload_n 0, 1) := by decide +kernel
theorem dX6_readNumber_5 : decode cX6_readNumber 5 = .ok (.getfield 35, 3) := by decide +kernel
theorem dX6_readNumber_8 : decode cX6_readNumber 8 = .ok (.iconst 2, 1) := by decide +kernel
theorem dX6_readNumber_9 : decode cX6_readNumber 9 = .ok (.if_icmp .ne 23, 3) := by decide +kernel
theorem dX6_readNumber_12 : decode cX6_readNumber 12 = .ok (.aload_n 0, 1) := by decide +kernel
theorem dX6_readNumber_13 : decode cX6_readNumber 13 = .ok (.getfield 90, 3) := by decide +kernel
theorem dX6_readNumber_16 : decode cX6_readNumber 16 = .ok (.iload_n 1, 1) := by decide +kernel
theorem dX6_readNumber_17 : decode cX6_readNumber 17 = .ok (.if_icmp .lt 15, 3) := by decide +kernel
theorem dX6_readNumber_20 : decode cX6_readNumber 20 = .ok (.aload_n 0, 1) := by decide +kernel
theorem dX6_readNumber_21 : decode cX6_readNumber 21 = .ok (.getfield 90, 3) := by decide +kernel
theorem dX6_readNumber_24 : decode cX6_readNumber 24 = .ok (.iload_n 2, 1) := by decide +kernel
theorem dX6_readNumber_25 : decode cX6_readNumber 25 = .ok (.if_icmp .gt 7, 3) := by decide +kernel
theorem dX6_readNumber_28 : decode cX6_readNumber 28 = .ok (.iconst 1, 1) := by decide +kernel
theorem dX6_readNumber_29 : decode cX6_readNumber 29 = .ok (.goto 4, 3) := by decide +kernel
theorem dX6_readNumber_32 : decode cX6_readNumber 32 = .ok (.iconst 0, 1) := by decide +kernel
theorem dX6_readNumber_33 : decode cX6_readNumber 33 = .ok (.ireturn, 1) := by decide +kernel
theorem dX6_readStop_0 : decode cX6_readStop 0 = .ok (.aload_n 0, 1) := by decide +kernel
theorem dX6_readStop_1 : decode cX6_readStop 1 = .ok (.invokevirtual 32, 3) := by decide +kernel
theorem dX6_readStop_4 : decode cX6_readStop 4 = .ok (.aload_n 0, 1) := by decide +kernel
theorem dX6_readStop_5 : decode cX6_readStop 5 = .ok (.getfield 35, 3) := by decide +kernel
theorem dX6_readStop_8 : decode cX6_readStop 8 = .ok (.iconst 3, 1) := by decide +kernel
theorem dX6_readStop_9 : decode cX6_readStop 9 = .ok (.if_icmp .ne 7, 3) := by decide +kernel
theorem dX6_readStop_12 : decode cX6_readStop 12 = .ok (.iconst 1, 1) := by decide +kernel
theorem dX6_readStop_13 : decode cX6_readStop 13 = .ok (.goto 4, 3) := by decide +kernel
theorem dX6_readStop_16 : decode cX6_readStop 16 = .ok (.iconst 0, 1) := by decide +kernel
theorem dX6_readStop_17 : decode cX6_readStop 17 = .ok (.ireturn, 1) := by decide +kernel
theorem dX6_advance_0 : decode cX6_advance 0 = .ok (.aload_n 0, 1) := by decide +kernel
theorem dX6_advance_1 : decode cX6_advance 1 = .ok (.aload_n 0, 1) := by decide +kernel
theorem dX6_advance_2 : decode cX6_advance 2 = .ok (.getfield 29, 3) := by decide +kernel
theorem dX6_advance_5 : decode cX6_advance 5 = .ok (.putfield 46, 3) := by decide +kernel
theorem dX6_advance_8 : decode cX6_advance 8 = .ok (.aload_n 0, 1) := by decide +kernel
theorem dX6_advance_9 : decode cX6_advance 9 = .ok (.getfield 46, 3) := by decide +kernel
theorem dX6_advance_12 : decode cX6_advance 12 = .ok (.aload_n 0, 1) := by decide +kernel
theorem dX6_advance_13 : decode cX6_advance 13 = .ok (.getfield 22, 3) := by decide +kernel
theorem dX6_advance_16 : decode cX6_advance 16 = .ok (.if_icmp .ge 30, 3) := by decide +kernel
theorem dX6_advance_19 : decode cX6_advance 19 = .ok (.aload_n 0, 1) := by decide +kernel
theorem dX6_advance_20 : decode cX6_advance 20 = .ok (.getfield 18, 3) := by decide +kernel
theorem dX6_advance_23 : decode cX6_advance 23 = .ok (.aload_n 0, 1) := by decide +kernel
theorem dX6_advance_24 : decode cX6_advance 24 = .ok (.getfield 46, 3) := by decide +kernel
theorem dX6_advance_27 : decode cX6_advance 27 = .ok (.baload, 1) := by decide +kernel
theorem dX6_advance_28 : decode cX6_advance 28 = .ok (.bipush 32, 2) := by decide +kernel
theorem dX6_advance_30 : decode cX6_advance 30 = .ok (.if_icmp .ne 16, 3) := by decide +kernel
theorem dX6_advance_33 : decode cX6_advance 33 = .ok (.aload_n 0, 1) := by decide +kernel
theorem dX6_advance_34 : decode cX6_advance 34 = .ok (.dup, 1) := by decide +kernel
theorem dX6_advance_35 : decode cX6_advance 35 = .ok (.getfield 46, 3) := by decide +kernel
theorem dX6_advance_38 : decode cX6_advance 38 = .ok (.iconst 1, 1) := by decide +kernel
theorem dX6_advance_39 : decode cX6_advance 39 = .ok (.iadd, 1) := by decide +kernel
theorem dX6_advance_40 : decode cX6_advance 40 = .ok (.putfield 46, 3) := by decide +kernel
theorem dX6_advance_43 : decode cX6_advance 43 = .ok (.goto (-35), 3) := by decide +kernel
theorem dX6_advance_46 : decode cX6_advance 46 = .ok (.aload_n 0, 1) := by decide +kernel
theorem dX6_advance_47 : decode cX6_advance 47 = .ok (.aload_n 0, 1) := by decide +kernel
theorem dX6_advance_48 : decode cX6_advance 48 = .ok (.getfield 46, 3) := by decide +kernel
theorem dX6_advance_51 : decode cX6_advance 51 = .ok (.putfield 29, 3) := by decide +kernel
theorem dX6_advance_54 : decode cX6_advance 54 = .ok (.aload_n 0, 1) := by decide +kernel
theorem dX6_advance_55 : decode cX6_advance 55 = .ok (.getfield 46, 3) := by decide +kernel
theorem dX6_advance_58 : decode cX6_advance 58 = .ok (.aload_n 0, 1) := by decide +kernel
theorem dX6_advance_59 : decode cX6_advance 59 = .ok (.getfield 22, 3) := by decide +kernel
theorem dX6_advance_62 : decode cX6_advance 62 = .ok (.if_icmp .lt 11, 3) := by decide +kernel
theorem dX6_advance_65 : decode cX6_advance 65 = .ok (.aload_n 0, 1) := by decide +kernel
theorem dX6_advance_66 : decode cX6_advance 66 = .ok (.iconst 0, 1) := by decide +kernel
theorem dX6_advance_67 : decode cX6_advance 67 = .ok (.putfield 35, 3) := by decide +kernel
theorem dX6_advance_70 : decode cX6_advance 70 = .ok (.goto 117, 3) := by decide +kernel
theorem dX6_advance_73 : decode cX6_advance 73 = .ok (.aload_n 0, 1) := by decide +kernel
theorem dX6_advance_74 : decode cX6_advance 74 = .ok (.getfield 18, 3) := by decide +kernel
theorem dX6_advance_77 : decode cX6_advance 77 = .ok (.aload_n 0, 1) := by decide +kernel
theorem dX6_advance_78 : decode cX6_advance 78 = .ok (.getfield 46, 3) := by decide +kernel
theorem dX6_advance_81 : decode cX6_advance 81 = .ok (.baload, 1) := by decide +kernel
theorem dX6_advance_82 : decode cX6_advance 82 = .ok (.invokestatic 125, 3) := by decide +kernel
theorem dX6_advance_85 : decode cX6_advance 85 = .ok (.ifCond .eq 47, 3) := by decide +kernel
theorem dX6_advance_88 : decode cX6_advance 88 = .ok (.aload_n 0, 1) := by decide +kernel
theorem dX6_advance_89 : decode cX6_advance 89 = .ok (.iconst 1, 1) := by decide +kernel
theorem dX6_advance_90 : decode cX6_advance 90 = .ok (.putfield 35, 3) := by decide +kernel
theorem dX6_advance_93 : decode cX6_advance 93 = .ok (.aload_n 0, 1) := by decide +kernel
theorem dX6_advance_94 : decode cX6_advance 94 = .ok (.getfield 29, 3) := by decide +kernel
theorem dX6_advance_97 : decode cX6_advance 97 = .ok (.aload_n 0, 1) := by decide +kernel
theorem dX6_advance_98 : decode cX6_advance 98 = .ok (.getfield 22, 3) := by decide +kernel
theorem dX6_advance_101 : decode cX6_advance 101 = .ok (.if_icmp .ge 86, 3) := by decide +kernel
theorem dX6_advance_104 : decode cX6_advance 104 = .ok (.aload_n 0, 1) := by decide +kernel
theorem dX6_advance_105 : decode cX6_advance 105 = .ok (.getfield 18, 3) := by decide +kernel
theorem dX6_advance_108 : decode cX6_advance 108 = .ok (.aload_n 0, 1) := by decide +kernel
theorem dX6_advance_109 : decode cX6_advance 109 = .ok (.getfield 29, 3) := by decide +kernel
theorem dX6_advance_112 : decode cX6_advance 112 = .ok (.baload, 1) := by decide +kernel
theorem dX6_advance_113 : decode cX6_advance 113 = .ok (.invokestatic 125, 3) := by decide +kernel
theorem dX6_advance_116 : decode cX6_advance 116 = .ok (.ifCond .eq 71, 3) := by decide +kernel
theorem dX6_advance_119 : decode cX6_advance 119 = .ok (.aload_n 0, 1) := by decide +kernel
theorem dX6_advance_120 : decode cX6_advance 120 = .ok (.dup, 1) := by decide +kernel
theorem dX6_advance_121 : decode cX6_advance 121 = .ok (.getfield 29, 3) := by decide +kernel
theorem dX6_advance_124 : decode cX6_advance 124 = .ok (.iconst 1, 1) := by decide +kernel
theorem dX6_advance_125 : decode cX6_advance 125 = .ok (.iadd, 1) := by decide +kernel
theorem dX6_advance_126 : decode cX6_advance 126 = .ok (.putfield 29, 3) := by decide +kernel
theorem dX6_advance_129 : decode cX6_advance 129 = .ok (.goto (-36), 3) := by decide +kernel
theorem dX6_advance_132 : decode cX6_advance 132 = .ok (.aload_n 0, 1) := by decide +kernel
theorem dX6_advance_133 : decode cX6_advance 133 = .ok (.getfield 18, 3) := by decide +kernel
theorem dX6_advance_136 : decode cX6_advance 136 = .ok (.aload_n 0, 1) := by decide +kernel
theorem dX6_advance_137 : decode cX6_advance 137 = .ok (.getfield 46, 3) := by decide +kernel
theorem dX6_advance_140 : decode cX6_advance 140 = .ok (.baload, 1) := by decide +kernel
theorem dX6_advance_141 : decode cX6_advance 141 = .ok (.invokestatic 128, 3) := by decide +kernel
theorem dX6_advance_144 : decode cX6_advance 144 = .ok (.ifCond .eq 10, 3) := by decide +kernel
theorem dX6_advance_147 : decode cX6_advance 147 = .ok (.aload_n 0, 1) := by decide +kernel
theorem dX6_advance_148 : decode cX6_advance 148 = .ok (.invokevirtual 131, 3) := by decide +kernel
theorem dX6_advance_151 : decode cX6_advance 151 = .ok (.goto 36, 3) := by decide +kernel
theorem dX6_advance_154 : decode cX6_advance 154 = .ok (.aload_n 0, 1) := by decide +kernel
theorem dX6_advance_155 : decode cX6_advance 155 = .ok (.aload_n 0, 1) := by decide +kernel
theorem dX6_advance_156 : decode cX6_advance 156 = .ok (.getfield 18, 3) := by decide +kernel
theorem dX6_advance_159 : decode cX6_advance 159 = .ok (.aload_n 0, 1) := by decide +kernel
theorem dX6_advance_160 : decode cX6_advance 160 = .ok (.getfield 46, 3) := by decide +kernel
theorem dX6_advance_163 : decode cX6_advance 163 = .ok (.baload, 1) := by decide +kernel
theorem dX6_advance_164 : decode cX6_advance 164 = .ok (.bipush 59, 2) := by decide +kernel
theorem dX6_advance_166 : decode cX6_advance 166 = .ok (.if_icmp .ne 7, 3) := by decide +kernel
theorem dX6_advance_169 : decode cX6_advance 169 = .ok (.iconst 3, 1) := by decide +kernel
theorem dX6_advance_170 : decode cX6_advance 170 = .ok (.goto 4, 3) := by decide +kernel
theorem dX6_advance_173 : decode cX6_advance 173 = .ok (.iconst 4, 1) := by decide +kernel
theorem dX6_advance_174 : decode cX6_advance 174 = .ok (.putfield 35, 3) := by decide +kernel
theorem dX6_advance_177 : decode cX6_advance 177 = .ok (.aload_n 0, 1) := by decide +kernel
theorem dX6_advance_178 : decode cX6_advance 178 = .ok (.dup, 1) := by decide +kernel
theorem dX6_advance_179 : decode cX6_advance 179 = .ok (.getfield 29, 3) := by decide +kernel
theorem dX6_advance_182 : decode cX6_advance 182 = .ok (.iconst 1, 1) := by decide +kernel
theorem dX6_advance_183 : decode cX6_advance 183 = .ok (.iadd, 1) := by decide +kernel
theorem dX6_advance_184 : decode cX6_advance 184 = .ok (.putfield 29, 3) := by decide +kernel
theorem dX6_advance_187 : decode cX6_advance 187 = .ok (.return_, 1) := by decide +kernel
theorem dX6_takeFigures_0 : decode cX6_takeFigures 0 = .ok (.aload_n 0, 1) := by decide +kernel
theorem dX6_takeFigures_1 : decode cX6_takeFigures 1 = .ok (.iconst 0, 1) := by decide +kernel
theorem dX6_takeFigures_2 : decode cX6_takeFigures 2 = .ok (.putfield 90, 3) := by decide +kernel
theorem dX6_takeFigures_5 : decode cX6_takeFigures 5 = .ok (.aload_n 0, 1) := by decide +kernel
theorem dX6_takeFigures_6 : decode cX6_takeFigures 6 = .ok (.getfield 29, 3) := by decide +kernel
theorem dX6_takeFigures_9 : decode cX6_takeFigures 9 = .ok (.aload_n 0, 1) := by decide +kernel
theorem dX6_takeFigures_10 : decode cX6_takeFigures 10 = .ok (.getfield 22, 3) := by decide +kernel
theorem dX6_takeFigures_13 : decode cX6_takeFigures 13 = .ok (.if_icmp .ge 55, 3) := by decide +kernel
theorem dX6_takeFigures_16 : decode cX6_takeFigures 16 = .ok (.aload_n 0, 1) := by decide +kernel
theorem dX6_takeFigures_17 : decode cX6_takeFigures 17 = .ok (.getfield 18, 3) := by decide +kernel
theorem dX6_takeFigures_20 : decode cX6_takeFigures 20 = .ok (.aload_n 0, 1) := by decide +kernel
theorem dX6_takeFigures_21 : decode cX6_takeFigures 21 = .ok (.getfield 29, 3) := by decide +kernel
theorem dX6_takeFigures_24 : decode cX6_takeFigures 24 = .ok (.baload, 1) := by decide +kernel
theorem dX6_takeFigures_25 : decode cX6_takeFigures 25 = .ok (.invokestatic 128, 3) := by decide +kernel
theorem dX6_takeFigures_28 : decode cX6_takeFigures 28 = .ok (.ifCond .eq 40, 3) := by decide +kernel
theorem dX6_takeFigures_31 : decode cX6_takeFigures 31 = .ok (.aload_n 0, 1) := by decide +kernel
theorem dX6_takeFigures_32 : decode cX6_takeFigures 32 = .ok (.bipush 10, 2) := by decide +kernel
theorem dX6_takeFigures_34 : decode cX6_takeFigures 34 = .ok (.aload_n 0, 1) := by decide +kernel
theorem dX6_takeFigures_35 : decode cX6_takeFigures 35 = .ok (.getfield 90, 3) := by decide +kernel
theorem dX6_takeFigures_38 : decode cX6_takeFigures 38 = .ok (.imul, 1) := by decide +kernel
theorem dX6_takeFigures_39 : decode cX6_takeFigures 39 = .ok (.aload_n 0, 1) := by decide +kernel
theorem dX6_takeFigures_40 : decode cX6_takeFigures 40 = .ok (.getfield 18, 3) := by decide +kernel
theorem dX6_takeFigures_43 : decode cX6_takeFigures 43 = .ok (.aload_n 0, 1) := by decide +kernel
theorem dX6_takeFigures_44 : decode cX6_takeFigures 44 = .ok (.getfield 29, 3) := by decide +kernel
theorem dX6_takeFigures_47 : decode cX6_takeFigures 47 = .ok (.baload, 1) := by decide +kernel
theorem dX6_takeFigures_48 : decode cX6_takeFigures 48 = .ok (.iadd, 1) := by decide +kernel
theorem dX6_takeFigures_49 : decode cX6_takeFigures 49 = .ok (.bipush 48, 2) := by decide +kernel
theorem dX6_takeFigures_51 : decode cX6_takeFigures 51 = .ok (.isub, 1) := by decide +kernel
theorem dX6_takeFigures_52 : decode cX6_takeFigures 52 = .ok (.putfield 90, 3) := by decide +kernel
theorem dX6_takeFigures_55 : decode cX6_takeFigures 55 = .ok (.aload_n 0, 1) := by decide +kernel
theorem dX6_takeFigures_56 : decode cX6_takeFigures 56 = .ok (.dup, 1) := by decide +kernel
theorem dX6_takeFigures_57 : decode cX6_takeFigures 57 = .ok (.getfield 29, 3) := by decide +kernel
theorem dX6_takeFigures_60 : decode cX6_takeFigures 60 = .ok (.iconst 1, 1) := by decide +kernel
theorem dX6_takeFigures_61 : decode cX6_takeFigures 61 = .ok (.iadd, 1) := by decide +kernel
theorem dX6_takeFigures_62 : decode cX6_takeFigures 62 = .ok (.putfield 29, 3) := by decide +kernel
theorem dX6_takeFigures_65 : decode cX6_takeFigures 65 = .ok (.goto (-60), 3) := by decide +kernel
theorem dX6_takeFigures_68 : decode cX6_takeFigures 68 = .ok (.aload_n 0, 1) := by decide +kernel
theorem dX6_takeFigures_69 : decode cX6_takeFigures 69 = .ok (.aload_n 0, 1) := by decide +kernel
theorem dX6_takeFigures_70 : decode cX6_takeFigures 70 = .ok (.getfield 29, 3) := by decide +kernel
theorem dX6_takeFigures_73 : decode cX6_takeFigures 73 = .ok (.aload_n 0, 1) := by decide +kernel
theorem dX6_takeFigures_74 : decode cX6_takeFigures 74 = .ok (.getfield 46, 3) := by decide +kernel
theorem dX6_takeFigures_77 : decode cX6_takeFigures 77 = .ok (.isub, 1) := by decide +kernel
theorem dX6_takeFigures_78 : decode cX6_takeFigures 78 = .ok (.iconst 2, 1) := by decide +kernel
theorem dX6_takeFigures_79 : decode cX6_takeFigures 79 = .ok (.if_icmp .gt 7, 3) := by decide +kernel
theorem dX6_takeFigures_82 : decode cX6_takeFigures 82 = .ok (.iconst 2, 1) := by decide +kernel
theorem dX6_takeFigures_83 : decode cX6_takeFigures 83 = .ok (.goto 4, 3) := by decide +kernel
theorem dX6_takeFigures_86 : decode cX6_takeFigures 86 = .ok (.iconst 4, 1) := by decide +kernel
theorem dX6_takeFigures_87 : decode cX6_takeFigures 87 = .ok (.putfield 35, 3) := by decide +kernel
theorem dX6_takeFigures_90 : decode cX6_takeFigures 90 = .ok (.return_, 1) := by decide +kernel
theorem dX6_spells_0 : decode cX6_spells 0 = .ok (.aload_n 0, 1) := by decide +kernel
theorem dX6_spells_1 : decode cX6_spells 1 = .ok (.getfield 29, 3) := by decide +kernel
theorem dX6_spells_4 : decode cX6_spells 4 = .ok (.aload_n 0, 1) := by decide +kernel
theorem dX6_spells_5 : decode cX6_spells 5 = .ok (.getfield 46, 3) := by decide +kernel
theorem dX6_spells_8 : decode cX6_spells 8 = .ok (.isub, 1) := by decide +kernel
theorem dX6_spells_9 : decode cX6_spells 9 = .ok (.aload_n 1, 1) := by decide +kernel
theorem dX6_spells_10 : decode cX6_spells 10 = .ok (.invokevirtual 134, 3) := by decide +kernel
theorem dX6_spells_13 : decode cX6_spells 13 = .ok (.if_icmp .eq 5, 3) := by decide +kernel
theorem dX6_spells_16 : decode cX6_spells 16 = .ok (.iconst 0, 1) := by decide +kernel
theorem dX6_spells_17 : decode cX6_spells 17 = .ok (.ireturn, 1) := by decide +kernel
theorem dX6_spells_18 : decode cX6_spells 18 = .ok (.iconst 0, 1) := by decide +kernel
theorem dX6_spells_19 : decode cX6_spells 19 = .ok (.istore_n 2, 1) := by decide +kernel
theorem dX6_spells_20 : decode cX6_spells 20 = .ok (.iload_n 2, 1) := by decide +kernel
theorem dX6_spells_21 : decode cX6_spells 21 = .ok (.aload_n 1, 1) := by decide +kernel
theorem dX6_spells_22 : decode cX6_spells 22 = .ok (.invokevirtual 134, 3) := by decide +kernel
theorem dX6_spells_25 : decode cX6_spells 25 = .ok (.if_icmp .ge 30, 3) := by decide +kernel
theorem dX6_spells_28 : decode cX6_spells 28 = .ok (.aload_n 0, 1) := by decide +kernel
theorem dX6_spells_29 : decode cX6_spells 29 = .ok (.getfield 18, 3) := by decide +kernel
theorem dX6_spells_32 : decode cX6_spells 32 = .ok (.aload_n 0, 1) := by decide +kernel
theorem dX6_spells_33 : decode cX6_spells 33 = .ok (.getfield 46, 3) := by decide +kernel
theorem dX6_spells_36 : decode cX6_spells 36 = .ok (.iload_n 2, 1) := by decide +kernel
theorem dX6_spells_37 : decode cX6_spells 37 = .ok (.iadd, 1) := by decide +kernel
theorem dX6_spells_38 : decode cX6_spells 38 = .ok (.baload, 1) := by decide +kernel
theorem dX6_spells_39 : decode cX6_spells 39 = .ok (.aload_n 1, 1) := by decide +kernel
theorem dX6_spells_40 : decode cX6_spells 40 = .ok (.iload_n 2, 1) := by decide +kernel
theorem dX6_spells_41 : decode cX6_spells 41 = .ok (.invokevirtual 139, 3) := by decide +kernel
theorem dX6_spells_44 : decode cX6_spells 44 = .ok (.if_icmp .eq 5, 3) := by decide +kernel
theorem dX6_spells_47 : decode cX6_spells 47 = .ok (.iconst 0, 1) := by decide +kernel
theorem dX6_spells_48 : decode cX6_spells 48 = .ok (.ireturn, 1) := by decide +kernel
theorem dX6_spells_49 : decode cX6_spells 49 = .ok (.iinc 2 1, 3) := by decide +kernel
theorem dX6_spells_52 : decode cX6_spells 52 = .ok (.goto (-32), 3) := by decide +kernel
theorem dX6_spells_55 : decode cX6_spells 55 = .ok (.iconst 1, 1) := by decide +kernel
theorem dX6_spells_56 : decode cX6_spells 56 = .ok (.ireturn, 1) := by decide +kernel
theorem dX6_isLetter_0 : decode cX6_isLetter 0 = .ok (.iload_n 0, 1) := by decide +kernel
theorem dX6_isLetter_1 : decode cX6_isLetter 1 = .ok (.bipush 97, 2) := by decide +kernel
theorem dX6_isLetter_3 : decode cX6_isLetter 3 = .ok (.if_icmp .lt 13, 3) := by decide +kernel
theorem dX6_isLetter_6 : decode cX6_isLetter 6 = .ok (.iload_n 0, 1) := by decide +kernel
theorem dX6_isLetter_7 : decode cX6_isLetter 7 = .ok (.bipush 122, 2) := by decide +kernel
theorem dX6_isLetter_9 : decode cX6_isLetter 9 = .ok (.if_icmp .gt 7, 3) := by decide +kernel
theorem dX6_isLetter_12 : decode cX6_isLetter 12 = .ok (.iconst 1, 1) := by decide +kernel
theorem dX6_isLetter_13 : decode cX6_isLetter 13 = .ok (.goto 4, 3) := by decide +kernel
theorem dX6_isLetter_16 : decode cX6_isLetter 16 = .ok (.iconst 0, 1) := by decide +kernel
theorem dX6_isLetter_17 : decode cX6_isLetter 17 = .ok (.ireturn, 1) := by decide +kernel
theorem dX6_isFigure_0 : decode cX6_isFigure 0 = .ok (.iload_n 0, 1) := by decide +kernel
theorem dX6_isFigure_1 : decode cX6_isFigure 1 = .ok (.bipush 48, 2) := by decide +kernel
theorem dX6_isFigure_3 : decode cX6_isFigure 3 = .ok (.if_icmp .lt 13, 3) := by decide +kernel
theorem dX6_isFigure_6 : decode cX6_isFigure 6 = .ok (.iload_n 0, 1) := by decide +kernel
theorem dX6_isFigure_7 : decode cX6_isFigure 7 = .ok (.bipush 57, 2) := by decide +kernel
theorem dX6_isFigure_9 : decode cX6_isFigure 9 = .ok (.if_icmp .gt 7, 3) := by decide +kernel
theorem dX6_isFigure_12 : decode cX6_isFigure 12 = .ok (.iconst 1, 1) := by decide +kernel
theorem dX6_isFigure_13 : decode cX6_isFigure 13 = .ok (.goto 4, 3) := by decide +kernel
theorem dX6_isFigure_16 : decode cX6_isFigure 16 = .ok (.iconst 0, 1) := by decide +kernel
theorem dX6_isFigure_17 : decode cX6_isFigure 17 = .ok (.ireturn, 1) := by decide +kernel
end
section
theorem dX7_init_0 : decode cX7_init 0 = .ok (.aload_n 0, 1) := by decide +kernel
theorem dX7_init_1 : decode cX7_init 1 = .ok (.invokespecial 1, 3) := by decide +kernel
theorem dX7_init_4 : decode cX7_init 4 = .ok (.aload_n 0, 1) := by decide +kernel
theorem dX7_init_5 : decode cX7_init 5 = .ok (.new 7, 3) := by decide +kernel
theorem dX7_init_8 : decode cX7_init 8 = .ok (.dup, 1) := by decide +kernel
theorem dX7_init_9 : decode cX7_init 9 = .ok (.invokespecial 9, 3) := by decide +kernel
theorem dX7_init_12 : decode cX7_init 12 = .ok (.putfield 10, 3) := by decide +kernel
theorem dX7_init_15 : decode cX7_init 15 = .ok (.aload_n 0, 1) := by decide +kernel
theorem dX7_init_16 : decode cX7_init 16 = .ok (.new 7, 3) := by decide +kernel
theorem dX7_init_19 : decode cX7_init 19 = .ok (.dup, 1) := by decide +kernel
theorem dX7_init_20 : decode cX7_init 20 = .ok (.invokespecial 9, 3) := by decide +kernel
theorem dX7_init_23 : decode cX7_init 23 = .ok (.putfield 16, 3) := by decide +kernel
theorem dX7_init_26 : decode cX7_init 26 = .ok (.aload_n 0, 1) := by decide +kernel
theorem dX7_init_27 : decode cX7_init 27 = .ok (.iconst 2, 1) := by decide +kernel
theorem dX7_init_28 : decode cX7_init 28 = .ok (.anewarray 7, 3) := by decide +kernel
theorem dX7_init_31 : decode cX7_init 31 = .ok (.dup, 1) := by decide +kernel
theorem dX7_init_32 : decode cX7_init 32 = .ok (.iconst 0, 1) := by decide +kernel
theorem dX7_init_33 : decode cX7_init 33 = .ok (.new 7, 3) := by decide +kernel
theorem dX7_init_36 : decode cX7_init 36 = .ok (.dup, 1) := by decide +kernel
theorem dX7_init_37 : decode cX7_init 37 = .ok (.invokespecial 9, 3) := by decide +kernel
theorem dX7_init_40 : decode cX7_init 40 = .ok (.aastore, 1) := by decide +kernel
theorem dX7_init_41 : decode cX7_init 41 = .ok (.dup, 1) := by decide +kernel
theorem dX7_init_42 : decode cX7_init 42 = .ok (.iconst 1, 1) := by decide +kernel
theorem dX7_init_43 : decode cX7_init 43 = .ok (.new 7, 3) := by decide +kernel
theorem dX7_init_46 : decode cX7_init 46 = .ok (.dup, 1) := by decide +kernel
theorem dX7_init_47 : decode cX7_init 47 = .ok (.invokespecial 9, 3) := by decide +kernel
theorem dX7_init_50 : decode cX7_init 50 = .ok (.aastore, 1) := by decide +kernel
theorem dX7_init_51 : decode cX7_init 51 = .ok (.putfield 19, 3) := by decide +kernel
theorem dX7_init_54 : decode cX7_init 54 = .ok (.aload_n 0, 1) := by decide +kernel
theorem dX7_init_55 : decode cX7_init 55 = .ok (.iconst 2, 1) := by decide +kernel
theorem dX7_init_56 : decode cX7_init 56 = .ok (.newarray .boolean, 2) := by decide +kernel
theorem dX7_init_58 : decode cX7_init 58 = .ok (.putfield 23, 3) := by decide +kernel
theorem dX7_init_61 : decode cX7_init 61 = .ok (.aload_n 0, 1) := by decide +kernel
theorem dX7_init_62 : decode cX7_init 62 = .ok (.new 27, 3) := by decide +kernel
theorem dX7_init_65 : decode cX7_init 65 = .ok (.dup, 1) := by decide +kernel
theorem dX7_init_66 : decode cX7_init 66 = .ok (.invokespecial 29, 3) := by decide +kernel
theorem dX7_init_69 : decode cX7_init 69 = .ok (.putfield 30, 3) := by decide +kernel
theorem dX7_init_72 : decode cX7_init 72 = .ok (.aload_n 0, 1) := by decide +kernel
theorem dX7_init_73 : decode cX7_init 73 = .ok (.new 34, 3) := by decide +kernel
theorem dX7_init_76 : decode cX7_init 76 = .ok (.dup, 1) := by decide +kernel
theorem dX7_init_77 : decode cX7_init 77 = .ok (.invokespecial 36, 3) := by decide +kernel
theorem dX7_init_80 : decode cX7_init 80 = .ok (.putfield 37, 3) := by decide +kernel
theorem dX7_init_83 : decode cX7_init 83 = .ok (.aload_n 0, 1) := by decide +kernel
theorem dX7_init_84 : decode cX7_init 84 = .ok (.new 41, 3) := by decide +kernel
theorem dX7_init_87 : decode cX7_init 87 = .ok (.dup, 1) := by decide +kernel
theorem dX7_init_88 : decode cX7_init 88 = .ok (.invokespecial 43, 3) := by decide +kernel
theorem dX7_init_91 : decode cX7_init 91 = .ok (.putfield 44, 3) := by decide +kernel
theorem dX7_init_94 : decode cX7_init 94 = .ok (.aload_n 0, 1) := by decide +kernel
theorem dX7_init_95 : decode cX7_init 95 = .ok (.lconst 1, 1) := by decide +kernel
theorem dX7_init_96 : decode cX7_init 96 = .ok (.putfield 48, 3) := by decide +kernel
theorem dX7_init_99 : decode cX7_init 99 = .ok (.return_, 1) := by decide +kernel
theorem dX7_hall_0 : decode cX7_hall 0 = .ok (.aload_n 0, 1) := by decide +kernel
theorem dX7_hall_1 : decode cX7_hall 1 = .ok (.getfield 10, 3) := by decide +kernel
theorem dX7_hall_4 : decode cX7_hall 4 = .ok (.getfield 52, 3) := by decide +kernel
theorem dX7_hall_7 : decode cX7_hall 7 = .ok (.istore_n 1, 1) := by decide +kernel
theorem dX7_hall_8 : decode cX7_hall 8 = .ok (.aload_n 0, 1) := by decide +kernel
theorem dX7_hall_9 : decode cX7_hall 9 = .ok (.getfield 10, 3) := by decide +kernel
theorem dX7_hall_12 : decode cX7_hall 12 = .ok (.invokevirtual 56, 3) := by decide +kernel
theorem dX7_hall_15 : decode cX7_hall 15 = .ok (.iload_n 1, 1) := by decide +kernel
theorem dX7_hall_16 : decode cX7_hall 16 = .ok (.ireturn, 1) := by decide +kernel
theorem dX7_row_0 : decode cX7_row 0 = .ok (.iload_n 1, 1) := by decide +kernel
theorem dX7_row_1 : decode cX7_row 1 = .ok (.iconst 5, 1) := by decide +kernel
theorem dX7_row_2 : decode cX7_row 2 = .ok (.invokestatic 59, 3) := by decide +kernel
theorem dX7_row_5 : decode cX7_row 5 = .ok (.ifCond .eq 12, 3) := by decide +kernel
theorem dX7_row_8 : decode cX7_row 8 = .ok (.iload_n 2, 1) := by decide +kernel
theorem dX7_row_9 : decode cX7_row 9 = .ok (.bipush 6, 2) := by decide +kernel
theorem dX7_row_11 : decode cX7_row 11 = .ok (.invokestatic 59, 3) := by decide +kernel
theorem dX7_row_14 : decode cX7_row 14 = .ok (.ifCond .ne 10, 3) := by decide +kernel
theorem dX7_row_17 : decode cX7_row 17 = .ok (.aload_n 0, 1) := by decide +kernel
theorem dX7_row_18 : decode cX7_row 18 = .ok (.bipush (-2), 2) := by decide +kernel
theorem dX7_row_20 : decode cX7_row 20 = .ok (.invokevirtual 63, 3) := by decide +kernel
theorem dX7_row_23 : decode cX7_row 23 = .ok (.ireturn, 1) := by decide +kernel
theorem dX7_row_24 : decode cX7_row 24 = .ok (.aload_n 0, 1) := by decide +kernel
theorem dX7_row_25 : decode cX7_row 25 = .ok (.getfield 10, 3) := by decide +kernel
theorem dX7_row_28 : decode cX7_row 28 = .ok (.getfield 67, 3) := by decide +kernel
theorem dX7_row_31 : decode cX7_row 31 = .ok (.iload_n 1, 1) := by decide +kernel
theorem dX7_row_32 : decode cX7_row 32 = .ok (.iaload, 1) := by decide +kernel
theorem dX7_row_33 : decode cX7_row 33 = .ok (.istore_n 3, 1) := by decide +kernel
theorem dX7_row_34 : decode cX7_row 34 = .ok (.aload_n 0, 1) := by decide +kernel
theorem dX7_row_35 : decode cX7_row 35 = .ok (.getfield 10, 3) := by decide +kernel
theorem dX7_row_38 : decode cX7_row 38 = .ok (.getfield 67, 3) := by decide +kernel
theorem dX7_row_41 : decode cX7_row 41 = .ok (.iload_n 1, 1) := by decide +kernel
theorem dX7_row_42 : decode cX7_row 42 = .ok (.iload_n 2, 1) := by decide +kernel
theorem dX7_row_43 : decode cX7_row 43 = .ok (.iastore, 1) := by decide +kernel
theorem dX7_row_44 : decode cX7_row 44 = .ok (.aload_n 0, 1) := by decide +kernel
theorem dX7_row_45 : decode cX7_row 45 = .ok (.getfield 10, 3) := by decide +kernel
theorem dX7_row_48 : decode cX7_row 48 = .ok (.getfield 71, 3) := by decide +kernel
theorem dX7_row_51 : decode cX7_row 51 = .ok (.invokevirtual 75, 3) := by decide +kernel
theorem dX7_row_54 : decode cX7_row 54 = .ok (.pop, 1) := by decide +kernel
theorem dX7_row_55 : decode cX7_row 55 = .ok (.iload_n 3, 1) := by decide +kernel
theorem dX7_row_56 : decode cX7_row 56 = .ok (.ireturn, 1) := by decide +kernel
theorem dX7_soul_0 : decode cX7_soul 0 = .ok (.iload_n 1, 1) := by decide +kernel
theorem dX7_soul_1 : decode cX7_soul 1 = .ok (.bipush 6, 2) := by decide +kernel
theorem dX7_soul_3 : decode cX7_soul 3 = .ok (.invokestatic 59, 3) := by decide +kernel
theorem dX7_soul_6 : decode cX7_soul 6 = .ok (.ifCond .eq 12, 3) := by decide +kernel
theorem dX7_soul_9 : decode cX7_soul 9 = .ok (.iload_n 2, 1) := by decide +kernel
theorem dX7_soul_10 : decode cX7_soul 10 = .ok (.bipush 30, 2) := by decide +kernel
theorem dX7_soul_12 : decode cX7_soul 12 = .ok (.invokestatic 59, 3) := by decide +kernel
theorem dX7_soul_15 : decode cX7_soul 15 = .ok (.ifCond .ne 10, 3) := by decide +kernel
theorem dX7_soul_18 : decode cX7_soul 18 = .ok (.aload_n 0, 1) := by decide +kernel
theorem dX7_soul_19 : decode cX7_soul 19 = .ok (.bipush (-2), 2) := by decide +kernel
theorem dX7_soul_21 : decode cX7_soul 21 = .ok (.invokevirtual 63, 3) := by decide +kernel
theorem dX7_soul_24 : decode cX7_soul 24 = .ok (.ireturn, 1) := by decide +kernel
theorem dX7_soul_25 : decode cX7_soul 25 = .ok (.aload_n 0, 1) := by decide +kernel
theorem dX7_soul_26 : decode cX7_soul 26 = .ok (.getfield 10, 3) := by decide +kernel
theorem dX7_soul_29 : decode cX7_soul 29 = .ok (.getfield 52, 3) := by decide +kernel
theorem dX7_soul_32 : decode cX7_soul 32 = .ok (.bipush 7, 2) := by decide +kernel
theorem dX7_soul_34 : decode cX7_soul 34 = .ok (.if_icmp .lt 8, 3) := by decide +kernel
theorem dX7_soul_37 : decode cX7_soul 37 = .ok (.aload_n 0, 1) := by decide +kernel
theorem dX7_soul_38 : decode cX7_soul 38 = .ok (.invokevirtual 81, 3) := by decide +kernel
theorem dX7_soul_41 : decode cX7_soul 41 = .ok (.ireturn, 1) := by decide +kernel
theorem dX7_soul_42 : decode cX7_soul 42 = .ok (.aload_n 0, 1) := by decide +kernel
theorem dX7_soul_43 : decode cX7_soul 43 = .ok (.getfield 10, 3) := by decide +kernel
theorem dX7_soul_46 : decode cX7_soul 46 = .ok (.getfield 71, 3) := by decide +kernel
theorem dX7_soul_49 : decode cX7_soul 49 = .ok (.invokevirtual 75, 3) := by decide +kernel
theorem dX7_soul_52 : decode cX7_soul 52 = .ok (.pop, 1) := by decide +kernel
theorem dX7_soul_53 : decode cX7_soul 53 = .ok (.aload_n 0, 1) := by decide +kernel
theorem dX7_soul_54 : decode cX7_soul 54 = .ok (.getfield 10, 3) := by decide +kernel
theorem dX7_soul_57 : decode cX7_soul 57 = .ok (.iload_n 1, 1) := by decide +kernel
theorem dX7_soul_58 : decode cX7_soul 58 = .ok (.iload_n 2, 1) := by decide +kernel
theorem dX7_soul_59 : decode cX7_soul 59 = .ok (.invokevirtual 84, 3) := by decide +kernel
theorem dX7_soul_62 : decode cX7_soul 62 = .ok (.ireturn, 1) := by decide +kernel
theorem dX7_type_0 : decode cX7_type 0 = .ok (.iload_n 1, 1) := by decide +kernel
theorem dX7_type_1 : decode cX7_type 1 = .ok (.ifCond .lt 9, 3) := by decide +kernel
theorem dX7_type_4 : decode cX7_type 4 = .ok (.iload_n 1, 1) := by decide +kernel
theorem dX7_type_5 : decode cX7_type 5 = .ok (.bipush 127, 2) := by decide +kernel
theorem dX7_type_7 : decode cX7_type 7 = .ok (.if_icmp .le 10, 3) := by decide +kernel
theorem dX7_type_10 : decode cX7_type 10 = .ok (.aload_n 0, 1) := by decide +kernel
theorem dX7_type_11 : decode cX7_type 11 = .ok (.bipush (-2), 2) := by decide +kernel
theorem dX7_type_13 : decode cX7_type 13 = .ok (.invokevirtual 63, 3) := by decide +kernel
theorem dX7_type_16 : decode cX7_type 16 = .ok (.ireturn, 1) := by decide +kernel
theorem dX7_type_17 : decode cX7_type 17 = .ok (.aload_n 0, 1) := by decide +kernel
theorem dX7_type_18 : decode cX7_type 18 = .ok (.getfield 30, 3) := by decide +kernel
theorem dX7_type_21 : decode cX7_type 21 = .ok (.invokevirtual 88, 3) := by decide +kernel
theorem dX7_type_24 : decode cX7_type 24 = .ok (.ifCond .eq 10, 3) := by decide +kernel
theorem dX7_type_27 : decode cX7_type 27 = .ok (.aload_n 0, 1) := by decide +kernel
theorem dX7_type_28 : decode cX7_type 28 = .ok (.invokevirtual 81, 3) := by decide +kernel
theorem dX7_type_31 : decode cX7_type 31 = .ok (.goto 11, 3) := by decide +kernel
theorem dX7_type_34 : decode cX7_type 34 = .ok (.aload_n 0, 1) := by decide +kernel
theorem dX7_type_35 : decode cX7_type 35 = .ok (.getfield 30, 3) := by decide +kernel
theorem dX7_type_38 : decode cX7_type 38 = .ok (.iload_n 1, 1) := by decide +kernel
theorem dX7_type_39 : decode cX7_type 39 = .ok (.invokevirtual 92, 3) := by decide +kernel
theorem dX7_type_42 : decode cX7_type 42 = .ok (.ireturn, 1) := by decide +kernel
theorem dX7_clear_0 : decode cX7_clear 0 = .ok (.aload_n 0, 1) := by decide +kernel
theorem dX7_clear_1 : decode cX7_clear 1 = .ok (.getfield 30, 3) := by decide +kernel
theorem dX7_clear_4 : decode cX7_clear 4 = .ok (.invokevirtual 95, 3) := by decide +kernel
theorem dX7_clear_7 : decode cX7_clear 7 = .ok (.ireturn, 1) := by decide +kernel
theorem dX7_read_0 : decode cX7_read 0 = .ok (.aload_n 0, 1) := by decide +kernel
theorem dX7_read_1 : decode cX7_read 1 = .ok (.getfield 30, 3) := by decide +kernel
theorem dX7_read_4 : decode cX7_read 4 = .ok (.invokevirtual 96, 3) := by decide +kernel
theorem dX7_read_7 : decode cX7_read 7 = .ok (.istore_n 1, 1) := by decide +kernel
theorem dX7_read_8 : decode cX7_read 8 = .ok (.iload_n 1, 1) := by decide +kernel
theorem dX7_read_9 : decode cX7_read 9 = .ok (.ifCond .le 17, 3) := by decide +kernel
theorem dX7_read_12 : decode cX7_read 12 = .ok (.aload_n 0, 1) := by decide +kernel
theorem dX7_read_13 : decode cX7_read 13 = .ok (.getfield 10, 3) := by decide +kernel
theorem dX7_read_16 : decode cX7_read 16 = .ok (.aload_n 0, 1) := by decide +kernel
theorem dX7_read_17 : decode cX7_read 17 = .ok (.getfield 30, 3) := by decide +kernel
theorem dX7_read_20 : decode cX7_read 20 = .ok (.getfield 99, 3) := by decide +kernel
theorem dX7_read_23 : decode cX7_read 23 = .ok (.invokevirtual 102, 3) := by decide +kernel
theorem dX7_read_26 : decode cX7_read 26 = .ok (.iload_n 1, 1) := by decide +kernel
theorem dX7_read_27 : decode cX7_read 27 = .ok (.ireturn, 1) := by decide +kernel
theorem dX7_shows_0 : decode cX7_shows 0 = .ok (.aload_n 0, 1) := by decide +kernel
theorem dX7_shows_1 : decode cX7_shows 1 = .ok (.getfield 10, 3) := by decide +kernel
theorem dX7_shows_4 : decode cX7_shows 4 = .ok (.iload_n 1, 1) := by decide +kernel
theorem dX7_shows_5 : decode cX7_shows 5 = .ok (.invokevirtual 106, 3) := by decide +kernel
theorem dX7_shows_8 : decode cX7_shows 8 = .ok (.ifCond .eq 12, 3) := by decide +kernel
theorem dX7_shows_11 : decode cX7_shows 11 = .ok (.iload_n 2, 1) := by decide +kernel
theorem dX7_shows_12 : decode cX7_shows 12 = .ok (.bipush 30, 2) := by decide +kernel
theorem dX7_shows_14 : decode cX7_shows 14 = .ok (.invokestatic 59, 3) := by decide +kernel
theorem dX7_shows_17 : decode cX7_shows 17 = .ok (.ifCond .ne 10, 3) := by decide +kernel
theorem dX7_shows_20 : decode cX7_shows 20 = .ok (.aload_n 0, 1) := by decide +kernel
theorem dX7_shows_21 : decode cX7_shows 21 = .ok (.bipush (-2), 2) := by decide +kernel
theorem dX7_shows_23 : decode cX7_shows 23 = .ok (.invokevirtual 63, 3) := by decide +kernel
theorem dX7_shows_26 : decode cX7_shows 26 = .ok (.ireturn, 1) := by decide +kernel
theorem dX7_shows_27 : decode cX7_shows 27 = .ok (.aload_n 0, 1) := by decide +kernel
theorem dX7_shows_28 : decode cX7_shows 28 = .ok (.getfield 10, 3) := by decide +kernel
theorem dX7_shows_31 : decode cX7_shows 31 = .ok (.iload_n 1, 1) := by decide +kernel
theorem dX7_shows_32 : decode cX7_shows 32 = .ok (.invokevirtual 110, 3) := by decide +kernel
theorem dX7_shows_35 : decode cX7_shows 35 = .ok (.ifCond .ne 27, 3) := by decide +kernel
theorem dX7_shows_38 : decode cX7_shows 38 = .ok (.aload_n 0, 1) := by decide +kernel
theorem dX7_shows_39 : decode cX7_shows 39 = .ok (.getfield 10, 3) := by decide +kernel
theorem dX7_shows_42 : decode cX7_shows 42 = .ok (.iload_n 2, 1) := by decide +kernel
theorem dX7_shows_43 : decode cX7_shows 43 = .ok (.invokevirtual 113, 3) := by decide +kernel
theorem dX7_shows_46 : decode cX7_shows 46 = .ok (.ifCond .eq 16, 3) := by decide +kernel
theorem dX7_shows_49 : decode cX7_shows 49 = .ok (.aload_n 0, 1) := by decide +kernel
theorem dX7_shows_50 : decode cX7_shows 50 = .ok (.getfield 10, 3) := by decide +kernel
theorem dX7_shows_53 : decode cX7_shows 53 = .ok (.getfield 116, 3) := by decide +kernel
theorem dX7_shows_56 : decode cX7_shows 56 = .ok (.sipush 9999, 3) := by decide +kernel
theorem dX7_shows_59 : decode cX7_shows 59 = .ok (.if_icmp .lt 10, 3) := by decide +kernel
theorem dX7_shows_62 : decode cX7_shows 62 = .ok (.aload_n 0, 1) := by decide +kernel
theorem dX7_shows_63 : decode cX7_shows 63 = .ok (.bipush (-3), 2) := by decide +kernel
theorem dX7_shows_65 : decode cX7_shows 65 = .ok (.invokevirtual 119, 3) := by decide +kernel
theorem dX7_shows_68 : decode cX7_shows 68 = .ok (.ireturn, 1) := by decide +kernel
theorem dX7_shows_69 : decode cX7_shows 69 = .ok (.aload_n 0, 1) := by decide +kernel
theorem dX7_shows_70 : decode cX7_shows 70 = .ok (.getfield 10, 3) := by decide +kernel
theorem dX7_shows_73 : decode cX7_shows 73 = .ok (.invokevirtual 122, 3) := by decide +kernel
theorem dX7_shows_76 : decode cX7_shows 76 = .ok (.aload_n 0, 1) := by decide +kernel
theorem dX7_shows_77 : decode cX7_shows 77 = .ok (.getfield 10, 3) := by decide +kernel
theorem dX7_shows_80 : decode cX7_shows 80 = .ok (.iload_n 1, 1) := by decide +kernel
theorem dX7_shows_81 : decode cX7_shows 81 = .ok (.iload_n 2, 1) := by decide +kernel
theorem dX7_shows_82 : decode cX7_shows 82 = .ok (.invokevirtual 125, 3) := by decide +kernel
theorem dX7_shows_85 : decode cX7_shows 85 = .ok (.ireturn, 1) := by decide +kernel
theorem dX7_moves_0 : decode cX7_moves 0 = .ok (.aload_n 0, 1) := by decide +kernel
theorem dX7_moves_1 : decode cX7_moves 1 = .ok (.getfield 10, 3) := by decide +kernel
theorem dX7_moves_4 : decode cX7_moves 4 = .ok (.iload_n 1, 1) := by decide +kernel
theorem dX7_moves_5 : decode cX7_moves 5 = .ok (.invokevirtual 106, 3) := by decide +kernel
theorem dX7_moves_8 : decode cX7_moves 8 = .ok (.ifCond .eq 12, 3) := by decide +kernel
theorem dX7_moves_11 : decode cX7_moves 11 = .ok (.iload_n 2, 1) := by decide +kernel
theorem dX7_moves_12 : decode cX7_moves 12 = .ok (.bipush 30, 2) := by decide +kernel
theorem dX7_moves_14 : decode cX7_moves 14 = .ok (.invokestatic 59, 3) := by decide +kernel
theorem dX7_moves_17 : decode cX7_moves 17 = .ok (.ifCond .ne 10, 3) := by decide +kernel
theorem dX7_moves_20 : decode cX7_moves 20 = .ok (.aload_n 0, 1) := by decide +kernel
theorem dX7_moves_21 : decode cX7_moves 21 = .ok (.bipush (-2), 2) := by decide +kernel
theorem dX7_moves_23 : decode cX7_moves 23 = .ok (.invokevirtual 63, 3) := by decide +kernel
theorem dX7_moves_26 : decode cX7_moves 26 = .ok (.ireturn, 1) := by decide +kernel
theorem dX7_moves_27 : decode cX7_moves 27 = .ok (.aload_n 0, 1) := by decide +kernel
theorem dX7_moves_28 : decode cX7_moves 28 = .ok (.getfield 10, 3) := by decide +kernel
theorem dX7_moves_31 : decode cX7_moves 31 = .ok (.iload_n 1, 1) := by decide +kernel
theorem dX7_moves_32 : decode cX7_moves 32 = .ok (.invokevirtual 110, 3) := by decide +kernel
theorem dX7_moves_35 : decode cX7_moves 35 = .ok (.ifCond .eq 27, 3) := by decide +kernel
theorem dX7_moves_38 : decode cX7_moves 38 = .ok (.aload_n 0, 1) := by decide +kernel
theorem dX7_moves_39 : decode cX7_moves 39 = .ok (.getfield 10, 3) := by decide +kernel
theorem dX7_moves_42 : decode cX7_moves 42 = .ok (.iload_n 2, 1) := by decide +kernel
theorem dX7_moves_43 : decode cX7_moves 43 = .ok (.invokevirtual 113, 3) := by decide +kernel
theorem dX7_moves_46 : decode cX7_moves 46 = .ok (.ifCond .eq 16, 3) := by decide +kernel
theorem dX7_moves_49 : decode cX7_moves 49 = .ok (.aload_n 0, 1) := by decide +kernel
theorem dX7_moves_50 : decode cX7_moves 50 = .ok (.getfield 10, 3) := by decide +kernel
theorem dX7_moves_53 : decode cX7_moves 53 = .ok (.getfield 116, 3) := by decide +kernel
theorem dX7_moves_56 : decode cX7_moves 56 = .ok (.sipush 9999, 3) := by decide +kernel
theorem dX7_moves_59 : decode cX7_moves 59 = .ok (.if_icmp .lt 10, 3) := by decide +kernel
theorem dX7_moves_62 : decode cX7_moves 62 = .ok (.aload_n 0, 1) := by decide +kernel
theorem dX7_moves_63 : decode cX7_moves 63 = .ok (.bipush (-3), 2) := by decide +kernel
theorem dX7_moves_65 : decode cX7_moves 65 = .ok (.invokevirtual 119, 3) := by decide +kernel
theorem dX7_moves_68 : decode cX7_moves 68 = .ok (.ireturn, 1) := by decide +kernel
theorem dX7_moves_69 : decode cX7_moves 69 = .ok (.aload_n 0, 1) := by decide +kernel
theorem dX7_moves_70 : decode cX7_moves 70 = .ok (.getfield 10, 3) := by decide +kernel
theorem dX7_moves_73 : decode cX7_moves 73 = .ok (.invokevirtual 122, 3) := by decide +kernel
theorem dX7_moves_76 : decode cX7_moves 76 = .ok (.aload_n 0, 1) := by decide +kernel
theorem dX7_moves_77 : decode cX7_moves 77 = .ok (.getfield 10, 3) := by decide +kernel
theorem dX7_moves_80 : decode cX7_moves 80 = .ok (.iload_n 1, 1) := by decide +kernel
theorem dX7_moves_81 : decode cX7_moves 81 = .ok (.iload_n 2, 1) := by decide +kernel
theorem dX7_moves_82 : decode cX7_moves 82 = .ok (.invokevirtual 128, 3) := by decide +kernel
theorem dX7_moves_85 : decode cX7_moves 85 = .ok (.ireturn, 1) := by decide +kernel
theorem dX7_sends_0 : decode cX7_sends 0 = .ok (.aload_n 0, 1) := by decide +kernel
theorem dX7_sends_1 : decode cX7_sends 1 = .ok (.getfield 10, 3) := by decide +kernel
theorem dX7_sends_4 : decode cX7_sends 4 = .ok (.iload_n 1, 1) := by decide +kernel
theorem dX7_sends_5 : decode cX7_sends 5 = .ok (.invokevirtual 106, 3) := by decide +kernel
theorem dX7_sends_8 : decode cX7_sends 8 = .ok (.ifCond .ne 10, 3) := by decide +kernel
theorem dX7_sends_11 : decode cX7_sends 11 = .ok (.aload_n 0, 1) := by decide +kernel
theorem dX7_sends_12 : decode cX7_sends 12 = .ok (.bipush (-2), 2) := by decide +kernel
theorem dX7_sends_14 : decode cX7_sends 14 = .ok (.invokevirtual 63, 3) := by decide +kernel
theorem dX7_sends_17 : decode cX7_sends 17 = .ok (.ireturn, 1) := by decide +kernel
theorem dX7_sends_18 : decode cX7_sends 18 = .ok (.aload_n 0, 1) := by decide +kernel
theorem dX7_sends_19 : decode cX7_sends 19 = .ok (.getfield 10, 3) := by decide +kernel
theorem dX7_sends_22 : decode cX7_sends 22 = .ok (.iload_n 1, 1) := by decide +kernel
theorem dX7_sends_23 : decode cX7_sends 23 = .ok (.invokevirtual 110, 3) := by decide +kernel
theorem dX7_sends_26 : decode cX7_sends 26 = .ok (.ifCond .eq 16, 3) := by decide +kernel
theorem dX7_sends_29 : decode cX7_sends 29 = .ok (.aload_n 0, 1) := by decide +kernel
theorem dX7_sends_30 : decode cX7_sends 30 = .ok (.getfield 10, 3) := by decide +kernel
theorem dX7_sends_33 : decode cX7_sends 33 = .ok (.getfield 116, 3) := by decide +kernel
theorem dX7_sends_36 : decode cX7_sends 36 = .ok (.sipush 9999, 3) := by decide +kernel
theorem dX7_sends_39 : decode cX7_sends 39 = .ok (.if_icmp .lt 10, 3) := by decide +kernel
theorem dX7_sends_42 : decode cX7_sends 42 = .ok (.aload_n 0, 1) := by decide +kernel
theorem dX7_sends_43 : decode cX7_sends 43 = .ok (.bipush (-3), 2) := by decide +kernel
theorem dX7_sends_45 : decode cX7_sends 45 = .ok (.invokevirtual 119, 3) := by decide +kernel
theorem dX7_sends_48 : decode cX7_sends 48 = .ok (.ireturn, 1) := by decide +kernel
theorem dX7_sends_49 : decode cX7_sends 49 = .ok (.aload_n 0, 1) := by decide +kernel
theorem dX7_sends_50 : decode cX7_sends 50 = .ok (.getfield 10, 3) := by decide +kernel
theorem dX7_sends_53 : decode cX7_sends 53 = .ok (.invokevirtual 122, 3) := by decide +kernel
theorem dX7_sends_56 : decode cX7_sends 56 = .ok (.aload_n 0, 1) := by decide +kernel
theorem dX7_sends_57 : decode cX7_sends 57 = .ok (.getfield 10, 3) := by decide +kernel
theorem dX7_sends_60 : decode cX7_sends 60 = .ok (.iload_n 1, 1) := by decide +kernel
theorem dX7_sends_61 : decode cX7_sends 61 = .ok (.invokevirtual 131, 3) := by decide +kernel
theorem dX7_sends_64 : decode cX7_sends 64 = .ok (.ireturn, 1) := by decide +kernel
theorem dX7_coat_0 : decode cX7_coat 0 = .ok (.iload_n 1, 1) := by decide +kernel
theorem dX7_coat_1 : decode cX7_coat 1 = .ok (.bipush 30, 2) := by decide +kernel
theorem dX7_coat_3 : decode cX7_coat 3 = .ok (.invokestatic 59, 3) := by decide +kernel
theorem dX7_coat_6 : decode cX7_coat 6 = .ok (.ifCond .eq 11, 3) := by decide +kernel
theorem dX7_coat_9 : decode cX7_coat 9 = .ok (.iload_n 2, 1) := by decide +kernel
theorem dX7_coat_10 : decode cX7_coat 10 = .ok (.iconst 2, 1) := by decide +kernel
theorem dX7_coat_11 : decode cX7_coat 11 = .ok (.invokestatic 59, 3) := by decide +kernel
theorem dX7_coat_14 : decode cX7_coat 14 = .ok (.ifCond .ne 10, 3) := by decide +kernel
theorem dX7_coat_17 : decode cX7_coat 17 = .ok (.aload_n 0, 1) := by decide +kernel
theorem dX7_coat_18 : decode cX7_coat 18 = .ok (.bipush (-2), 2) := by decide +kernel
theorem dX7_coat_20 : decode cX7_coat 20 = .ok (.invokevirtual 63, 3) := by decide +kernel
theorem dX7_coat_23 : decode cX7_coat 23 = .ok (.ireturn, 1) := by decide +kernel
theorem dX7_coat_24 : decode cX7_coat 24 = .ok (.aload_n 0, 1) := by decide +kernel
theorem dX7_coat_25 : decode cX7_coat 25 = .ok (.getfield 10, 3) := by decide +kernel
theorem dX7_coat_28 : decode cX7_coat 28 = .ok (.iload_n 1, 1) := by decide +kernel
theorem dX7_coat_29 : decode cX7_coat 29 = .ok (.invokevirtual 134, 3) := by decide +kernel
theorem dX7_coat_32 : decode cX7_coat 32 = .ok (.iload_n 2, 1) := by decide +kernel
theorem dX7_coat_33 : decode cX7_coat 33 = .ok (.iconst 1, 1) := by decide +kernel
theorem dX7_coat_34 : decode cX7_coat 34 = .ok (.if_icmp .ne 7, 3) := by decide +kernel
theorem dX7_coat_37 : decode cX7_coat 37 = .ok (.iconst 1, 1) := by decide +kernel
theorem dX7_coat_38 : decode cX7_coat 38 = .ok (.goto 4, 3) := by decide +kernel
theorem dX7_coat_41 : decode cX7_coat 41 = .ok (.iconst 0, 1) := by decide +kernel
theorem dX7_coat_42 : decode cX7_coat 42 = .ok (.if_icmp .eq 15, 3) := by decide +kernel
theorem dX7_coat_45 : decode cX7_coat 45 = .ok (.aload_n 0, 1) := by decide +kernel
theorem dX7_coat_46 : decode cX7_coat 46 = .ok (.getfield 10, 3) := by decide +kernel
theorem dX7_coat_49 : decode cX7_coat 49 = .ok (.iload_n 1, 1) := by decide +kernel
theorem dX7_coat_50 : decode cX7_coat 50 = .ok (.invokevirtual 137, 3) := by decide +kernel
theorem dX7_coat_53 : decode cX7_coat 53 = .ok (.iconst (-1), 1) := by decide +kernel
theorem dX7_coat_54 : decode cX7_coat 54 = .ok (.if_icmp .eq 10, 3) := by decide +kernel
theorem dX7_coat_57 : decode cX7_coat 57 = .ok (.aload_n 0, 1) := by decide +kernel
theorem dX7_coat_58 : decode cX7_coat 58 = .ok (.bipush (-3), 2) := by decide +kernel
theorem dX7_coat_60 : decode cX7_coat 60 = .ok (.invokevirtual 119, 3) := by decide +kernel
theorem dX7_coat_63 : decode cX7_coat 63 = .ok (.ireturn, 1) := by decide +kernel
theorem dX7_coat_64 : decode cX7_coat 64 = .ok (.aload_n 0, 1) := by decide +kernel
theorem dX7_coat_65 : decode cX7_coat 65 = .ok (.getfield 10, 3) := by decide +kernel
theorem dX7_coat_68 : decode cX7_coat 68 = .ok (.invokevirtual 122, 3) := by decide +kernel
theorem dX7_coat_71 : decode cX7_coat 71 = .ok (.aload_n 0, 1) := by decide +kernel
theorem dX7_coat_72 : decode cX7_coat 72 = .ok (.getfield 10, 3) := by decide +kernel
theorem dX7_coat_75 : decode cX7_coat 75 = .ok (.dup, 1) := by decide +kernel
theorem dX7_coat_76 : decode cX7_coat 76 = .ok (.getfield 140, 3) := by decide +kernel
theorem dX7_coat_79 : decode cX7_coat 79 = .ok (.iconst 1, 1) := by decide +kernel
theorem dX7_coat_80 : decode cX7_coat 80 = .ok (.iload_n 1, 1) := by decide +kernel
theorem dX7_coat_81 : decode cX7_coat 81 = .ok (.ishl, 1) := by decide +kernel
theorem dX7_coat_82 : decode cX7_coat 82 = .ok (.ixor, 1) := by decide +kernel
theorem dX7_coat_83 : decode cX7_coat 83 = .ok (.putfield 140, 3) := by decide +kernel
theorem dX7_coat_86 : decode cX7_coat 86 = .ok (.iconst 1, 1) := by decide +kernel
theorem dX7_coat_87 : decode cX7_coat 87 = .ok (.ireturn, 1) := by decide +kernel
theorem dX7_minutes_0 : decode cX7_minutes 0 = .ok (.iload_n 1, 1) := by decide +kernel
theorem dX7_minutes_1 : decode cX7_minutes 1 = .ok (.iconst 1, 1) := by decide +kernel
theorem dX7_minutes_2 : decode cX7_minutes 2 = .ok (.if_icmp .lt 9, 3) := by decide +kernel
theorem dX7_minutes_5 : decode cX7_minutes 5 = .ok (.iload_n 1, 1) := by decide +kernel
theorem dX7_minutes_6 : decode cX7_minutes 6 = .ok (.bipush 99, 2) := by decide +kernel
theorem dX7_minutes_8 : decode cX7_minutes 8 = .ok (.if_icmp .le 10, 3) := by decide +kernel
theorem dX7_minutes_11 : decode cX7_minutes 11 = .ok (.aload_n 0, 1) := by decide +kernel
theorem dX7_minutes_12 : decode cX7_minutes 12 = .ok (.bipush (-2), 2) := by decide +kernel
theorem dX7_minutes_14 : decode cX7_minutes 14 = .ok (.invokevirtual 63, 3) := by decide +kernel
theorem dX7_minutes_17 : decode cX7_minutes 17 = .ok (.ireturn, 1) := by decide +kernel
theorem dX7_minutes_18 : decode cX7_minutes 18 = .ok (.aload_n 0, 1) := by decide +kernel
theorem dX7_minutes_19 : decode cX7_minutes 19 = .ok (.getfield 10, 3) := by decide +kernel
theorem dX7_minutes_22 : decode cX7_minutes 22 = .ok (.invokevirtual 122, 3) := by decide +kernel
theorem dX7_minutes_25 : decode cX7_minutes 25 = .ok (.aload_n 0, 1) := by decide +kernel
theorem dX7_minutes_26 : decode cX7_minutes 26 = .ok (.getfield 10, 3) := by decide +kernel
theorem dX7_minutes_29 : decode cX7_minutes 29 = .ok (.sipush 9999, 3) := by decide +kernel
theorem dX7_minutes_32 : decode cX7_minutes 32 = .ok (.aload_n 0, 1) := by decide +kernel
theorem dX7_minutes_33 : decode cX7_minutes 33 = .ok (.getfield 10, 3) := by decide +kernel
theorem dX7_minutes_36 : decode cX7_minutes 36 = .ok (.getfield 116, 3) := by decide +kernel
theorem dX7_minutes_39 : decode cX7_minutes 39 = .ok (.iload_n 1, 1) := by decide +kernel
theorem dX7_minutes_40 : decode cX7_minutes 40 = .ok (.iadd, 1) := by decide +kernel
theorem dX7_minutes_41 : decode cX7_minutes 41 = .ok (.invokestatic 143, 3) := by decide +kernel
theorem dX7_minutes_44 : decode cX7_minutes 44 = .ok (.putfield 116, 3) := by decide +kernel
theorem dX7_minutes_47 : decode cX7_minutes 47 = .ok (.aload_n 0, 1) := by decide +kernel
theorem dX7_minutes_48 : decode cX7_minutes 48 = .ok (.getfield 10, 3) := by decide +kernel
theorem dX7_minutes_51 : decode cX7_minutes 51 = .ok (.getfield 116, 3) := by decide +kernel
theorem dX7_minutes_54 : decode cX7_minutes 54 = .ok (.ireturn, 1) := by decide +kernel
theorem dX7_undo_0 : decode cX7_undo 0 = .ok (.aload_n 0, 1) := by decide +kernel
theorem dX7_undo_1 : decode cX7_undo 1 = .ok (.getfield 10, 3) := by decide +kernel
theorem dX7_undo_4 : decode cX7_undo 4 = .ok (.getfield 71, 3) := by decide +kernel
theorem dX7_undo_7 : decode cX7_undo 7 = .ok (.getfield 148, 3) := by decide +kernel
theorem dX7_undo_10 : decode cX7_undo 10 = .ok (.ifCond .ne 10, 3) := by decide +kernel
theorem dX7_undo_13 : decode cX7_undo 13 = .ok (.aload_n 0, 1) := by decide +kernel
theorem dX7_undo_14 : decode cX7_undo 14 = .ok (.bipush (-3), 2) := by decide +kernel
theorem dX7_undo_16 : decode cX7_undo 16 = .ok (.invokevirtual 119, 3) := by decide +kernel
theorem dX7_undo_19 : decode cX7_undo 19 = .ok (.ireturn, 1) := by decide +kernel
theorem dX7_undo_20 : decode cX7_undo 20 = .ok (.aload_n 0, 1) := by decide +kernel
theorem dX7_undo_21 : decode cX7_undo 21 = .ok (.getfield 10, 3) := by decide +kernel
theorem dX7_undo_24 : decode cX7_undo 24 = .ok (.invokevirtual 151, 3) := by decide +kernel
theorem dX7_undo_27 : decode cX7_undo 27 = .ok (.aload_n 0, 1) := by decide +kernel
theorem dX7_undo_28 : decode cX7_undo 28 = .ok (.getfield 10, 3) := by decide +kernel
theorem dX7_undo_31 : decode cX7_undo 31 = .ok (.getfield 116, 3) := by decide +kernel
theorem dX7_undo_34 : decode cX7_undo 34 = .ok (.ireturn, 1) := by decide +kernel
theorem dX7_of_0 : decode cX7_of 0 = .ok (.aload_n 0, 1) := by decide +kernel
theorem dX7_of_1 : decode cX7_of 1 = .ok (.getfield 10, 3) := by decide +kernel
theorem dX7_of_4 : decode cX7_of 4 = .ok (.iload_n 1, 1) := by decide +kernel
theorem dX7_of_5 : decode cX7_of 5 = .ok (.invokevirtual 106, 3) := by decide +kernel
theorem dX7_of_8 : decode cX7_of 8 = .ok (.ifCond .eq 11, 3) := by decide +kernel
theorem dX7_of_11 : decode cX7_of 11 = .ok (.iload_n 2, 1) := by decide +kernel
theorem dX7_of_12 : decode cX7_of 12 = .ok (.iconst 3, 1) := by decide +kernel
theorem dX7_of_13 : decode cX7_of 13 = .ok (.invokestatic 59, 3) := by decide +kernel
theorem dX7_of_16 : decode cX7_of 16 = .ok (.ifCond .ne 10, 3) := by decide +kernel
theorem dX7_of_19 : decode cX7_of 19 = .ok (.aload_n 0, 1) := by decide +kernel
theorem dX7_of_20 : decode cX7_of 20 = .ok (.bipush (-2), 2) := by decide +kernel
theorem dX7_of_22 : decode cX7_of 22 = .ok (.invokevirtual 63, 3) := by decide +kernel
theorem dX7_of_25 : decode cX7_of 25 = .ok (.ireturn, 1) := by decide +kernel
theorem dX7_of_26 : decode cX7_of 26 = .ok (.iload_n 2, 1) := by decide +kernel
theorem dX7_of_27 : decode cX7_of 27 = .ok (.lookupswitch 45 #[(0, 25), (1, 35)], 25) := by decide +kernel
theorem dX7_of_52 : decode cX7_of 52 = .ok (.aload_n 0, 1) := by decide +kernel
theorem dX7_of_53 : decode cX7_of 53 = .ok (.getfield 10, 3) := by decide +kernel
theorem dX7_of_56 : decode cX7_of 56 = .ok (.getfield 154, 3) := by decide +kernel
theorem dX7_of_59 : decode cX7_of 59 = .ok (.iload_n 1, 1) := by decide +kernel
theorem dX7_of_60 : decode cX7_of 60 = .ok (.iaload, 1) := by decide +kernel
theorem dX7_of_61 : decode cX7_of 61 = .ok (.ireturn, 1) := by decide +kernel
theorem dX7_of_62 : decode cX7_of 62 = .ok (.aload_n 0, 1) := by decide +kernel
theorem dX7_of_63 : decode cX7_of 63 = .ok (.getfield 10, 3) := by decide +kernel
theorem dX7_of_66 : decode cX7_of 66 = .ok (.getfield 157, 3) := by decide +kernel
theorem dX7_of_69 : decode cX7_of 69 = .ok (.iload_n 1, 1) := by decide +kernel
theorem dX7_of_70 : decode cX7_of 70 = .ok (.iaload, 1) := by decide +kernel
theorem dX7_of_71 : decode cX7_of 71 = .ok (.ireturn, 1) := by decide +kernel
theorem dX7_of_72 : decode cX7_of 72 = .ok (.aload_n 0, 1) := by decide +kernel
theorem dX7_of_73 : decode cX7_of 73 = .ok (.getfield 10, 3) := by decide +kernel
theorem dX7_of_76 : decode cX7_of 76 = .ok (.getfield 160, 3) := by decide +kernel
theorem dX7_of_79 : decode cX7_of 79 = .ok (.iload_n 1, 1) := by decide +kernel
theorem dX7_of_80 : decode cX7_of 80 = .ok (.iaload, 1) := by decide +kernel
theorem dX7_of_81 : decode cX7_of 81 = .ok (.ireturn, 1) := by decide +kernel
theorem dX7_about_0 : decode cX7_about 0 = .ok (.iload_n 1, 1) := by decide +kernel
theorem dX7_about_1 : decode cX7_about 1 = .ok (.bipush 30, 2) := by decide +kernel
theorem dX7_about_3 : decode cX7_about 3 = .ok (.invokestatic 59, 3) := by decide +kernel
theorem dX7_about_6 : decode cX7_about 6 = .ok (.ifCond .eq 11, 3) := by decide +kernel
theorem dX7_about_9 : decode cX7_about 9 = .ok (.iload_n 2, 1) := by decide +kernel
theorem dX7_about_10 : decode cX7_about 10 = .ok (.iconst 5, 1) := by decide +kernel
theorem dX7_about_11 : decode cX7_about 11 = .ok (.invokestatic 59, 3) := by decide +kernel
theorem dX7_about_14 : decode cX7_about 14 = .ok (.ifCond .ne 10, 3) := by decide +kernel
theorem dX7_about_17 : decode cX7_about 17 = .ok (.aload_n 0, 1) := by decide +kernel
theorem dX7_about_18 : decode cX7_about 18 = .ok (.bipush (-2), 2) := by decide +kernel
theorem dX7_about_20 : decode cX7_about 20 = .ok (.invokevirtual 63, 3) := by decide +kernel
theorem dX7_about_23 : decode cX7_about 23 = .ok (.ireturn, 1) := by decide +kernel
theorem dX7_about_24 : decode cX7_about 24 = .ok (.iload_n 2, 1) := by decide +kernel
theorem dX7_about_25 : decode cX7_about 25 = .ok (.tableswitch 79 0 3 #[31, 44, 53, 70], 31) := by decide +kernel
theorem dX7_about_56 : decode cX7_about 56 = .ok (.aload_n 0, 1) := by decide +kernel
theorem dX7_about_57 : decode cX7_about 57 = .ok (.getfield 10, 3) := by decide +kernel
theorem dX7_about_60 : decode cX7_about 60 = .ok (.getfield 67, 3) := by decide +kernel
theorem dX7_about_63 : decode cX7_about 63 = .ok (.iload_n 1, 1) := by decide +kernel
theorem dX7_about_64 : decode cX7_about 64 = .ok (.bipush 6, 2) := by decide +kernel
theorem dX7_about_66 : decode cX7_about 66 = .ok (.idiv, 1) := by decide +kernel
theorem dX7_about_67 : decode cX7_about 67 = .ok (.iaload, 1) := by decide +kernel
theorem dX7_about_68 : decode cX7_about 68 = .ok (.ireturn, 1) := by decide +kernel
theorem dX7_about_69 : decode cX7_about 69 = .ok (.aload_n 0, 1) := by decide +kernel
theorem dX7_about_70 : decode cX7_about 70 = .ok (.getfield 10, 3) := by decide +kernel
theorem dX7_about_73 : decode cX7_about 73 = .ok (.iload_n 1, 1) := by decide +kernel
theorem dX7_about_74 : decode cX7_about 74 = .ok (.invokevirtual 137, 3) := by decide +kernel
theorem dX7_about_77 : decode cX7_about 77 = .ok (.ireturn, 1) := by decide +kernel
theorem dX7_about_78 : decode cX7_about 78 = .ok (.aload_n 0, 1) := by decide +kernel
theorem dX7_about_79 : decode cX7_about 79 = .ok (.getfield 10, 3) := by decide +kernel
theorem dX7_about_82 : decode cX7_about 82 = .ok (.iload_n 1, 1) := by decide +kernel
theorem dX7_about_83 : decode cX7_about 83 = .ok (.invokevirtual 134, 3) := by decide +kernel
theorem dX7_about_86 : decode cX7_about 86 = .ok (.ifCond .eq 7, 3) := by decide +kernel
theorem dX7_about_89 : decode cX7_about 89 = .ok (.iconst 1, 1) := by decide +kernel
theorem dX7_about_90 : decode cX7_about 90 = .ok (.goto 4, 3) := by decide +kernel
theorem dX7_about_93 : decode cX7_about 93 = .ok (.iconst 0, 1) := by decide +kernel
theorem dX7_about_94 : decode cX7_about 94 = .ok (.ireturn, 1) := by decide +kernel
theorem dX7_about_95 : decode cX7_about 95 = .ok (.aload_n 0, 1) := by decide +kernel
theorem dX7_about_96 : decode cX7_about 96 = .ok (.getfield 10, 3) := by decide +kernel
theorem dX7_about_99 : decode cX7_about 99 = .ok (.iload_n 1, 1) := by decide +kernel
theorem dX7_about_100 : decode cX7_about 100 = .ok (.invokevirtual 163, 3) := by decide +kernel
theorem dX7_about_103 : decode cX7_about 103 = .ok (.ireturn, 1) := by decide +kernel
theorem dX7_about_104 : decode cX7_about 104 = .ok (.aload_n 0, 1) := by decide +kernel
theorem dX7_about_105 : decode cX7_about 105 = .ok (.getfield 10, 3) := by decide +kernel
theorem dX7_about_108 : decode cX7_about 108 = .ok (.iload_n 1, 1) := by decide +kernel
theorem dX7_about_109 : decode cX7_about 109 = .ok (.invokevirtual 166, 3) := by decide +kernel
theorem dX7_about_112 : decode cX7_about 112 = .ok (.ireturn, 1) := by decide +kernel
theorem dX7_makes_0 : decode cX7_makes 0 = .ok (.aload_n 0, 1) := by decide +kernel
theorem dX7_makes_1 : decode cX7_makes 1 = .ok (.getfield 10, 3) := by decide +kernel
theorem dX7_makes_4 : decode cX7_makes 4 = .ok (.iload_n 1, 1) := by decide +kernel
theorem dX7_makes_5 : decode cX7_makes 5 = .ok (.invokevirtual 106, 3) := by decide +kernel
theorem dX7_makes_8 : decode cX7_makes 8 = .ok (.ifCond .eq 12, 3) := by decide +kernel
theorem dX7_makes_11 : decode cX7_makes 11 = .ok (.iload_n 2, 1) := by decide +kernel
theorem dX7_makes_12 : decode cX7_makes 12 = .ok (.bipush 30, 2) := by decide +kernel
theorem dX7_makes_14 : decode cX7_makes 14 = .ok (.invokestatic 59, 3) := by decide +kernel
theorem dX7_makes_17 : decode cX7_makes 17 = .ok (.ifCond .ne 10, 3) := by decide +kernel
theorem dX7_makes_20 : decode cX7_makes 20 = .ok (.aload_n 0, 1) := by decide +kernel
theorem dX7_makes_21 : decode cX7_makes 21 = .ok (.bipush (-2), 2) := by decide +kernel
theorem dX7_makes_23 : decode cX7_makes 23 = .ok (.invokevirtual 63, 3) := by decide +kernel
theorem dX7_makes_26 : decode cX7_makes 26 = .ok (.ireturn, 1) := by decide +kernel
theorem dX7_makes_27 : decode cX7_makes 27 = .ok (.aload_n 0, 1) := by decide +kernel
theorem dX7_makes_28 : decode cX7_makes 28 = .ok (.getfield 10, 3) := by decide +kernel
theorem dX7_makes_31 : decode cX7_makes 31 = .ok (.iload_n 1, 1) := by decide +kernel
theorem dX7_makes_32 : decode cX7_makes 32 = .ok (.invokevirtual 110, 3) := by decide +kernel
theorem dX7_makes_35 : decode cX7_makes 35 = .ok (.ifCond .eq 10, 3) := by decide +kernel
theorem dX7_makes_38 : decode cX7_makes 38 = .ok (.aload_n 0, 1) := by decide +kernel
theorem dX7_makes_39 : decode cX7_makes 39 = .ok (.bipush (-3), 2) := by decide +kernel
theorem dX7_makes_41 : decode cX7_makes 41 = .ok (.invokevirtual 119, 3) := by decide +kernel
theorem dX7_makes_44 : decode cX7_makes 44 = .ok (.ireturn, 1) := by decide +kernel
theorem dX7_makes_45 : decode cX7_makes 45 = .ok (.aload_n 0, 1) := by decide +kernel
theorem dX7_makes_46 : decode cX7_makes 46 = .ok (.getfield 10, 3) := by decide +kernel
theorem dX7_makes_49 : decode cX7_makes 49 = .ok (.iload_n 1, 1) := by decide +kernel
theorem dX7_makes_50 : decode cX7_makes 50 = .ok (.iload_n 2, 1) := by decide +kernel
theorem dX7_makes_51 : decode cX7_makes 51 = .ok (.invokevirtual 169, 3) := by decide +kernel
theorem dX7_makes_54 : decode cX7_makes 54 = .ok (.ireturn, 1) := by decide +kernel
theorem dX7_order_0 : decode cX7_order 0 = .ok (.iload_n 1, 1) := by decide +kernel
theorem dX7_order_1 : decode cX7_order 1 = .ok (.iconst (-1), 1) := by decide +kernel
theorem dX7_order_2 : decode cX7_order 2 = .ok (.if_icmp .ge 10, 3) := by decide +kernel
theorem dX7_order_5 : decode cX7_order 5 = .ok (.aload_n 0, 1) := by decide +kernel
theorem dX7_order_6 : decode cX7_order 6 = .ok (.bipush (-10), 2) := by decide +kernel
theorem dX7_order_8 : decode cX7_order 8 = .ok (.invokevirtual 63, 3) := by decide +kernel
theorem dX7_order_11 : decode cX7_order 11 = .ok (.ireturn, 1) := by decide +kernel
theorem dX7_order_12 : decode cX7_order 12 = .ok (.aload_n 0, 1) := by decide +kernel
theorem dX7_order_13 : decode cX7_order 13 = .ok (.getfield 37, 3) := by decide +kernel
theorem dX7_order_16 : decode cX7_order 16 = .ok (.aload_n 0, 1) := by decide +kernel
theorem dX7_order_17 : decode cX7_order 17 = .ok (.getfield 10, 3) := by decide +kernel
theorem dX7_order_20 : decode cX7_order 20 = .ok (.invokevirtual 172, 3) := by decide +kernel
theorem dX7_order_23 : decode cX7_order 23 = .ok (.iload_n 1, 1) := by decide +kernel
theorem dX7_order_24 : decode cX7_order 24 = .ok (.iconst (-1), 1) := by decide +kernel
theorem dX7_order_25 : decode cX7_order 25 = .ok (.if_icmp .ne 11, 3) := by decide +kernel
theorem dX7_order_28 : decode cX7_order 28 = .ok (.aload_n 0, 1) := by decide +kernel
theorem dX7_order_29 : decode cX7_order 29 = .ok (.getfield 37, 3) := by decide +kernel
theorem dX7_order_32 : decode cX7_order 32 = .ok (.invokevirtual 175, 3) := by decide +kernel
theorem dX7_order_35 : decode cX7_order 35 = .ok (.ireturn, 1) := by decide +kernel
theorem dX7_order_36 : decode cX7_order 36 = .ok (.iload_n 1, 1) := by decide +kernel
theorem dX7_order_37 : decode cX7_order 37 = .ok (.aload_n 0, 1) := by decide +kernel
theorem dX7_order_38 : decode cX7_order 38 = .ok (.getfield 37, 3) := by decide +kernel
theorem dX7_order_41 : decode cX7_order 41 = .ok (.invokevirtual 178, 3) := by decide +kernel
theorem dX7_order_44 : decode cX7_order 44 = .ok (.if_icmp .ge 18, 3) := by decide +kernel
theorem dX7_order_47 : decode cX7_order 47 = .ok (.aload_n 0, 1) := by decide +kernel
theorem dX7_order_48 : decode cX7_order 48 = .ok (.getfield 37, 3) := by decide +kernel
theorem dX7_order_51 : decode cX7_order 51 = .ok (.aload_n 0, 1) := by decide +kernel
theorem dX7_order_52 : decode cX7_order 52 = .ok (.getfield 10, 3) := by decide +kernel
theorem dX7_order_55 : decode cX7_order 55 = .ok (.iload_n 1, 1) := by decide +kernel
theorem dX7_order_56 : decode cX7_order 56 = .ok (.invokevirtual 180, 3) := by decide +kernel
theorem dX7_order_59 : decode cX7_order 59 = .ok (.goto 5, 3) := by decide +kernel
theorem dX7_order_62 : decode cX7_order 62 = .ok (.bipush (-5), 2) := by decide +kernel
theorem dX7_order_64 : decode cX7_order 64 = .ok (.ireturn, 1) := by decide +kernel
theorem dX7_best_0 : decode cX7_best 0 = .ok (.aload_n 0, 1) := by decide +kernel
theorem dX7_best_1 : decode cX7_best 1 = .ok (.getfield 10, 3) := by decide +kernel
theorem dX7_best_4 : decode cX7_best 4 = .ok (.iload_n 1, 1) := by decide +kernel
theorem dX7_best_5 : decode cX7_best 5 = .ok (.invokevirtual 106, 3) := by decide +kernel
theorem dX7_best_8 : decode cX7_best 8 = .ok (.ifCond .eq 11, 3) := by decide +kernel
theorem dX7_best_11 : decode cX7_best 11 = .ok (.iload_n 2, 1) := by decide +kernel
theorem dX7_best_12 : decode cX7_best 12 = .ok (.iconst 2, 1) := by decide +kernel
theorem dX7_best_13 : decode cX7_best 13 = .ok (.invokestatic 59, 3) := by decide +kernel
theorem dX7_best_16 : decode cX7_best 16 = .ok (.ifCond .ne 11, 3) := by decide +kernel
theorem dX7_best_19 : decode cX7_best 19 = .ok (.aload_n 0, 1) := by decide +kernel
theorem dX7_best_20 : decode cX7_best 20 = .ok (.sipush (-1001), 3) := by decide +kernel
theorem dX7_best_23 : decode cX7_best 23 = .ok (.invokevirtual 63, 3) := by decide +kernel
theorem dX7_best_26 : decode cX7_best 26 = .ok (.ireturn, 1) := by decide +kernel
theorem dX7_best_27 : decode cX7_best 27 = .ok (.aload_n 0, 1) := by decide +kernel
theorem dX7_best_28 : decode cX7_best 28 = .ok (.getfield 10, 3) := by decide +kernel
theorem dX7_best_31 : decode cX7_best 31 = .ok (.iload_n 1, 1) := by decide +kernel
theorem dX7_best_32 : decode cX7_best 32 = .ok (.invokevirtual 110, 3) := by decide +kernel
theorem dX7_best_35 : decode cX7_best 35 = .ok (.ifCond .eq 11, 3) := by decide +kernel
theorem dX7_best_38 : decode cX7_best 38 = .ok (.aload_n 0, 1) := by decide +kernel
theorem dX7_best_39 : decode cX7_best 39 = .ok (.sipush (-1002), 3) := by decide +kernel
theorem dX7_best_42 : decode cX7_best 42 = .ok (.invokevirtual 119, 3) := by decide +kernel
theorem dX7_best_45 : decode cX7_best 45 = .ok (.ireturn, 1) := by decide +kernel
theorem dX7_best_46 : decode cX7_best 46 = .ok (.aload_n 0, 1) := by decide +kernel
theorem dX7_best_47 : decode cX7_best 47 = .ok (.iload_n 1, 1) := by decide +kernel
theorem dX7_best_48 : decode cX7_best 48 = .ok (.invokevirtual 184, 3) := by decide +kernel
theorem dX7_best_51 : decode cX7_best 51 = .ok (.istore_n 3, 1) := by decide +kernel
theorem dX7_best_52 : decode cX7_best 52 = .ok (.iload_n 2, 1) := by decide +kernel
theorem dX7_best_53 : decode cX7_best 53 = .ok (.ifCond .ne 5, 3) := by decide +kernel
theorem dX7_best_56 : decode cX7_best 56 = .ok (.iload_n 3, 1) := by decide +kernel
theorem dX7_best_57 : decode cX7_best 57 = .ok (.ireturn, 1) := by decide +kernel
theorem dX7_best_58 : decode cX7_best 58 = .ok (.iload_n 3, 1) := by decide +kernel
theorem dX7_best_59 : decode cX7_best 59 = .ok (.iconst (-1), 1) := by decide +kernel
theorem dX7_best_60 : decode cX7_best 60 = .ok (.if_icmp .ne 9, 3) := by decide +kernel
theorem dX7_best_63 : decode cX7_best 63 = .ok (.sipush (-1000), 3) := by decide +kernel
theorem dX7_best_66 : decode cX7_best 66 = .ok (.goto 9, 3) := by decide +kernel
theorem dX7_best_69 : decode cX7_best 69 = .ok (.aload_n 0, 1) := by decide +kernel
theorem dX7_best_70 : decode cX7_best 70 = .ok (.iload_n 1, 1) := by decide +kernel
theorem dX7_best_71 : decode cX7_best 71 = .ok (.iload_n 3, 1) := by decide +kernel
theorem dX7_best_72 : decode cX7_best 72 = .ok (.invokevirtual 187, 3) := by decide +kernel
theorem dX7_best_75 : decode cX7_best 75 = .ok (.ireturn, 1) := by decide +kernel
theorem dX7_beside_0 : decode cX7_beside 0 = .ok (.aload_n 0, 1) := by decide +kernel
theorem dX7_beside_1 : decode cX7_beside 1 = .ok (.getfield 10, 3) := by decide +kernel
theorem dX7_beside_4 : decode cX7_beside 4 = .ok (.iload_n 1, 1) := by decide +kernel
theorem dX7_beside_5 : decode cX7_beside 5 = .ok (.invokevirtual 106, 3) := by decide +kernel
theorem dX7_beside_8 : decode cX7_beside 8 = .ok (.ifCond .eq 27, 3) := by decide +kernel
theorem dX7_beside_11 : decode cX7_beside 11 = .ok (.aload_n 0, 1) := by decide +kernel
theorem dX7_beside_12 : decode cX7_beside 12 = .ok (.getfield 10, 3) := by decide +kernel
theorem dX7_beside_15 : decode cX7_beside 15 = .ok (.iload_n 2, 1) := by decide +kernel
theorem dX7_beside_16 : decode cX7_beside 16 = .ok (.invokevirtual 106, 3) := by decide +kernel
theorem dX7_beside_19 : decode cX7_beside 19 = .ok (.ifCond .eq 16, 3) := by decide +kernel
theorem dX7_beside_22 : decode cX7_beside 22 = .ok (.iload_n 1, 1) := by decide +kernel
theorem dX7_beside_23 : decode cX7_beside 23 = .ok (.iload_n 2, 1) := by decide +kernel
theorem dX7_beside_24 : decode cX7_beside 24 = .ok (.if_icmp .eq 11, 3) := by decide +kernel
theorem dX7_beside_27 : decode cX7_beside 27 = .ok (.iload_n 3, 1) := by decide +kernel
theorem dX7_beside_28 : decode cX7_beside 28 = .ok (.iconst 2, 1) := by decide +kernel
theorem dX7_beside_29 : decode cX7_beside 29 = .ok (.invokestatic 59, 3) := by decide +kernel
theorem dX7_beside_32 : decode cX7_beside 32 = .ok (.ifCond .ne 10, 3) := by decide +kernel
theorem dX7_beside_35 : decode cX7_beside 35 = .ok (.aload_n 0, 1) := by decide +kernel
theorem dX7_beside_36 : decode cX7_beside 36 = .ok (.bipush (-2), 2) := by decide +kernel
theorem dX7_beside_38 : decode cX7_beside 38 = .ok (.invokevirtual 63, 3) := by decide +kernel
theorem dX7_beside_41 : decode cX7_beside 41 = .ok (.ireturn, 1) := by decide +kernel
theorem dX7_beside_42 : decode cX7_beside 42 = .ok (.aload_n 0, 1) := by decide +kernel
theorem dX7_beside_43 : decode cX7_beside 43 = .ok (.getfield 10, 3) := by decide +kernel
theorem dX7_beside_46 : decode cX7_beside 46 = .ok (.iload_n 1, 1) := by decide +kernel
theorem dX7_beside_47 : decode cX7_beside 47 = .ok (.invokevirtual 110, 3) := by decide +kernel
theorem dX7_beside_50 : decode cX7_beside 50 = .ok (.ifCond .ne 14, 3) := by decide +kernel
theorem dX7_beside_53 : decode cX7_beside 53 = .ok (.aload_n 0, 1) := by decide +kernel
theorem dX7_beside_54 : decode cX7_beside 54 = .ok (.getfield 10, 3) := by decide +kernel
theorem dX7_beside_57 : decode cX7_beside 57 = .ok (.iload_n 2, 1) := by decide +kernel
theorem dX7_beside_58 : decode cX7_beside 58 = .ok (.invokevirtual 110, 3) := by decide +kernel
theorem dX7_beside_61 : decode cX7_beside 61 = .ok (.ifCond .eq 10, 3) := by decide +kernel
theorem dX7_beside_64 : decode cX7_beside 64 = .ok (.aload_n 0, 1) := by decide +kernel
theorem dX7_beside_65 : decode cX7_beside 65 = .ok (.bipush (-3), 2) := by decide +kernel
theorem dX7_beside_67 : decode cX7_beside 67 = .ok (.invokevirtual 119, 3) := by decide +kernel
theorem dX7_beside_70 : decode cX7_beside 70 = .ok (.ireturn, 1) := by decide +kernel
theorem dX7_beside_71 : decode cX7_beside 71 = .ok (.aload_n 0, 1) := by decide +kernel
theorem dX7_beside_72 : decode cX7_beside 72 = .ok (.iload_n 1, 1) := by decide +kernel
theorem dX7_beside_73 : decode cX7_beside 73 = .ok (.iload_n 2, 1) := by decide +kernel
theorem dX7_beside_74 : decode cX7_beside 74 = .ok (.invokevirtual 190, 3) := by decide +kernel
theorem dX7_beside_77 : decode cX7_beside 77 = .ok (.istore 4, 2) := by decide +kernel
theorem dX7_beside_79 : decode cX7_beside 79 = .ok (.iload 4, 2) := by decide +kernel
theorem dX7_beside_81 : decode cX7_beside 81 = .ok (.iconst (-1), 1) := by decide +kernel
theorem dX7_beside_82 : decode cX7_beside 82 = .ok (.if_icmp .eq 8, 3) := by decide +kernel
theorem dX7_beside_85 : decode cX7_beside 85 = .ok (.iload_n 3, 1) := by decide +kernel
theorem dX7_beside_86 : decode cX7_beside 86 = .ok (.iconst 1, 1) := by decide +kernel
theorem dX7_beside_87 : decode cX7_beside 87 = .ok (.if_icmp .ne 6, 3) := by decide +kernel
theorem dX7_beside_90 : decode cX7_beside 90 = .ok (.iload 4, 2) := by decide +kernel
theorem dX7_beside_92 : decode cX7_beside 92 = .ok (.ireturn, 1) := by decide +kernel
theorem dX7_beside_93 : decode cX7_beside 93 = .ok (.aload_n 0, 1) := by decide +kernel
theorem dX7_beside_94 : decode cX7_beside 94 = .ok (.iload_n 1, 1) := by decide +kernel
theorem dX7_beside_95 : decode cX7_beside 95 = .ok (.iload_n 2, 1) := by decide +kernel
theorem dX7_beside_96 : decode cX7_beside 96 = .ok (.iload 4, 2) := by decide +kernel
theorem dX7_beside_98 : decode cX7_beside 98 = .ok (.bipush 100, 2) := by decide +kernel
theorem dX7_beside_100 : decode cX7_beside 100 = .ok (.idiv, 1) := by decide +kernel
theorem dX7_beside_101 : decode cX7_beside 101 = .ok (.iload 4, 2) := by decide +kernel
theorem dX7_beside_103 : decode cX7_beside 103 = .ok (.bipush 100, 2) := by decide +kernel
theorem dX7_beside_105 : decode cX7_beside 105 = .ok (.irem, 1) := by decide +kernel
theorem dX7_beside_106 : decode cX7_beside 106 = .ok (.invokevirtual 193, 3) := by decide +kernel
theorem dX7_beside_109 : decode cX7_beside 109 = .ok (.ireturn, 1) := by decide +kernel
theorem dX7_wrong_0 : decode cX7_wrong 0 = .ok (.iconst 0, 1) := by decide +kernel
theorem dX7_wrong_1 : decode cX7_wrong 1 = .ok (.istore_n 1, 1) := by decide +kernel
theorem dX7_wrong_2 : decode cX7_wrong 2 = .ok (.iconst 0, 1) := by decide +kernel
theorem dX7_wrong_3 : decode cX7_wrong 3 = .ok (.istore_n 2, 1) := by decide +kernel
theorem dX7_wrong_4 : decode cX7_wrong 4 = .ok (.iload_n 2, 1) := by decide +kernel
theorem dX7_wrong_5 : decode cX7_wrong 5 = .ok (.aload_n 0, 1) := by decide +kernel
theorem dX7_wrong_6 : decode cX7_wrong 6 = .ok (.getfield 10, 3) := by decide +kernel
theorem dX7_wrong_9 : decode cX7_wrong 9 = .ok (.getfield 52, 3) := by decide +kernel
theorem dX7_wrong_12 : decode cX7_wrong 12 = .ok (.if_icmp .ge 47, 3) := by decide +kernel
theorem dX7_wrong_15 : decode cX7_wrong 15 = .ok (.aload_n 0, 1) := by decide +kernel
theorem dX7_wrong_16 : decode cX7_wrong 16 = .ok (.getfield 10, 3) := by decide +kernel
theorem dX7_wrong_19 : decode cX7_wrong 19 = .ok (.iload_n 2, 1) := by decide +kernel
theorem dX7_wrong_20 : decode cX7_wrong 20 = .ok (.invokevirtual 110, 3) := by decide +kernel
theorem dX7_wrong_23 : decode cX7_wrong 23 = .ok (.ifCond .eq 30, 3) := by decide +kernel
theorem dX7_wrong_26 : decode cX7_wrong 26 = .ok (.aload_n 0, 1) := by decide +kernel
theorem dX7_wrong_27 : decode cX7_wrong 27 = .ok (.getfield 10, 3) := by decide +kernel
theorem dX7_wrong_30 : decode cX7_wrong 30 = .ok (.getfield 160, 3) := by decide +kernel
theorem dX7_wrong_33 : decode cX7_wrong 33 = .ok (.iload_n 2, 1) := by decide +kernel
theorem dX7_wrong_34 : decode cX7_wrong 34 = .ok (.iaload, 1) := by decide +kernel
theorem dX7_wrong_35 : decode cX7_wrong 35 = .ok (.aload_n 0, 1) := by decide +kernel
theorem dX7_wrong_36 : decode cX7_wrong 36 = .ok (.getfield 10, 3) := by decide +kernel
theorem dX7_wrong_39 : decode cX7_wrong 39 = .ok (.getfield 157, 3) := by decide +kernel
theorem dX7_wrong_42 : decode cX7_wrong 42 = .ok (.iload_n 2, 1) := by decide +kernel
theorem dX7_wrong_43 : decode cX7_wrong 43 = .ok (.iaload, 1) := by decide +kernel
theorem dX7_wrong_44 : decode cX7_wrong 44 = .ok (.if_icmp .eq 9, 3) := by decide +kernel
theorem dX7_wrong_47 : decode cX7_wrong 47 = .ok (.iload_n 1, 1) := by decide +kernel
theorem dX7_wrong_48 : decode cX7_wrong 48 = .ok (.iconst 1, 1) := by decide +kernel
theorem dX7_wrong_49 : decode cX7_wrong 49 = .ok (.iload_n 2, 1) := by decide +kernel
theorem dX7_wrong_50 : decode cX7_wrong 50 = .ok (.ishl, 1) := by decide +kernel
theorem dX7_wrong_51 : decode cX7_wrong 51 = .ok (.ior, 1) := by decide +kernel
theorem dX7_wrong_52 : decode cX7_wrong 52 = .ok (.istore_n 1, 1) := by decide +kernel
theorem dX7_wrong_53 : decode cX7_wrong 53 = .ok (.iinc 2 1, 3) := by decide +kernel
theorem dX7_wrong_56 : decode cX7_wrong 56 = .ok (.goto (-52), 3) := by decide +kernel
theorem dX7_wrong_59 : decode cX7_wrong 59 = .ok (.iload_n 1, 1) := by decide +kernel
theorem dX7_wrong_60 : decode cX7_wrong 60 = .ok (.ireturn, 1) := by decide +kernel
theorem dX7_swaps_0 : decode cX7_swaps 0 = .ok (.aload_n 0, 1) := by decide +kernel
theorem dX7_swaps_1 : decode cX7_swaps 1 = .ok (.getfield 10, 3) := by decide +kernel
theorem dX7_swaps_4 : decode cX7_swaps 4 = .ok (.invokestatic 197, 3) := by decide +kernel
theorem dX7_swaps_7 : decode cX7_swaps 7 = .ok (.ireturn, 1) := by decide +kernel
theorem dX7_seen_0 : decode cX7_seen 0 = .ok (.aload_n 0, 1) := by decide +kernel
theorem dX7_seen_1 : decode cX7_seen 1 = .ok (.getfield 10, 3) := by decide +kernel
theorem dX7_seen_4 : decode cX7_seen 4 = .ok (.iload_n 1, 1) := by decide +kernel
theorem dX7_seen_5 : decode cX7_seen 5 = .ok (.invokevirtual 106, 3) := by decide +kernel
theorem dX7_seen_8 : decode cX7_seen 8 = .ok (.ifCond .eq 21, 3) := by decide +kernel
theorem dX7_seen_11 : decode cX7_seen 11 = .ok (.iload_n 2, 1) := by decide +kernel
theorem dX7_seen_12 : decode cX7_seen 12 = .ok (.bipush 100, 2) := by decide +kernel
theorem dX7_seen_14 : decode cX7_seen 14 = .ok (.invokestatic 59, 3) := by decide +kernel
theorem dX7_seen_17 : decode cX7_seen 17 = .ok (.ifCond .eq 12, 3) := by decide +kernel
theorem dX7_seen_20 : decode cX7_seen 20 = .ok (.iload_n 3, 1) := by decide +kernel
theorem dX7_seen_21 : decode cX7_seen 21 = .ok (.bipush 41, 2) := by decide +kernel
theorem dX7_seen_23 : decode cX7_seen 23 = .ok (.invokestatic 59, 3) := by decide +kernel
theorem dX7_seen_26 : decode cX7_seen 26 = .ok (.ifCond .ne 10, 3) := by decide +kernel
theorem dX7_seen_29 : decode cX7_seen 29 = .ok (.aload_n 0, 1) := by decide +kernel
theorem dX7_seen_30 : decode cX7_seen 30 = .ok (.bipush (-2), 2) := by decide +kernel
theorem dX7_seen_32 : decode cX7_seen 32 = .ok (.invokevirtual 63, 3) := by decide +kernel
theorem dX7_seen_35 : decode cX7_seen 35 = .ok (.ireturn, 1) := by decide +kernel
theorem dX7_seen_36 : decode cX7_seen 36 = .ok (.aload_n 0, 1) := by decide +kernel
theorem dX7_seen_37 : decode cX7_seen 37 = .ok (.getfield 10, 3) := by decide +kernel
theorem dX7_seen_40 : decode cX7_seen 40 = .ok (.getfield 203, 3) := by decide +kernel
theorem dX7_seen_43 : decode cX7_seen 43 = .ok (.invokevirtual 206, 3) := by decide +kernel
theorem dX7_seen_46 : decode cX7_seen 46 = .ok (.ifCond .eq 10, 3) := by decide +kernel
theorem dX7_seen_49 : decode cX7_seen 49 = .ok (.aload_n 0, 1) := by decide +kernel
theorem dX7_seen_50 : decode cX7_seen 50 = .ok (.invokevirtual 81, 3) := by decide +kernel
theorem dX7_seen_53 : decode cX7_seen 53 = .ok (.goto 16, 3) := by decide +kernel
theorem dX7_seen_56 : decode cX7_seen 56 = .ok (.aload_n 0, 1) := by decide +kernel
theorem dX7_seen_57 : decode cX7_seen 57 = .ok (.getfield 10, 3) := by decide +kernel
theorem dX7_seen_60 : decode cX7_seen 60 = .ok (.getfield 203, 3) := by decide +kernel
theorem dX7_seen_63 : decode cX7_seen 63 = .ok (.iload_n 1, 1) := by decide +kernel
theorem dX7_seen_64 : decode cX7_seen 64 = .ok (.iload_n 2, 1) := by decide +kernel
theorem dX7_seen_65 : decode cX7_seen 65 = .ok (.iload_n 3, 1) := by decide +kernel
theorem dX7_seen_66 : decode cX7_seen 66 = .ok (.invokevirtual 207, 3) := by decide +kernel
theorem dX7_seen_69 : decode cX7_seen 69 = .ok (.ireturn, 1) := by decide +kernel
theorem dX7_where_0 : decode cX7_where 0 = .ok (.aload_n 0, 1) := by decide +kernel
theorem dX7_where_1 : decode cX7_where 1 = .ok (.getfield 10, 3) := by decide +kernel
theorem dX7_where_4 : decode cX7_where 4 = .ok (.iload_n 1, 1) := by decide +kernel
theorem dX7_where_5 : decode cX7_where 5 = .ok (.invokevirtual 106, 3) := by decide +kernel
theorem dX7_where_8 : decode cX7_where 8 = .ok (.ifCond .eq 8, 3) := by decide +kernel
theorem dX7_where_11 : decode cX7_where 11 = .ok (.iload_n 2, 1) := by decide +kernel
theorem dX7_where_12 : decode cX7_where 12 = .ok (.iconst (-1), 1) := by decide +kernel
theorem dX7_where_13 : decode cX7_where 13 = .ok (.if_icmp .ge 10, 3) := by decide +kernel
theorem dX7_where_16 : decode cX7_where 16 = .ok (.aload_n 0, 1) := by decide +kernel
theorem dX7_where_17 : decode cX7_where 17 = .ok (.bipush (-10), 2) := by decide +kernel
theorem dX7_where_19 : decode cX7_where 19 = .ok (.invokevirtual 63, 3) := by decide +kernel
theorem dX7_where_22 : decode cX7_where 22 = .ok (.ireturn, 1) := by decide +kernel
theorem dX7_where_23 : decode cX7_where 23 = .ok (.aload_n 0, 1) := by decide +kernel
theorem dX7_where_24 : decode cX7_where 24 = .ok (.iload_n 1, 1) := by decide +kernel
theorem dX7_where_25 : decode cX7_where 25 = .ok (.invokevirtual 210, 3) := by decide +kernel
theorem dX7_where_28 : decode cX7_where 28 = .ok (.istore_n 3, 1) := by decide +kernel
theorem dX7_where_29 : decode cX7_where 29 = .ok (.iconst 0, 1) := by decide +kernel
theorem dX7_where_30 : decode cX7_where 30 = .ok (.istore 4, 2) := by decide +kernel
theorem dX7_where_32 : decode cX7_where 32 = .ok (.iconst 0, 1) := by decide +kernel
theorem dX7_where_33 : decode cX7_where 33 = .ok (.istore 5, 2) := by decide +kernel
theorem dX7_where_35 : decode cX7_where 35 = .ok (.iload 5, 2) := by decide +kernel
theorem dX7_where_37 : decode cX7_where 37 = .ok (.bipush 30, 2) := by decide +kernel
theorem dX7_where_39 : decode cX7_where 39 = .ok (.if_icmp .ge 30, 3) := by decide +kernel
theorem dX7_where_42 : decode cX7_where 42 = .ok (.iload_n 3, 1) := by decide +kernel
theorem dX7_where_43 : decode cX7_where 43 = .ok (.iload 5, 2) := by decide +kernel
theorem dX7_where_45 : decode cX7_where 45 = .ok (.invokestatic 213, 3) := by decide +kernel
theorem dX7_where_48 : decode cX7_where 48 = .ok (.ifCond .eq 15, 3) := by decide +kernel
theorem dX7_where_51 : decode cX7_where 51 = .ok (.iload 4, 2) := by decide +kernel
theorem dX7_where_53 : decode cX7_where 53 = .ok (.iload_n 2, 1) := by decide +kernel
theorem dX7_where_54 : decode cX7_where 54 = .ok (.if_icmp .ne 6, 3) := by decide +kernel
theorem dX7_where_57 : decode cX7_where 57 = .ok (.iload 5, 2) := by decide +kernel
theorem dX7_where_59 : decode cX7_where 59 = .ok (.ireturn, 1) := by decide +kernel
theorem dX7_where_60 : decode cX7_where 60 = .ok (.iinc 4 1, 3) := by decide +kernel
theorem dX7_where_63 : decode cX7_where 63 = .ok (.iinc 5 1, 3) := by decide +kernel
theorem dX7_where_66 : decode cX7_where 66 = .ok (.goto (-31), 3) := by decide +kernel
theorem dX7_where_69 : decode cX7_where 69 = .ok (.iload_n 2, 1) := by decide +kernel
theorem dX7_where_70 : decode cX7_where 70 = .ok (.iconst (-1), 1) := by decide +kernel
theorem dX7_where_71 : decode cX7_where 71 = .ok (.if_icmp .ne 8, 3) := by decide +kernel
theorem dX7_where_74 : decode cX7_where 74 = .ok (.iload 4, 2) := by decide +kernel
theorem dX7_where_76 : decode cX7_where 76 = .ok (.goto 5, 3) := by decide +kernel
theorem dX7_where_79 : decode cX7_where 79 = .ok (.bipush (-5), 2) := by decide +kernel
theorem dX7_where_81 : decode cX7_where 81 = .ok (.ireturn, 1) := by decide +kernel
theorem dX7_tell_0 : decode cX7_tell 0 = .ok (.aload_n 0, 1) := by decide +kernel
theorem dX7_tell_1 : decode cX7_tell 1 = .ok (.getfield 10, 3) := by decide +kernel
theorem dX7_tell_4 : decode cX7_tell 4 = .ok (.iload_n 1, 1) := by decide +kernel
theorem dX7_tell_5 : decode cX7_tell 5 = .ok (.invokevirtual 106, 3) := by decide +kernel
theorem dX7_tell_8 : decode cX7_tell 8 = .ok (.ifCond .ne 10, 3) := by decide +kernel
theorem dX7_tell_11 : decode cX7_tell 11 = .ok (.aload_n 0, 1) := by decide +kernel
theorem dX7_tell_12 : decode cX7_tell 12 = .ok (.bipush (-2), 2) := by decide +kernel
theorem dX7_tell_14 : decode cX7_tell 14 = .ok (.invokevirtual 63, 3) := by decide +kernel
theorem dX7_tell_17 : decode cX7_tell 17 = .ok (.ireturn, 1) := by decide +kernel
theorem dX7_tell_18 : decode cX7_tell 18 = .ok (.aload_n 0, 1) := by decide +kernel
theorem dX7_tell_19 : decode cX7_tell 19 = .ok (.iload_n 1, 1) := by decide +kernel
theorem dX7_tell_20 : decode cX7_tell 20 = .ok (.invokevirtual 210, 3) := by decide +kernel
theorem dX7_tell_23 : decode cX7_tell 23 = .ok (.istore_n 2, 1) := by decide +kernel
theorem dX7_tell_24 : decode cX7_tell 24 = .ok (.iconst (-1), 1) := by decide +kernel
theorem dX7_tell_25 : decode cX7_tell 25 = .ok (.istore_n 3, 1) := by decide +kernel
theorem dX7_tell_26 : decode cX7_tell 26 = .ok (.bipush 31, 2) := by decide +kernel
theorem dX7_tell_28 : decode cX7_tell 28 = .ok (.istore 4, 2) := by decide +kernel
theorem dX7_tell_30 : decode cX7_tell 30 = .ok (.iconst 0, 1) := by decide +kernel
theorem dX7_tell_31 : decode cX7_tell 31 = .ok (.istore 5, 2) := by decide +kernel
theorem dX7_tell_33 : decode cX7_tell 33 = .ok (.iload 5, 2) := by decide +kernel
theorem dX7_tell_35 : decode cX7_tell 35 = .ok (.bipush 20, 2) := by decide +kernel
theorem dX7_tell_37 : decode cX7_tell 37 = .ok (.if_icmp .ge 46, 3) := by decide +kernel
theorem dX7_tell_40 : decode cX7_tell 40 = .ok (.aload_n 0, 1) := by decide +kernel
theorem dX7_tell_41 : decode cX7_tell 41 = .ok (.iload_n 2, 1) := by decide +kernel
theorem dX7_tell_42 : decode cX7_tell 42 = .ok (.aload_n 0, 1) := by decide +kernel
theorem dX7_tell_43 : decode cX7_tell 43 = .ok (.getfield 10, 3) := by decide +kernel
theorem dX7_tell_46 : decode cX7_tell 46 = .ok (.getfield 154, 3) := by decide +kernel
theorem dX7_tell_49 : decode cX7_tell 49 = .ok (.iload_n 1, 1) := by decide +kernel
theorem dX7_tell_50 : decode cX7_tell 50 = .ok (.iaload, 1) := by decide +kernel
theorem dX7_tell_51 : decode cX7_tell 51 = .ok (.iload 5, 2) := by decide +kernel
theorem dX7_tell_53 : decode cX7_tell 53 = .ok (.invokevirtual 216, 3) := by decide +kernel
theorem dX7_tell_56 : decode cX7_tell 56 = .ok (.istore 6, 2) := by decide +kernel
theorem dX7_tell_58 : decode cX7_tell 58 = .ok (.iload 6, 2) := by decide +kernel
theorem dX7_tell_60 : decode cX7_tell 60 = .ok (.ifCond .le 17, 3) := by decide +kernel
theorem dX7_tell_63 : decode cX7_tell 63 = .ok (.iload 6, 2) := by decide +kernel
theorem dX7_tell_65 : decode cX7_tell 65 = .ok (.iload 4, 2) := by decide +kernel
theorem dX7_tell_67 : decode cX7_tell 67 = .ok (.if_icmp .ge 10, 3) := by decide +kernel
theorem dX7_tell_70 : decode cX7_tell 70 = .ok (.iload 6, 2) := by decide +kernel
theorem dX7_tell_72 : decode cX7_tell 72 = .ok (.istore 4, 2) := by decide +kernel
theorem dX7_tell_74 : decode cX7_tell 74 = .ok (.iload 5, 2) := by decide +kernel
theorem dX7_tell_76 : decode cX7_tell 76 = .ok (.istore_n 3, 1) := by decide +kernel
theorem dX7_tell_77 : decode cX7_tell 77 = .ok (.iinc 5 1, 3) := by decide +kernel
theorem dX7_tell_80 : decode cX7_tell 80 = .ok (.goto (-47), 3) := by decide +kernel
theorem dX7_tell_83 : decode cX7_tell 83 = .ok (.iload_n 3, 1) := by decide +kernel
theorem dX7_tell_84 : decode cX7_tell 84 = .ok (.ireturn, 1) := by decide +kernel
theorem dX7_note_0 : decode cX7_note 0 = .ok (.iload_n 1, 1) := by decide +kernel
theorem dX7_note_1 : decode cX7_note 1 = .ok (.iconst 5, 1) := by decide +kernel
theorem dX7_note_2 : decode cX7_note 2 = .ok (.invokestatic 59, 3) := by decide +kernel
theorem dX7_note_5 : decode cX7_note 5 = .ok (.ifCond .eq 21, 3) := by decide +kernel
theorem dX7_note_8 : decode cX7_note 8 = .ok (.iload_n 2, 1) := by decide +kernel
theorem dX7_note_9 : decode cX7_note 9 = .ok (.bipush 6, 2) := by decide +kernel
theorem dX7_note_11 : decode cX7_note 11 = .ok (.invokestatic 59, 3) := by decide +kernel
theorem dX7_note_14 : decode cX7_note 14 = .ok (.ifCond .eq 12, 3) := by decide +kernel
theorem dX7_note_17 : decode cX7_note 17 = .ok (.iload_n 3, 1) := by decide +kernel
theorem dX7_note_18 : decode cX7_note 18 = .ok (.bipush 21, 2) := by decide +kernel
theorem dX7_note_20 : decode cX7_note 20 = .ok (.invokestatic 59, 3) := by decide +kernel
theorem dX7_note_23 : decode cX7_note 23 = .ok (.ifCond .ne 10, 3) := by decide +kernel
theorem dX7_note_26 : decode cX7_note 26 = .ok (.aload_n 0, 1) := by decide +kernel
theorem dX7_note_27 : decode cX7_note 27 = .ok (.bipush (-2), 2) := by decide +kernel
theorem dX7_note_29 : decode cX7_note 29 = .ok (.invokevirtual 63, 3) := by decide +kernel
theorem dX7_note_32 : decode cX7_note 32 = .ok (.ireturn, 1) := by decide +kernel
theorem dX7_note_33 : decode cX7_note 33 = .ok (.aload_n 0, 1) := by decide +kernel
theorem dX7_note_34 : decode cX7_note 34 = .ok (.getfield 10, 3) := by decide +kernel
theorem dX7_note_37 : decode cX7_note 37 = .ok (.getfield 219, 3) := by decide +kernel
theorem dX7_note_40 : decode cX7_note 40 = .ok (.invokevirtual 206, 3) := by decide +kernel
theorem dX7_note_43 : decode cX7_note 43 = .ok (.ifCond .eq 10, 3) := by decide +kernel
theorem dX7_note_46 : decode cX7_note 46 = .ok (.aload_n 0, 1) := by decide +kernel
theorem dX7_note_47 : decode cX7_note 47 = .ok (.invokevirtual 81, 3) := by decide +kernel
theorem dX7_note_50 : decode cX7_note 50 = .ok (.goto 16, 3) := by decide +kernel
theorem dX7_note_53 : decode cX7_note 53 = .ok (.aload_n 0, 1) := by decide +kernel
theorem dX7_note_54 : decode cX7_note 54 = .ok (.getfield 10, 3) := by decide +kernel
theorem dX7_note_57 : decode cX7_note 57 = .ok (.getfield 219, 3) := by decide +kernel
theorem dX7_note_60 : decode cX7_note 60 = .ok (.iload_n 1, 1) := by decide +kernel
theorem dX7_note_61 : decode cX7_note 61 = .ok (.iload_n 2, 1) := by decide +kernel
theorem dX7_note_62 : decode cX7_note 62 = .ok (.iload_n 3, 1) := by decide +kernel
theorem dX7_note_63 : decode cX7_note 63 = .ok (.invokevirtual 207, 3) := by decide +kernel
theorem dX7_note_66 : decode cX7_note 66 = .ok (.ireturn, 1) := by decide +kernel
theorem dX7_mark_0 : decode cX7_mark 0 = .ok (.aload_n 0, 1) := by decide +kernel
theorem dX7_mark_1 : decode cX7_mark 1 = .ok (.getfield 10, 3) := by decide +kernel
theorem dX7_mark_4 : decode cX7_mark 4 = .ok (.iload_n 1, 1) := by decide +kernel
theorem dX7_mark_5 : decode cX7_mark 5 = .ok (.invokevirtual 106, 3) := by decide +kernel
theorem dX7_mark_8 : decode cX7_mark 8 = .ok (.ifCond .eq 31, 3) := by decide +kernel
theorem dX7_mark_11 : decode cX7_mark 11 = .ok (.iload_n 2, 1) := by decide +kernel
theorem dX7_mark_12 : decode cX7_mark 12 = .ok (.bipush 6, 2) := by decide +kernel
theorem dX7_mark_14 : decode cX7_mark 14 = .ok (.invokestatic 59, 3) := by decide +kernel
theorem dX7_mark_17 : decode cX7_mark 17 = .ok (.ifCond .eq 22, 3) := by decide +kernel
theorem dX7_mark_20 : decode cX7_mark 20 = .ok (.iload_n 3, 1) := by decide +kernel
theorem dX7_mark_21 : decode cX7_mark 21 = .ok (.bipush 100, 2) := by decide +kernel
theorem dX7_mark_23 : decode cX7_mark 23 = .ok (.invokestatic 59, 3) := by decide +kernel
theorem dX7_mark_26 : decode cX7_mark 26 = .ok (.ifCond .eq 13, 3) := by decide +kernel
theorem dX7_mark_29 : decode cX7_mark 29 = .ok (.iload 4, 2) := by decide +kernel
theorem dX7_mark_31 : decode cX7_mark 31 = .ok (.bipush 41, 2) := by decide +kernel
theorem dX7_mark_33 : decode cX7_mark 33 = .ok (.invokestatic 59, 3) := by decide +kernel
theorem dX7_mark_36 : decode cX7_mark 36 = .ok (.ifCond .ne 10, 3) := by decide +kernel
theorem dX7_mark_39 : decode cX7_mark 39 = .ok (.aload_n 0, 1) := by decide +kernel
theorem dX7_mark_40 : decode cX7_mark 40 = .ok (.bipush (-2), 2) := by decide +kernel
theorem dX7_mark_42 : decode cX7_mark 42 = .ok (.invokevirtual 63, 3) := by decide +kernel
theorem dX7_mark_45 : decode cX7_mark 45 = .ok (.ireturn, 1) := by decide +kernel
theorem dX7_mark_46 : decode cX7_mark 46 = .ok (.aload_n 0, 1) := by decide +kernel
theorem dX7_mark_47 : decode cX7_mark 47 = .ok (.getfield 10, 3) := by decide +kernel
theorem dX7_mark_50 : decode cX7_mark 50 = .ok (.getfield 222, 3) := by decide +kernel
theorem dX7_mark_53 : decode cX7_mark 53 = .ok (.invokevirtual 206, 3) := by decide +kernel
theorem dX7_mark_56 : decode cX7_mark 56 = .ok (.ifCond .eq 10, 3) := by decide +kernel
theorem dX7_mark_59 : decode cX7_mark 59 = .ok (.aload_n 0, 1) := by decide +kernel
theorem dX7_mark_60 : decode cX7_mark 60 = .ok (.invokevirtual 81, 3) := by decide +kernel
theorem dX7_mark_63 : decode cX7_mark 63 = .ok (.goto 18, 3) := by decide +kernel
theorem dX7_mark_66 : decode cX7_mark 66 = .ok (.aload_n 0, 1) := by decide +kernel
theorem dX7_mark_67 : decode cX7_mark 67 = .ok (.getfield 10, 3) := by decide +kernel
theorem dX7_mark_70 : decode cX7_mark 70 = .ok (.getfield 222, 3) := by decide +kernel
theorem dX7_mark_73 : decode cX7_mark 73 = .ok (.iload_n 1, 1) := by decide +kernel
theorem dX7_mark_74 : decode cX7_mark 74 = .ok (.iload_n 2, 1) := by decide +kernel
theorem dX7_mark_75 : decode cX7_mark 75 = .ok (.iload_n 3, 1) := by decide +kernel
theorem dX7_mark_76 : decode cX7_mark 76 = .ok (.iload 4, 2) := by decide +kernel
theorem dX7_mark_78 : decode cX7_mark 78 = .ok (.invokevirtual 225, 3) := by decide +kernel
theorem dX7_mark_81 : decode cX7_mark 81 = .ok (.ireturn, 1) := by decide +kernel
theorem dX7_forget_0 : decode cX7_forget 0 = .ok (.iload_n 1, 1) := by decide +kernel
theorem dX7_forget_1 : decode cX7_forget 1 = .ok (.tableswitch 60 0 2 #[27, 38, 49], 27) := by decide +kernel
theorem dX7_forget_28 : decode cX7_forget 28 = .ok (.aload_n 0, 1) := by decide +kernel
theorem dX7_forget_29 : decode cX7_forget 29 = .ok (.getfield 10, 3) := by decide +kernel
theorem dX7_forget_32 : decode cX7_forget 32 = .ok (.getfield 203, 3) := by decide +kernel
theorem dX7_forget_35 : decode cX7_forget 35 = .ok (.invokevirtual 75, 3) := by decide +kernel
theorem dX7_forget_38 : decode cX7_forget 38 = .ok (.ireturn, 1) := by decide +kernel
theorem dX7_forget_39 : decode cX7_forget 39 = .ok (.aload_n 0, 1) := by decide +kernel
theorem dX7_forget_40 : decode cX7_forget 40 = .ok (.getfield 10, 3) := by decide +kernel
theorem dX7_forget_43 : decode cX7_forget 43 = .ok (.getfield 219, 3) := by decide +kernel
theorem dX7_forget_46 : decode cX7_forget 46 = .ok (.invokevirtual 75, 3) := by decide +kernel
theorem dX7_forget_49 : decode cX7_forget 49 = .ok (.ireturn, 1) := by decide +kernel
theorem dX7_forget_50 : decode cX7_forget 50 = .ok (.aload_n 0, 1) := by decide +kernel
theorem dX7_forget_51 : decode cX7_forget 51 = .ok (.getfield 10, 3) := by decide +kernel
theorem dX7_forget_54 : decode cX7_forget 54 = .ok (.getfield 222, 3) := by decide +kernel
theorem dX7_forget_57 : decode cX7_forget 57 = .ok (.invokevirtual 75, 3) := by decide +kernel
theorem dX7_forget_60 : decode cX7_forget 60 = .ok (.ireturn, 1) := by decide +kernel
theorem dX7_forget_61 : decode cX7_forget 61 = .ok (.aload_n 0, 1) := by decide +kernel
theorem dX7_forget_62 : decode cX7_forget 62 = .ok (.bipush (-2), 2) := by decide +kernel
theorem dX7_forget_64 : decode cX7_forget 64 = .ok (.invokevirtual 63, 3) := by decide +kernel
theorem dX7_forget_67 : decode cX7_forget 67 = .ok (.ireturn, 1) := by decide +kernel
theorem dX7_is_0 : decode cX7_is 0 = .ok (.iload_n 1, 1) := by decide +kernel
theorem dX7_is_1 : decode cX7_is 1 = .ok (.iconst 5, 1) := by decide +kernel
theorem dX7_is_2 : decode cX7_is 2 = .ok (.invokestatic 59, 3) := by decide +kernel
theorem dX7_is_5 : decode cX7_is 5 = .ok (.ifCond .eq 11, 3) := by decide +kernel
theorem dX7_is_8 : decode cX7_is 8 = .ok (.aload_n 0, 1) := by decide +kernel
theorem dX7_is_9 : decode cX7_is 9 = .ok (.iload_n 1, 1) := by decide +kernel
theorem dX7_is_10 : decode cX7_is 10 = .ok (.invokevirtual 227, 3) := by decide +kernel
theorem dX7_is_13 : decode cX7_is 13 = .ok (.goto 9, 3) := by decide +kernel
theorem dX7_is_16 : decode cX7_is 16 = .ok (.aload_n 0, 1) := by decide +kernel
theorem dX7_is_17 : decode cX7_is 17 = .ok (.bipush (-2), 2) := by decide +kernel
theorem dX7_is_19 : decode cX7_is 19 = .ok (.invokevirtual 63, 3) := by decide +kernel
theorem dX7_is_22 : decode cX7_is 22 = .ok (.ireturn, 1) := by decide +kernel
theorem dX7_look_0 : decode cX7_look 0 = .ok (.iload_n 1, 1) := by decide +kernel
theorem dX7_look_1 : decode cX7_look 1 = .ok (.iconst 5, 1) := by decide +kernel
theorem dX7_look_2 : decode cX7_look 2 = .ok (.invokestatic 59, 3) := by decide +kernel
theorem dX7_look_5 : decode cX7_look 5 = .ok (.ifCond .ne 10, 3) := by decide +kernel
theorem dX7_look_8 : decode cX7_look 8 = .ok (.aload_n 0, 1) := by decide +kernel
theorem dX7_look_9 : decode cX7_look 9 = .ok (.bipush (-2), 2) := by decide +kernel
theorem dX7_look_11 : decode cX7_look 11 = .ok (.invokevirtual 63, 3) := by decide +kernel
theorem dX7_look_14 : decode cX7_look 14 = .ok (.ireturn, 1) := by decide +kernel
theorem dX7_look_15 : decode cX7_look 15 = .ok (.aload_n 0, 1) := by decide +kernel
theorem dX7_look_16 : decode cX7_look 16 = .ok (.iload_n 1, 1) := by decide +kernel
theorem dX7_look_17 : decode cX7_look 17 = .ok (.invokevirtual 227, 3) := by decide +kernel
theorem dX7_look_20 : decode cX7_look 20 = .ok (.istore_n 2, 1) := by decide +kernel
theorem dX7_look_21 : decode cX7_look 21 = .ok (.iconst (-1), 1) := by decide +kernel
theorem dX7_look_22 : decode cX7_look 22 = .ok (.istore_n 3, 1) := by decide +kernel
theorem dX7_look_23 : decode cX7_look 23 = .ok (.bipush 7, 2) := by decide +kernel
theorem dX7_look_25 : decode cX7_look 25 = .ok (.istore 4, 2) := by decide +kernel
theorem dX7_look_27 : decode cX7_look 27 = .ok (.iconst 0, 1) := by decide +kernel
theorem dX7_look_28 : decode cX7_look 28 = .ok (.istore 5, 2) := by decide +kernel
theorem dX7_look_30 : decode cX7_look 30 = .ok (.iload 5, 2) := by decide +kernel
theorem dX7_look_32 : decode cX7_look 32 = .ok (.bipush 6, 2) := by decide +kernel
theorem dX7_look_34 : decode cX7_look 34 = .ok (.if_icmp .ge 37, 3) := by decide +kernel
theorem dX7_look_37 : decode cX7_look 37 = .ok (.aload_n 0, 1) := by decide +kernel
theorem dX7_look_38 : decode cX7_look 38 = .ok (.iload_n 2, 1) := by decide +kernel
theorem dX7_look_39 : decode cX7_look 39 = .ok (.iload 5, 2) := by decide +kernel
theorem dX7_look_41 : decode cX7_look 41 = .ok (.invokevirtual 230, 3) := by decide +kernel
theorem dX7_look_44 : decode cX7_look 44 = .ok (.istore 6, 2) := by decide +kernel
theorem dX7_look_46 : decode cX7_look 46 = .ok (.iload 6, 2) := by decide +kernel
theorem dX7_look_48 : decode cX7_look 48 = .ok (.ifCond .le 17, 3) := by decide +kernel
theorem dX7_look_51 : decode cX7_look 51 = .ok (.iload 6, 2) := by decide +kernel
theorem dX7_look_53 : decode cX7_look 53 = .ok (.iload 4, 2) := by decide +kernel
theorem dX7_look_55 : decode cX7_look 55 = .ok (.if_icmp .ge 10, 3) := by decide +kernel
theorem dX7_look_58 : decode cX7_look 58 = .ok (.iload 6, 2) := by decide +kernel
theorem dX7_look_60 : decode cX7_look 60 = .ok (.istore 4, 2) := by decide +kernel
theorem dX7_look_62 : decode cX7_look 62 = .ok (.iload 5, 2) := by decide +kernel
theorem dX7_look_64 : decode cX7_look 64 = .ok (.istore_n 3, 1) := by decide +kernel
theorem dX7_look_65 : decode cX7_look 65 = .ok (.iinc 5 1, 3) := by decide +kernel
theorem dX7_look_68 : decode cX7_look 68 = .ok (.goto (-38), 3) := by decide +kernel
theorem dX7_look_71 : decode cX7_look 71 = .ok (.iload_n 3, 1) := by decide +kernel
theorem dX7_look_72 : decode cX7_look 72 = .ok (.ireturn, 1) := by decide +kernel
theorem dX7_kinds_0 : decode cX7_kinds 0 = .ok (.aload_n 0, 1) := by decide +kernel
theorem dX7_kinds_1 : decode cX7_kinds 1 = .ok (.getfield 10, 3) := by decide +kernel
theorem dX7_kinds_4 : decode cX7_kinds 4 = .ok (.iload_n 1, 1) := by decide +kernel
theorem dX7_kinds_5 : decode cX7_kinds 5 = .ok (.invokevirtual 106, 3) := by decide +kernel
theorem dX7_kinds_8 : decode cX7_kinds 8 = .ok (.ifCond .eq 11, 3) := by decide +kernel
theorem dX7_kinds_11 : decode cX7_kinds 11 = .ok (.aload_n 0, 1) := by decide +kernel
theorem dX7_kinds_12 : decode cX7_kinds 12 = .ok (.iload_n 1, 1) := by decide +kernel
theorem dX7_kinds_13 : decode cX7_kinds 13 = .ok (.invokevirtual 233, 3) := by decide +kernel
theorem dX7_kinds_16 : decode cX7_kinds 16 = .ok (.goto 9, 3) := by decide +kernel
theorem dX7_kinds_19 : decode cX7_kinds 19 = .ok (.aload_n 0, 1) := by decide +kernel
theorem dX7_kinds_20 : decode cX7_kinds 20 = .ok (.bipush (-2), 2) := by decide +kernel
theorem dX7_kinds_22 : decode cX7_kinds 22 = .ok (.invokevirtual 63, 3) := by decide +kernel
theorem dX7_kinds_25 : decode cX7_kinds 25 = .ok (.ireturn, 1) := by decide +kernel
theorem dX7_ask_0 : decode cX7_ask 0 = .ok (.aload_n 0, 1) := by decide +kernel
theorem dX7_ask_1 : decode cX7_ask 1 = .ok (.getfield 10, 3) := by decide +kernel
theorem dX7_ask_4 : decode cX7_ask 4 = .ok (.iload_n 1, 1) := by decide +kernel
theorem dX7_ask_5 : decode cX7_ask 5 = .ok (.invokevirtual 106, 3) := by decide +kernel
theorem dX7_ask_8 : decode cX7_ask 8 = .ok (.ifCond .ne 10, 3) := by decide +kernel
theorem dX7_ask_11 : decode cX7_ask 11 = .ok (.aload_n 0, 1) := by decide +kernel
theorem dX7_ask_12 : decode cX7_ask 12 = .ok (.bipush (-2), 2) := by decide +kernel
theorem dX7_ask_14 : decode cX7_ask 14 = .ok (.invokevirtual 63, 3) := by decide +kernel
theorem dX7_ask_17 : decode cX7_ask 17 = .ok (.ireturn, 1) := by decide +kernel
theorem dX7_ask_18 : decode cX7_ask 18 = .ok (.aload_n 0, 1) := by decide +kernel
theorem dX7_ask_19 : decode cX7_ask 19 = .ok (.iload_n 1, 1) := by decide +kernel
theorem dX7_ask_20 : decode cX7_ask 20 = .ok (.invokevirtual 233, 3) := by decide +kernel
theorem dX7_ask_23 : decode cX7_ask 23 = .ok (.istore_n 2, 1) := by decide +kernel
theorem dX7_ask_24 : decode cX7_ask 24 = .ok (.iconst (-1), 1) := by decide +kernel
theorem dX7_ask_25 : decode cX7_ask 25 = .ok (.istore_n 3, 1) := by decide +kernel
theorem dX7_ask_26 : decode cX7_ask 26 = .ok (.bipush 7, 2) := by decide +kernel
theorem dX7_ask_28 : decode cX7_ask 28 = .ok (.istore 4, 2) := by decide +kernel
theorem dX7_ask_30 : decode cX7_ask 30 = .ok (.iconst 0, 1) := by decide +kernel
theorem dX7_ask_31 : decode cX7_ask 31 = .ok (.istore 5, 2) := by decide +kernel
theorem dX7_ask_33 : decode cX7_ask 33 = .ok (.iload 5, 2) := by decide +kernel
theorem dX7_ask_35 : decode cX7_ask 35 = .ok (.bipush 6, 2) := by decide +kernel
theorem dX7_ask_37 : decode cX7_ask 37 = .ok (.if_icmp .ge 61, 3) := by decide +kernel
theorem dX7_ask_40 : decode cX7_ask 40 = .ok (.iconst 0, 1) := by decide +kernel
theorem dX7_ask_41 : decode cX7_ask 41 = .ok (.istore 6, 2) := by decide +kernel
theorem dX7_ask_43 : decode cX7_ask 43 = .ok (.iload 6, 2) := by decide +kernel
theorem dX7_ask_45 : decode cX7_ask 45 = .ok (.bipush 10, 2) := by decide +kernel
theorem dX7_ask_47 : decode cX7_ask 47 = .ok (.if_icmp .gt 45, 3) := by decide +kernel
theorem dX7_ask_50 : decode cX7_ask 50 = .ok (.aload_n 0, 1) := by decide +kernel
theorem dX7_ask_51 : decode cX7_ask 51 = .ok (.iload_n 2, 1) := by decide +kernel
theorem dX7_ask_52 : decode cX7_ask 52 = .ok (.iload 5, 2) := by decide +kernel
theorem dX7_ask_54 : decode cX7_ask 54 = .ok (.iload 6, 2) := by decide +kernel
theorem dX7_ask_56 : decode cX7_ask 56 = .ok (.invokevirtual 236, 3) := by decide +kernel
theorem dX7_ask_59 : decode cX7_ask 59 = .ok (.istore 7, 2) := by decide +kernel
theorem dX7_ask_61 : decode cX7_ask 61 = .ok (.iload 7, 2) := by decide +kernel
theorem dX7_ask_63 : decode cX7_ask 63 = .ok (.ifCond .le 23, 3) := by decide +kernel
theorem dX7_ask_66 : decode cX7_ask 66 = .ok (.iload 7, 2) := by decide +kernel
theorem dX7_ask_68 : decode cX7_ask 68 = .ok (.iload 4, 2) := by decide +kernel
theorem dX7_ask_70 : decode cX7_ask 70 = .ok (.if_icmp .ge 16, 3) := by decide +kernel
theorem dX7_ask_73 : decode cX7_ask 73 = .ok (.iload 7, 2) := by decide +kernel
theorem dX7_ask_75 : decode cX7_ask 75 = .ok (.istore 4, 2) := by decide +kernel
theorem dX7_ask_77 : decode cX7_ask 77 = .ok (.bipush 100, 2) := by decide +kernel
theorem dX7_ask_79 : decode cX7_ask 79 = .ok (.iload 5, 2) := by decide +kernel
theorem dX7_ask_81 : decode cX7_ask 81 = .ok (.imul, 1) := by decide +kernel
theorem dX7_ask_82 : decode cX7_ask 82 = .ok (.iload 6, 2) := by decide +kernel
theorem dX7_ask_84 : decode cX7_ask 84 = .ok (.iadd, 1) := by decide +kernel
theorem dX7_ask_85 : decode cX7_ask 85 = .ok (.istore_n 3, 1) := by decide +kernel
theorem dX7_ask_86 : decode cX7_ask 86 = .ok (.iinc 6 1, 3) := by decide +kernel
theorem dX7_ask_89 : decode cX7_ask 89 = .ok (.goto (-46), 3) := by decide +kernel
theorem dX7_ask_92 : decode cX7_ask 92 = .ok (.iinc 5 1, 3) := by decide +kernel
theorem dX7_ask_95 : decode cX7_ask 95 = .ok (.goto (-62), 3) := by decide +kernel
theorem dX7_ask_98 : decode cX7_ask 98 = .ok (.iload_n 3, 1) := by decide +kernel
theorem dX7_ask_99 : decode cX7_ask 99 = .ok (.ireturn, 1) := by decide +kernel
theorem dX7_whispers_0 : decode cX7_whispers 0 = .ok (.aload_n 0, 1) := by decide +kernel
theorem dX7_whispers_1 : decode cX7_whispers 1 = .ok (.getfield 10, 3) := by decide +kernel
theorem dX7_whispers_4 : decode cX7_whispers 4 = .ok (.iload_n 1, 1) := by decide +kernel
theorem dX7_whispers_5 : decode cX7_whispers 5 = .ok (.invokevirtual 106, 3) := by decide +kernel
theorem dX7_whispers_8 : decode cX7_whispers 8 = .ok (.ifCond .eq 28, 3) := by decide +kernel
theorem dX7_whispers_11 : decode cX7_whispers 11 = .ok (.aload_n 0, 1) := by decide +kernel
theorem dX7_whispers_12 : decode cX7_whispers 12 = .ok (.getfield 10, 3) := by decide +kernel
theorem dX7_whispers_15 : decode cX7_whispers 15 = .ok (.iload_n 2, 1) := by decide +kernel
theorem dX7_whispers_16 : decode cX7_whispers 16 = .ok (.invokevirtual 106, 3) := by decide +kernel
theorem dX7_whispers_19 : decode cX7_whispers 19 = .ok (.ifCond .eq 17, 3) := by decide +kernel
theorem dX7_whispers_22 : decode cX7_whispers 22 = .ok (.iload_n 1, 1) := by decide +kernel
theorem dX7_whispers_23 : decode cX7_whispers 23 = .ok (.iload_n 2, 1) := by decide +kernel
theorem dX7_whispers_24 : decode cX7_whispers 24 = .ok (.if_icmp .eq 12, 3) := by decide +kernel
theorem dX7_whispers_27 : decode cX7_whispers 27 = .ok (.iload_n 3, 1) := by decide +kernel
theorem dX7_whispers_28 : decode cX7_whispers 28 = .ok (.bipush 30, 2) := by decide +kernel
theorem dX7_whispers_30 : decode cX7_whispers 30 = .ok (.invokestatic 59, 3) := by decide +kernel
theorem dX7_whispers_33 : decode cX7_whispers 33 = .ok (.ifCond .ne 10, 3) := by decide +kernel
theorem dX7_whispers_36 : decode cX7_whispers 36 = .ok (.aload_n 0, 1) := by decide +kernel
theorem dX7_whispers_37 : decode cX7_whispers 37 = .ok (.bipush (-2), 2) := by decide +kernel
theorem dX7_whispers_39 : decode cX7_whispers 39 = .ok (.invokevirtual 63, 3) := by decide +kernel
theorem dX7_whispers_42 : decode cX7_whispers 42 = .ok (.ireturn, 1) := by decide +kernel
theorem dX7_whispers_43 : decode cX7_whispers 43 = .ok (.aload_n 0, 1) := by decide +kernel
theorem dX7_whispers_44 : decode cX7_whispers 44 = .ok (.getfield 10, 3) := by decide +kernel
theorem dX7_whispers_47 : decode cX7_whispers 47 = .ok (.iload_n 3, 1) := by decide +kernel
theorem dX7_whispers_48 : decode cX7_whispers 48 = .ok (.invokevirtual 166, 3) := by decide +kernel
theorem dX7_whispers_51 : decode cX7_whispers 51 = .ok (.istore 4, 2) := by decide +kernel
theorem dX7_whispers_53 : decode cX7_whispers 53 = .ok (.iload 4, 2) := by decide +kernel
theorem dX7_whispers_55 : decode cX7_whispers 55 = .ok (.iconst 2, 1) := by decide +kernel
theorem dX7_whispers_56 : decode cX7_whispers 56 = .ok (.idiv, 1) := by decide +kernel
theorem dX7_whispers_57 : decode cX7_whispers 57 = .ok (.istore 5, 2) := by decide +kernel
theorem dX7_whispers_59 : decode cX7_whispers 59 = .ok (.iconst 2, 1) := by decide +kernel
theorem dX7_whispers_60 : decode cX7_whispers 60 = .ok (.istore 6, 2) := by decide +kernel
theorem dX7_whispers_62 : decode cX7_whispers 62 = .ok (.aload_n 0, 1) := by decide +kernel
theorem dX7_whispers_63 : decode cX7_whispers 63 = .ok (.getfield 10, 3) := by decide +kernel
theorem dX7_whispers_66 : decode cX7_whispers 66 = .ok (.iload_n 1, 1) := by decide +kernel
theorem dX7_whispers_67 : decode cX7_whispers 67 = .ok (.iload_n 3, 1) := by decide +kernel
theorem dX7_whispers_68 : decode cX7_whispers 68 = .ok (.invokevirtual 169, 3) := by decide +kernel
theorem dX7_whispers_71 : decode cX7_whispers 71 = .ok (.ineg, 1) := by decide +kernel
theorem dX7_whispers_72 : decode cX7_whispers 72 = .ok (.istore 7, 2) := by decide +kernel
theorem dX7_whispers_74 : decode cX7_whispers 74 = .ok (.aload_n 0, 1) := by decide +kernel
theorem dX7_whispers_75 : decode cX7_whispers 75 = .ok (.getfield 10, 3) := by decide +kernel
theorem dX7_whispers_78 : decode cX7_whispers 78 = .ok (.iload_n 2, 1) := by decide +kernel
theorem dX7_whispers_79 : decode cX7_whispers 79 = .ok (.iload_n 3, 1) := by decide +kernel
theorem dX7_whispers_80 : decode cX7_whispers 80 = .ok (.invokevirtual 169, 3) := by decide +kernel
theorem dX7_whispers_83 : decode cX7_whispers 83 = .ok (.ineg, 1) := by decide +kernel
theorem dX7_whispers_84 : decode cX7_whispers 84 = .ok (.istore 8, 2) := by decide +kernel
theorem dX7_whispers_86 : decode cX7_whispers 86 = .ok (.iconst 0, 1) := by decide +kernel
theorem dX7_whispers_87 : decode cX7_whispers 87 = .ok (.istore 9, 2) := by decide +kernel
theorem dX7_whispers_89 : decode cX7_whispers 89 = .ok (.iload 5, 2) := by decide +kernel
theorem dX7_whispers_91 : decode cX7_whispers 91 = .ok (.iload 4, 2) := by decide +kernel
theorem dX7_whispers_93 : decode cX7_whispers 93 = .ok (.if_icmp .lt 9, 3) := by decide +kernel
theorem dX7_whispers_96 : decode cX7_whispers 96 = .ok (.iload 9, 2) := by decide +kernel
theorem dX7_whispers_98 : decode cX7_whispers 98 = .ok (.iconst 1, 1) := by decide +kernel
theorem dX7_whispers_99 : decode cX7_whispers 99 = .ok (.ior, 1) := by decide +kernel
theorem dX7_whispers_100 : decode cX7_whispers 100 = .ok (.istore 9, 2) := by decide +kernel
theorem dX7_whispers_102 : decode cX7_whispers 102 = .ok (.iload 4, 2) := by decide +kernel
theorem dX7_whispers_104 : decode cX7_whispers 104 = .ok (.iload 5, 2) := by decide +kernel
theorem dX7_whispers_106 : decode cX7_whispers 106 = .ok (.if_icmp .lt 16, 3) := by decide +kernel
theorem dX7_whispers_109 : decode cX7_whispers 109 = .ok (.iload 6, 2) := by decide +kernel
theorem dX7_whispers_111 : decode cX7_whispers 111 = .ok (.iload 8, 2) := by decide +kernel
theorem dX7_whispers_113 : decode cX7_whispers 113 = .ok (.if_icmp .lt 9, 3) := by decide +kernel
theorem dX7_whispers_116 : decode cX7_whispers 116 = .ok (.iload 9, 2) := by decide +kernel
theorem dX7_whispers_118 : decode cX7_whispers 118 = .ok (.iconst 2, 1) := by decide +kernel
theorem dX7_whispers_119 : decode cX7_whispers 119 = .ok (.ior, 1) := by decide +kernel
theorem dX7_whispers_120 : decode cX7_whispers 120 = .ok (.istore 9, 2) := by decide +kernel
theorem dX7_whispers_122 : decode cX7_whispers 122 = .ok (.iload 4, 2) := by decide +kernel
theorem dX7_whispers_124 : decode cX7_whispers 124 = .ok (.iload 5, 2) := by decide +kernel
theorem dX7_whispers_126 : decode cX7_whispers 126 = .ok (.if_icmp .lt 16, 3) := by decide +kernel
theorem dX7_whispers_129 : decode cX7_whispers 129 = .ok (.iload 6, 2) := by decide +kernel
theorem dX7_whispers_131 : decode cX7_whispers 131 = .ok (.iload 7, 2) := by decide +kernel
theorem dX7_whispers_133 : decode cX7_whispers 133 = .ok (.if_icmp .lt 9, 3) := by decide +kernel
theorem dX7_whispers_136 : decode cX7_whispers 136 = .ok (.iload 9, 2) := by decide +kernel
theorem dX7_whispers_138 : decode cX7_whispers 138 = .ok (.iconst 4, 1) := by decide +kernel
theorem dX7_whispers_139 : decode cX7_whispers 139 = .ok (.ior, 1) := by decide +kernel
theorem dX7_whispers_140 : decode cX7_whispers 140 = .ok (.istore 9, 2) := by decide +kernel
theorem dX7_whispers_142 : decode cX7_whispers 142 = .ok (.iload 7, 2) := by decide +kernel
theorem dX7_whispers_144 : decode cX7_whispers 144 = .ok (.iload 6, 2) := by decide +kernel
theorem dX7_whispers_146 : decode cX7_whispers 146 = .ok (.if_icmp .lt 17, 3) := by decide +kernel
theorem dX7_whispers_149 : decode cX7_whispers 149 = .ok (.iload 8, 2) := by decide +kernel
theorem dX7_whispers_151 : decode cX7_whispers 151 = .ok (.iload 6, 2) := by decide +kernel
theorem dX7_whispers_153 : decode cX7_whispers 153 = .ok (.if_icmp .lt 10, 3) := by decide +kernel
theorem dX7_whispers_156 : decode cX7_whispers 156 = .ok (.iload 9, 2) := by decide +kernel
theorem dX7_whispers_158 : decode cX7_whispers 158 = .ok (.bipush 8, 2) := by decide +kernel
theorem dX7_whispers_160 : decode cX7_whispers 160 = .ok (.ior, 1) := by decide +kernel
theorem dX7_whispers_161 : decode cX7_whispers 161 = .ok (.istore 9, 2) := by decide +kernel
theorem dX7_whispers_163 : decode cX7_whispers 163 = .ok (.iload 9, 2) := by decide +kernel
theorem dX7_whispers_165 : decode cX7_whispers 165 = .ok (.ireturn, 1) := by decide +kernel
theorem dX7_wet_0 : decode cX7_wet 0 = .ok (.aload_n 0, 1) := by decide +kernel
theorem dX7_wet_1 : decode cX7_wet 1 = .ok (.getfield 10, 3) := by decide +kernel
theorem dX7_wet_4 : decode cX7_wet 4 = .ok (.iload_n 1, 1) := by decide +kernel
theorem dX7_wet_5 : decode cX7_wet 5 = .ok (.invokevirtual 106, 3) := by decide +kernel
theorem dX7_wet_8 : decode cX7_wet 8 = .ok (.ifCond .eq 12, 3) := by decide +kernel
theorem dX7_wet_11 : decode cX7_wet 11 = .ok (.iload_n 2, 1) := by decide +kernel
theorem dX7_wet_12 : decode cX7_wet 12 = .ok (.bipush 11, 2) := by decide +kernel
theorem dX7_wet_14 : decode cX7_wet 14 = .ok (.invokestatic 59, 3) := by decide +kernel
theorem dX7_wet_17 : decode cX7_wet 17 = .ok (.ifCond .ne 10, 3) := by decide +kernel
theorem dX7_wet_20 : decode cX7_wet 20 = .ok (.aload_n 0, 1) := by decide +kernel
theorem dX7_wet_21 : decode cX7_wet 21 = .ok (.bipush (-2), 2) := by decide +kernel
theorem dX7_wet_23 : decode cX7_wet 23 = .ok (.invokevirtual 63, 3) := by decide +kernel
theorem dX7_wet_26 : decode cX7_wet 26 = .ok (.ireturn, 1) := by decide +kernel
theorem dX7_wet_27 : decode cX7_wet 27 = .ok (.aload_n 0, 1) := by decide +kernel
theorem dX7_wet_28 : decode cX7_wet 28 = .ok (.getfield 10, 3) := by decide +kernel
theorem dX7_wet_31 : decode cX7_wet 31 = .ok (.iload_n 1, 1) := by decide +kernel
theorem dX7_wet_32 : decode cX7_wet 32 = .ok (.invokevirtual 110, 3) := by decide +kernel
theorem dX7_wet_35 : decode cX7_wet 35 = .ok (.ifCond .eq 10, 3) := by decide +kernel
theorem dX7_wet_38 : decode cX7_wet 38 = .ok (.aload_n 0, 1) := by decide +kernel
theorem dX7_wet_39 : decode cX7_wet 39 = .ok (.bipush (-3), 2) := by decide +kernel
theorem dX7_wet_41 : decode cX7_wet 41 = .ok (.invokevirtual 119, 3) := by decide +kernel
theorem dX7_wet_44 : decode cX7_wet 44 = .ok (.ireturn, 1) := by decide +kernel
theorem dX7_wet_45 : decode cX7_wet 45 = .ok (.aload_n 0, 1) := by decide +kernel
theorem dX7_wet_46 : decode cX7_wet 46 = .ok (.getfield 10, 3) := by decide +kernel
theorem dX7_wet_49 : decode cX7_wet 49 = .ok (.getfield 157, 3) := by decide +kernel
theorem dX7_wet_52 : decode cX7_wet 52 = .ok (.iload_n 1, 1) := by decide +kernel
theorem dX7_wet_53 : decode cX7_wet 53 = .ok (.iaload, 1) := by decide +kernel
theorem dX7_wet_54 : decode cX7_wet 54 = .ok (.istore_n 3, 1) := by decide +kernel
theorem dX7_wet_55 : decode cX7_wet 55 = .ok (.iload_n 3, 1) := by decide +kernel
theorem dX7_wet_56 : decode cX7_wet 56 = .ok (.bipush 6, 2) := by decide +kernel
theorem dX7_wet_58 : decode cX7_wet 58 = .ok (.iadd, 1) := by decide +kernel
theorem dX7_wet_59 : decode cX7_wet 59 = .ok (.bipush 30, 2) := by decide +kernel
theorem dX7_wet_61 : decode cX7_wet 61 = .ok (.if_icmp .ge 10, 3) := by decide +kernel
theorem dX7_wet_64 : decode cX7_wet 64 = .ok (.iload_n 3, 1) := by decide +kernel
theorem dX7_wet_65 : decode cX7_wet 65 = .ok (.bipush 6, 2) := by decide +kernel
theorem dX7_wet_67 : decode cX7_wet 67 = .ok (.iadd, 1) := by decide +kernel
theorem dX7_wet_68 : decode cX7_wet 68 = .ok (.goto 4, 3) := by decide +kernel
theorem dX7_wet_71 : decode cX7_wet 71 = .ok (.iload_n 3, 1) := by decide +kernel
theorem dX7_wet_72 : decode cX7_wet 72 = .ok (.istore 4, 2) := by decide +kernel
theorem dX7_wet_74 : decode cX7_wet 74 = .ok (.aload_n 0, 1) := by decide +kernel
theorem dX7_wet_75 : decode cX7_wet 75 = .ok (.bipush 10, 2) := by decide +kernel
theorem dX7_wet_77 : decode cX7_wet 77 = .ok (.iload_n 2, 1) := by decide +kernel
theorem dX7_wet_78 : decode cX7_wet 78 = .ok (.isub, 1) := by decide +kernel
theorem dX7_wet_79 : decode cX7_wet 79 = .ok (.aload_n 0, 1) := by decide +kernel
theorem dX7_wet_80 : decode cX7_wet 80 = .ok (.getfield 10, 3) := by decide +kernel
theorem dX7_wet_83 : decode cX7_wet 83 = .ok (.iload_n 1, 1) := by decide +kernel
theorem dX7_wet_84 : decode cX7_wet 84 = .ok (.iload_n 3, 1) := by decide +kernel
theorem dX7_wet_85 : decode cX7_wet 85 = .ok (.invokevirtual 169, 3) := by decide +kernel
theorem dX7_wet_88 : decode cX7_wet 88 = .ok (.imul, 1) := by decide +kernel
theorem dX7_wet_89 : decode cX7_wet 89 = .ok (.iload_n 2, 1) := by decide +kernel
theorem dX7_wet_90 : decode cX7_wet 90 = .ok (.aload_n 0, 1) := by decide +kernel
theorem dX7_wet_91 : decode cX7_wet 91 = .ok (.getfield 10, 3) := by decide +kernel
theorem dX7_wet_94 : decode cX7_wet 94 = .ok (.iload_n 1, 1) := by decide +kernel
theorem dX7_wet_95 : decode cX7_wet 95 = .ok (.iload 4, 2) := by decide +kernel
theorem dX7_wet_97 : decode cX7_wet 97 = .ok (.invokevirtual 169, 3) := by decide +kernel
theorem dX7_wet_100 : decode cX7_wet 100 = .ok (.imul, 1) := by decide +kernel
theorem dX7_wet_101 : decode cX7_wet 101 = .ok (.iadd, 1) := by decide +kernel
theorem dX7_wet_102 : decode cX7_wet 102 = .ok (.invokevirtual 239, 3) := by decide +kernel
theorem dX7_wet_105 : decode cX7_wet 105 = .ok (.iconst 1, 1) := by decide +kernel
theorem dX7_wet_106 : decode cX7_wet 106 = .ok (.ireturn, 1) := by decide +kernel
theorem dX7_evenings_0 : decode cX7_evenings 0 = .ok (.iload_n 1, 1) := by decide +kernel
theorem dX7_evenings_1 : decode cX7_evenings 1 = .ok (.ldc 243, 2) := by decide +kernel
theorem dX7_evenings_3 : decode cX7_evenings 3 = .ok (.invokestatic 59, 3) := by decide +kernel
theorem dX7_evenings_6 : decode cX7_evenings 6 = .ok (.ifCond .eq 12, 3) := by decide +kernel
theorem dX7_evenings_9 : decode cX7_evenings 9 = .ok (.iload_n 2, 1) := by decide +kernel
theorem dX7_evenings_10 : decode cX7_evenings 10 = .ok (.bipush 61, 2) := by decide +kernel
theorem dX7_evenings_12 : decode cX7_evenings 12 = .ok (.invokestatic 59, 3) := by decide +kernel
theorem dX7_evenings_15 : decode cX7_evenings 15 = .ok (.ifCond .ne 10, 3) := by decide +kernel
theorem dX7_evenings_18 : decode cX7_evenings 18 = .ok (.aload_n 0, 1) := by decide +kernel
theorem dX7_evenings_19 : decode cX7_evenings 19 = .ok (.bipush (-2), 2) := by decide +kernel
theorem dX7_evenings_21 : decode cX7_evenings 21 = .ok (.invokevirtual 63, 3) := by decide +kernel
theorem dX7_evenings_24 : decode cX7_evenings 24 = .ok (.ireturn, 1) := by decide +kernel
theorem dX7_evenings_25 : decode cX7_evenings 25 = .ok (.aload_n 0, 1) := by decide +kernel
theorem dX7_evenings_26 : decode cX7_evenings 26 = .ok (.getfield 16, 3) := by decide +kernel
theorem dX7_evenings_29 : decode cX7_evenings 29 = .ok (.aload_n 0, 1) := by decide +kernel
theorem dX7_evenings_30 : decode cX7_evenings 30 = .ok (.getfield 10, 3) := by decide +kernel
theorem dX7_evenings_33 : decode cX7_evenings 33 = .ok (.invokevirtual 102, 3) := by decide +kernel
theorem dX7_evenings_36 : decode cX7_evenings 36 = .ok (.iload_n 1, 1) := by decide +kernel
theorem dX7_evenings_37 : decode cX7_evenings 37 = .ok (.i2l, 1) := by decide +kernel
theorem dX7_evenings_38 : decode cX7_evenings 38 = .ok (.lstore_n 3, 1) := by decide +kernel
theorem dX7_evenings_39 : decode cX7_evenings 39 = .ok (.iconst 0, 1) := by decide +kernel
theorem dX7_evenings_40 : decode cX7_evenings 40 = .ok (.istore 5, 2) := by decide +kernel
theorem dX7_evenings_42 : decode cX7_evenings 42 = .ok (.iconst 0, 1) := by decide +kernel
theorem dX7_evenings_43 : decode cX7_evenings 43 = .ok (.istore 6, 2) := by decide +kernel
theorem dX7_evenings_45 : decode cX7_evenings 45 = .ok (.iload 6, 2) := by decide +kernel
theorem dX7_evenings_47 : decode cX7_evenings 47 = .ok (.iload_n 2, 1) := by decide +kernel
theorem dX7_evenings_48 : decode cX7_evenings 48 = .ok (.if_icmp .ge 55, 3) := by decide +kernel
theorem dX7_evenings_51 : decode cX7_evenings 51 = .ok (.lload_n 3, 1) := by decide +kernel
theorem dX7_evenings_52 : decode cX7_evenings 52 = .ok (.ldc2_w 244, 3) := by decide +kernel
theorem dX7_evenings_55 : decode cX7_evenings 55 = .ok (.lmul, 1) := by decide +kernel
theorem dX7_evenings_56 : decode cX7_evenings 56 = .ok (.ldc2_w 246, 3) := by decide +kernel
theorem dX7_evenings_59 : decode cX7_evenings 59 = .ok (.ladd, 1) := by decide +kernel
theorem dX7_evenings_60 : decode cX7_evenings 60 = .ok (.ldc2_w 248, 3) := by decide +kernel
theorem dX7_evenings_63 : decode cX7_evenings 63 = .ok (.lrem, 1) := by decide +kernel
theorem dX7_evenings_64 : decode cX7_evenings 64 = .ok (.lstore_n 3, 1) := by decide +kernel
theorem dX7_evenings_65 : decode cX7_evenings 65 = .ok (.iload 5, 2) := by decide +kernel
theorem dX7_evenings_67 : decode cX7_evenings 67 = .ok (.aload_n 0, 1) := by decide +kernel
theorem dX7_evenings_68 : decode cX7_evenings 68 = .ok (.getfield 16, 3) := by decide +kernel
theorem dX7_evenings_71 : decode cX7_evenings 71 = .ok (.lload_n 3, 1) := by decide +kernel
theorem dX7_evenings_72 : decode cX7_evenings 72 = .ok (.ldc2_w 250, 3) := by decide +kernel
theorem dX7_evenings_75 : decode cX7_evenings 75 = .ok (.ldiv, 1) := by decide +kernel
theorem dX7_evenings_76 : decode cX7_evenings 76 = .ok (.ldc2_w 252, 3) := by decide +kernel
theorem dX7_evenings_79 : decode cX7_evenings 79 = .ok (.lrem, 1) := by decide +kernel
theorem dX7_evenings_80 : decode cX7_evenings 80 = .ok (.l2i, 1) := by decide +kernel
theorem dX7_evenings_81 : decode cX7_evenings 81 = .ok (.lload_n 3, 1) := by decide +kernel
theorem dX7_evenings_82 : decode cX7_evenings 82 = .ok (.ldc2_w 254, 3) := by decide +kernel
theorem dX7_evenings_85 : decode cX7_evenings 85 = .ok (.ldiv, 1) := by decide +kernel
theorem dX7_evenings_86 : decode cX7_evenings 86 = .ok (.ldc2_w 256, 3) := by decide +kernel
theorem dX7_evenings_89 : decode cX7_evenings 89 = .ok (.lrem, 1) := by decide +kernel
theorem dX7_evenings_90 : decode cX7_evenings 90 = .ok (.l2i, 1) := by decide +kernel
theorem dX7_evenings_91 : decode cX7_evenings 91 = .ok (.invokevirtual 258, 3) := by decide +kernel
theorem dX7_evenings_94 : decode cX7_evenings 94 = .ok (.iadd, 1) := by decide +kernel
theorem dX7_evenings_95 : decode cX7_evenings 95 = .ok (.istore 5, 2) := by decide +kernel
theorem dX7_evenings_97 : decode cX7_evenings 97 = .ok (.iinc 6 1, 3) := by decide +kernel
theorem dX7_evenings_100 : decode cX7_evenings 100 = .ok (.goto (-55), 3) := by decide +kernel
theorem dX7_evenings_103 : decode cX7_evenings 103 = .ok (.iload 5, 2) := by decide +kernel
theorem dX7_evenings_105 : decode cX7_evenings 105 = .ok (.ireturn, 1) := by decide +kernel
theorem dX7_part_0 : decode cX7_part 0 = .ok (.iload_n 1, 1) := by decide +kernel
theorem dX7_part_1 : decode cX7_part 1 = .ok (.lookupswitch 37 #[(0, 27), (1, 32)], 27) := by decide +kernel
theorem dX7_part_28 : decode cX7_part 28 = .ok (.aload_n 0, 1) := by decide +kernel
theorem dX7_part_29 : decode cX7_part 29 = .ok (.getfield 261, 3) := by decide +kernel
theorem dX7_part_32 : decode cX7_part 32 = .ok (.lreturn, 1) := by decide +kernel
theorem dX7_part_33 : decode cX7_part 33 = .ok (.aload_n 0, 1) := by decide +kernel
theorem dX7_part_34 : decode cX7_part 34 = .ok (.getfield 48, 3) := by decide +kernel
theorem dX7_part_37 : decode cX7_part 37 = .ok (.lreturn, 1) := by decide +kernel
theorem dX7_part_38 : decode cX7_part 38 = .ok (.aload_n 0, 1) := by decide +kernel
theorem dX7_part_39 : decode cX7_part 39 = .ok (.bipush (-2), 2) := by decide +kernel
theorem dX7_part_41 : decode cX7_part 41 = .ok (.invokevirtual 63, 3) := by decide +kernel
theorem dX7_part_44 : decode cX7_part 44 = .ok (.i2l, 1) := by decide +kernel
theorem dX7_part_45 : decode cX7_part 45 = .ok (.lreturn, 1) := by decide +kernel
theorem dX7_image_0 : decode cX7_image 0 = .ok (.iload_n 1, 1) := by decide +kernel
theorem dX7_image_1 : decode cX7_image 1 = .ok (.aload_n 0, 1) := by decide +kernel
theorem dX7_image_2 : decode cX7_image 2 = .ok (.getfield 19, 3) := by decide +kernel
theorem dX7_image_5 : decode cX7_image 5 = .ok (.arraylength, 1) := by decide +kernel
theorem dX7_image_6 : decode cX7_image 6 = .ok (.invokestatic 59, 3) := by decide +kernel
theorem dX7_image_9 : decode cX7_image 9 = .ok (.ifCond .ne 10, 3) := by decide +kernel
theorem dX7_image_12 : decode cX7_image 12 = .ok (.aload_n 0, 1) := by decide +kernel
theorem dX7_image_13 : decode cX7_image 13 = .ok (.bipush (-2), 2) := by decide +kernel
theorem dX7_image_15 : decode cX7_image 15 = .ok (.invokevirtual 63, 3) := by decide +kernel
theorem dX7_image_18 : decode cX7_image 18 = .ok (.ireturn, 1) := by decide +kernel
theorem dX7_image_19 : decode cX7_image 19 = .ok (.aload_n 0, 1) := by decide +kernel
theorem dX7_image_20 : decode cX7_image 20 = .ok (.getfield 19, 3) := by decide +kernel
theorem dX7_image_23 : decode cX7_image 23 = .ok (.iload_n 1, 1) := by decide +kernel
theorem dX7_image_24 : decode cX7_image 24 = .ok (.aaload, 1) := by decide +kernel
theorem dX7_image_25 : decode cX7_image 25 = .ok (.aload_n 0, 1) := by decide +kernel
theorem dX7_image_26 : decode cX7_image 26 = .ok (.getfield 10, 3) := by decide +kernel
theorem dX7_image_29 : decode cX7_image 29 = .ok (.invokevirtual 102, 3) := by decide +kernel
theorem dX7_image_32 : decode cX7_image 32 = .ok (.aload_n 0, 1) := by decide +kernel
theorem dX7_image_33 : decode cX7_image 33 = .ok (.getfield 23, 3) := by decide +kernel
theorem dX7_image_36 : decode cX7_image 36 = .ok (.iload_n 1, 1) := by decide +kernel
theorem dX7_image_37 : decode cX7_image 37 = .ok (.iconst 1, 1) := by decide +kernel
theorem dX7_image_38 : decode cX7_image 38 = .ok (.bastore, 1) := by decide +kernel
theorem dX7_image_39 : decode cX7_image 39 = .ok (.iconst 1, 1) := by decide +kernel
theorem dX7_image_40 : decode cX7_image 40 = .ok (.ireturn, 1) := by decide +kernel
theorem dX7_from_0 : decode cX7_from 0 = .ok (.iload_n 1, 1) := by decide +kernel
theorem dX7_from_1 : decode cX7_from 1 = .ok (.aload_n 0, 1) := by decide +kernel
theorem dX7_from_2 : decode cX7_from 2 = .ok (.getfield 19, 3) := by decide +kernel
theorem dX7_from_5 : decode cX7_from 5 = .ok (.arraylength, 1) := by decide +kernel
theorem dX7_from_6 : decode cX7_from 6 = .ok (.invokestatic 59, 3) := by decide +kernel
theorem dX7_from_9 : decode cX7_from 9 = .ok (.ifCond .ne 10, 3) := by decide +kernel
theorem dX7_from_12 : decode cX7_from 12 = .ok (.aload_n 0, 1) := by decide +kernel
theorem dX7_from_13 : decode cX7_from 13 = .ok (.bipush (-2), 2) := by decide +kernel
theorem dX7_from_15 : decode cX7_from 15 = .ok (.invokevirtual 63, 3) := by decide +kernel
theorem dX7_from_18 : decode cX7_from 18 = .ok (.ireturn, 1) := by decide +kernel
theorem dX7_from_19 : decode cX7_from 19 = .ok (.aload_n 0, 1) := by decide +kernel
theorem dX7_from_20 : decode cX7_from 20 = .ok (.getfield 23, 3) := by decide +kernel
theorem dX7_from_23 : decode cX7_from 23 = .ok (.iload_n 1, 1) := by decide +kernel
theorem dX7_from_24 : decode cX7_from 24 = .ok (.baload, 1) := by decide +kernel
theorem dX7_from_25 : decode cX7_from 25 = .ok (.ifCond .ne 10, 3) := by decide +kernel
theorem dX7_from_28 : decode cX7_from 28 = .ok (.aload_n 0, 1) := by decide +kernel
theorem dX7_from_29 : decode cX7_from 29 = .ok (.bipush (-3), 2) := by decide +kernel
theorem dX7_from_31 : decode cX7_from 31 = .ok (.invokevirtual 119, 3) := by decide +kernel
theorem dX7_from_34 : decode cX7_from 34 = .ok (.ireturn, 1) := by decide +kernel
theorem dX7_from_35 : decode cX7_from 35 = .ok (.aload_n 0, 1) := by decide +kernel
theorem dX7_from_36 : decode cX7_from 36 = .ok (.getfield 10, 3) := by decide +kernel
theorem dX7_from_39 : decode cX7_from 39 = .ok (.aload_n 0, 1) := by decide +kernel
theorem dX7_from_40 : decode cX7_from 40 = .ok (.getfield 19, 3) := by decide +kernel
theorem dX7_from_43 : decode cX7_from 43 = .ok (.iload_n 1, 1) := by decide +kernel
theorem dX7_from_44 : decode cX7_from 44 = .ok (.aaload, 1) := by decide +kernel
theorem dX7_from_45 : decode cX7_from 45 = .ok (.invokevirtual 102, 3) := by decide +kernel
theorem dX7_from_48 : decode cX7_from 48 = .ok (.iconst 1, 1) := by decide +kernel
theorem dX7_from_49 : decode cX7_from 49 = .ok (.ireturn, 1) := by decide +kernel
theorem dX7_status_0 : decode cX7_status 0 = .ok (.iload_n 1, 1) := by decide +kernel
theorem dX7_status_1 : decode cX7_status 1 = .ok (.tableswitch 42 0 2 #[27, 32, 37], 27) := by decide +kernel
theorem dX7_status_28 : decode cX7_status 28 = .ok (.aload_n 0, 1) := by decide +kernel
theorem dX7_status_29 : decode cX7_status 29 = .ok (.getfield 264, 3) := by decide +kernel
theorem dX7_status_32 : decode cX7_status 32 = .ok (.ireturn, 1) := by decide +kernel
theorem dX7_status_33 : decode cX7_status 33 = .ok (.aload_n 0, 1) := by decide +kernel
theorem dX7_status_34 : decode cX7_status 34 = .ok (.getfield 267, 3) := by decide +kernel
theorem dX7_status_37 : decode cX7_status 37 = .ok (.ireturn, 1) := by decide +kernel
theorem dX7_status_38 : decode cX7_status 38 = .ok (.aload_n 0, 1) := by decide +kernel
theorem dX7_status_39 : decode cX7_status 39 = .ok (.getfield 270, 3) := by decide +kernel
theorem dX7_status_42 : decode cX7_status 42 = .ok (.ireturn, 1) := by decide +kernel
theorem dX7_status_43 : decode cX7_status 43 = .ok (.aload_n 0, 1) := by decide +kernel
theorem dX7_status_44 : decode cX7_status 44 = .ok (.iconst (-1), 1) := by decide +kernel
theorem dX7_status_45 : decode cX7_status 45 = .ok (.invokevirtual 63, 3) := by decide +kernel
theorem dX7_status_48 : decode cX7_status 48 = .ok (.ireturn, 1) := by decide +kernel
theorem dX7_count_0 : decode cX7_count 0 = .ok (.iload_n 1, 1) := by decide +kernel
theorem dX7_count_1 : decode cX7_count 1 = .ok (.bipush 10, 2) := by decide +kernel
theorem dX7_count_3 : decode cX7_count 3 = .ok (.invokestatic 59, 3) := by decide +kernel
theorem dX7_count_6 : decode cX7_count 6 = .ok (.ifCond .eq 11, 3) := by decide +kernel
theorem dX7_count_9 : decode cX7_count 9 = .ok (.aload_n 0, 1) := by decide +kernel
theorem dX7_count_10 : decode cX7_count 10 = .ok (.iload_n 1, 1) := by decide +kernel
theorem dX7_count_11 : decode cX7_count 11 = .ok (.invokevirtual 273, 3) := by decide +kernel
theorem dX7_count_14 : decode cX7_count 14 = .ok (.goto 9, 3) := by decide +kernel
theorem dX7_count_17 : decode cX7_count 17 = .ok (.aload_n 0, 1) := by decide +kernel
theorem dX7_count_18 : decode cX7_count 18 = .ok (.bipush (-2), 2) := by decide +kernel
theorem dX7_count_20 : decode cX7_count 20 = .ok (.invokevirtual 63, 3) := by decide +kernel
theorem dX7_count_23 : decode cX7_count 23 = .ok (.ireturn, 1) := by decide +kernel
theorem dX7_digest_0 : decode cX7_digest 0 = .ok (.ldc2_w 276, 3) := by decide +kernel
theorem dX7_digest_3 : decode cX7_digest 3 = .ok (.lstore_n 1, 1) := by decide +kernel
theorem dX7_digest_4 : decode cX7_digest 4 = .ok (.iconst 0, 1) := by decide +kernel
theorem dX7_digest_5 : decode cX7_digest 5 = .ok (.istore_n 3, 1) := by decide +kernel
theorem dX7_digest_6 : decode cX7_digest 6 = .ok (.iload_n 3, 1) := by decide +kernel
theorem dX7_digest_7 : decode cX7_digest 7 = .ok (.bipush 10, 2) := by decide +kernel
theorem dX7_digest_9 : decode cX7_digest 9 = .ok (.if_icmp .ge 22, 3) := by decide +kernel
theorem dX7_digest_12 : decode cX7_digest 12 = .ok (.ldc2_w 278, 3) := by decide +kernel
theorem dX7_digest_15 : decode cX7_digest 15 = .ok (.lload_n 1, 1) := by decide +kernel
theorem dX7_digest_16 : decode cX7_digest 16 = .ok (.lmul, 1) := by decide +kernel
theorem dX7_digest_17 : decode cX7_digest 17 = .ok (.aload_n 0, 1) := by decide +kernel
theorem dX7_digest_18 : decode cX7_digest 18 = .ok (.iload_n 3, 1) := by decide +kernel
theorem dX7_digest_19 : decode cX7_digest 19 = .ok (.invokevirtual 273, 3) := by decide +kernel
theorem dX7_digest_22 : decode cX7_digest 22 = .ok (.i2l, 1) := by decide +kernel
theorem dX7_digest_23 : decode cX7_digest 23 = .ok (.ladd, 1) := by decide +kernel
theorem dX7_digest_24 : decode cX7_digest 24 = .ok (.lstore_n 1, 1) := by decide +kernel
theorem dX7_digest_25 : decode cX7_digest 25 = .ok (.iinc 3 1, 3) := by decide +kernel
theorem dX7_digest_28 : decode cX7_digest 28 = .ok (.goto (-22), 3) := by decide +kernel
theorem dX7_digest_31 : decode cX7_digest 31 = .ok (.aload_n 0, 1) := by decide +kernel
theorem dX7_digest_32 : decode cX7_digest 32 = .ok (.getfield 10, 3) := by decide +kernel
theorem dX7_digest_35 : decode cX7_digest 35 = .ok (.lload_n 1, 1) := by decide +kernel
theorem dX7_digest_36 : decode cX7_digest 36 = .ok (.invokevirtual 280, 3) := by decide +kernel
theorem dX7_digest_39 : decode cX7_digest 39 = .ok (.lstore_n 1, 1) := by decide +kernel
theorem dX7_digest_40 : decode cX7_digest 40 = .ok (.ldc2_w 278, 3) := by decide +kernel
theorem dX7_digest_43 : decode cX7_digest 43 = .ok (.lload_n 1, 1) := by decide +kernel
theorem dX7_digest_44 : decode cX7_digest 44 = .ok (.lmul, 1) := by decide +kernel
theorem dX7_digest_45 : decode cX7_digest 45 = .ok (.aload_n 0, 1) := by decide +kernel
theorem dX7_digest_46 : decode cX7_digest 46 = .ok (.getfield 261, 3) := by decide +kernel
theorem dX7_digest_49 : decode cX7_digest 49 = .ok (.ladd, 1) := by decide +kernel
theorem dX7_digest_50 : decode cX7_digest 50 = .ok (.lstore_n 1, 1) := by decide +kernel
theorem dX7_digest_51 : decode cX7_digest 51 = .ok (.ldc2_w 278, 3) := by decide +kernel
theorem dX7_digest_54 : decode cX7_digest 54 = .ok (.lload_n 1, 1) := by decide +kernel
theorem dX7_digest_55 : decode cX7_digest 55 = .ok (.lmul, 1) := by decide +kernel
theorem dX7_digest_56 : decode cX7_digest 56 = .ok (.aload_n 0, 1) := by decide +kernel
theorem dX7_digest_57 : decode cX7_digest 57 = .ok (.getfield 48, 3) := by decide +kernel
end
section
theorem dX7_digest_60 : decode cX7_digest 60 = .ok (.ladd, 1) := by decide +kernel
theorem dX7_digest_61 : decode cX7_digest 61 = .ok (.lreturn, 1) := by decide +kernel
theorem dX7_within_0 : decode cX7_within 0 = .ok (.iload_n 0, 1) := by decide +kernel
theorem dX7_within_1 : decode cX7_within 1 = .ok (.ifCond .lt 12, 3) := by decide +kernel
theorem dX7_within_4 : decode cX7_within 4 = .ok (.iload_n 0, 1) := by decide +kernel
theorem dX7_within_5 : decode cX7_within 5 = .ok (.iload_n 1, 1) := by decide +kernel
theorem dX7_within_6 : decode cX7_within 6 = .ok (.if_icmp .ge 7, 3) := by decide +kernel
theorem dX7_within_9 : decode cX7_within 9 = .ok (.iconst 1, 1) := by decide +kernel
theorem dX7_within_10 : decode cX7_within 10 = .ok (.goto 4, 3) := by decide +kernel
theorem dX7_within_13 : decode cX7_within 13 = .ok (.iconst 0, 1) := by decide +kernel
theorem dX7_within_14 : decode cX7_within 14 = .ok (.ireturn, 1) := by decide +kernel
theorem dX7_has_0 : decode cX7_has 0 = .ok (.iload_n 0, 1) := by decide +kernel
theorem dX7_has_1 : decode cX7_has 1 = .ok (.iload_n 1, 1) := by decide +kernel
theorem dX7_has_2 : decode cX7_has 2 = .ok (.ishr, 1) := by decide +kernel
theorem dX7_has_3 : decode cX7_has 3 = .ok (.iconst 1, 1) := by decide +kernel
theorem dX7_has_4 : decode cX7_has 4 = .ok (.iand, 1) := by decide +kernel
theorem dX7_has_5 : decode cX7_has 5 = .ok (.iconst 1, 1) := by decide +kernel
theorem dX7_has_6 : decode cX7_has 6 = .ok (.if_icmp .ne 7, 3) := by decide +kernel
theorem dX7_has_9 : decode cX7_has 9 = .ok (.iconst 1, 1) := by decide +kernel
theorem dX7_has_10 : decode cX7_has 10 = .ok (.goto 4, 3) := by decide +kernel
theorem dX7_has_13 : decode cX7_has 13 = .ok (.iconst 0, 1) := by decide +kernel
theorem dX7_has_14 : decode cX7_has 14 = .ok (.ireturn, 1) := by decide +kernel
theorem dX7_refuseBad_0 : decode cX7_refuseBad 0 = .ok (.aload_n 0, 1) := by decide +kernel
theorem dX7_refuseBad_1 : decode cX7_refuseBad 1 = .ok (.dup, 1) := by decide +kernel
theorem dX7_refuseBad_2 : decode cX7_refuseBad 2 = .ok (.getfield 264, 3) := by decide +kernel
theorem dX7_refuseBad_5 : decode cX7_refuseBad 5 = .ok (.iconst 1, 1) := by decide +kernel
theorem dX7_refuseBad_6 : decode cX7_refuseBad 6 = .ok (.iadd, 1) := by decide +kernel
theorem dX7_refuseBad_7 : decode cX7_refuseBad 7 = .ok (.putfield 264, 3) := by decide +kernel
theorem dX7_refuseBad_10 : decode cX7_refuseBad 10 = .ok (.iload_n 1, 1) := by decide +kernel
theorem dX7_refuseBad_11 : decode cX7_refuseBad 11 = .ok (.ireturn, 1) := by decide +kernel
theorem dX7_refuseNo_0 : decode cX7_refuseNo 0 = .ok (.aload_n 0, 1) := by decide +kernel
theorem dX7_refuseNo_1 : decode cX7_refuseNo 1 = .ok (.dup, 1) := by decide +kernel
theorem dX7_refuseNo_2 : decode cX7_refuseNo 2 = .ok (.getfield 267, 3) := by decide +kernel
theorem dX7_refuseNo_5 : decode cX7_refuseNo 5 = .ok (.iconst 1, 1) := by decide +kernel
theorem dX7_refuseNo_6 : decode cX7_refuseNo 6 = .ok (.iadd, 1) := by decide +kernel
theorem dX7_refuseNo_7 : decode cX7_refuseNo 7 = .ok (.putfield 267, 3) := by decide +kernel
theorem dX7_refuseNo_10 : decode cX7_refuseNo 10 = .ok (.iload_n 1, 1) := by decide +kernel
theorem dX7_refuseNo_11 : decode cX7_refuseNo 11 = .ok (.ireturn, 1) := by decide +kernel
theorem dX7_refuseFull_0 : decode cX7_refuseFull 0 = .ok (.aload_n 0, 1) := by decide +kernel
theorem dX7_refuseFull_1 : decode cX7_refuseFull 1 = .ok (.dup, 1) := by decide +kernel
theorem dX7_refuseFull_2 : decode cX7_refuseFull 2 = .ok (.getfield 270, 3) := by decide +kernel
theorem dX7_refuseFull_5 : decode cX7_refuseFull 5 = .ok (.iconst 1, 1) := by decide +kernel
theorem dX7_refuseFull_6 : decode cX7_refuseFull 6 = .ok (.iadd, 1) := by decide +kernel
theorem dX7_refuseFull_7 : decode cX7_refuseFull 7 = .ok (.putfield 270, 3) := by decide +kernel
theorem dX7_refuseFull_10 : decode cX7_refuseFull 10 = .ok (.bipush (-4), 2) := by decide +kernel
theorem dX7_refuseFull_12 : decode cX7_refuseFull 12 = .ok (.ireturn, 1) := by decide +kernel
theorem dX7_howMany_0 : decode cX7_howMany 0 = .ok (.iload_n 1, 1) := by decide +kernel
theorem dX7_howMany_1 : decode cX7_howMany 1 = .ok (.tableswitch 138 0 8 #[51, 59, 67, 78, 86, 94, 105, 116, 127], 51) := by decide +kernel
theorem dX7_howMany_52 : decode cX7_howMany 52 = .ok (.aload_n 0, 1) := by decide +kernel
theorem dX7_howMany_53 : decode cX7_howMany 53 = .ok (.getfield 10, 3) := by decide +kernel
theorem dX7_howMany_56 : decode cX7_howMany 56 = .ok (.getfield 52, 3) := by decide +kernel
theorem dX7_howMany_59 : decode cX7_howMany 59 = .ok (.ireturn, 1) := by decide +kernel
theorem dX7_howMany_60 : decode cX7_howMany 60 = .ok (.aload_n 0, 1) := by decide +kernel
theorem dX7_howMany_61 : decode cX7_howMany 61 = .ok (.getfield 10, 3) := by decide +kernel
theorem dX7_howMany_64 : decode cX7_howMany 64 = .ok (.invokevirtual 284, 3) := by decide +kernel
theorem dX7_howMany_67 : decode cX7_howMany 67 = .ok (.ireturn, 1) := by decide +kernel
theorem dX7_howMany_68 : decode cX7_howMany 68 = .ok (.aload_n 0, 1) := by decide +kernel
theorem dX7_howMany_69 : decode cX7_howMany 69 = .ok (.getfield 10, 3) := by decide +kernel
theorem dX7_howMany_72 : decode cX7_howMany 72 = .ok (.getfield 140, 3) := by decide +kernel
theorem dX7_howMany_75 : decode cX7_howMany 75 = .ok (.invokestatic 287, 3) := by decide +kernel
theorem dX7_howMany_78 : decode cX7_howMany 78 = .ok (.ireturn, 1) := by decide +kernel
theorem dX7_howMany_79 : decode cX7_howMany 79 = .ok (.aload_n 0, 1) := by decide +kernel
theorem dX7_howMany_80 : decode cX7_howMany 80 = .ok (.getfield 10, 3) := by decide +kernel
theorem dX7_howMany_83 : decode cX7_howMany 83 = .ok (.getfield 116, 3) := by decide +kernel
theorem dX7_howMany_86 : decode cX7_howMany 86 = .ok (.ireturn, 1) := by decide +kernel
theorem dX7_howMany_87 : decode cX7_howMany 87 = .ok (.aload_n 0, 1) := by decide +kernel
theorem dX7_howMany_88 : decode cX7_howMany 88 = .ok (.getfield 10, 3) := by decide +kernel
theorem dX7_howMany_91 : decode cX7_howMany 91 = .ok (.getfield 292, 3) := by decide +kernel
theorem dX7_howMany_94 : decode cX7_howMany 94 = .ok (.ireturn, 1) := by decide +kernel
theorem dX7_howMany_95 : decode cX7_howMany 95 = .ok (.aload_n 0, 1) := by decide +kernel
theorem dX7_howMany_96 : decode cX7_howMany 96 = .ok (.getfield 10, 3) := by decide +kernel
theorem dX7_howMany_99 : decode cX7_howMany 99 = .ok (.getfield 203, 3) := by decide +kernel
theorem dX7_howMany_102 : decode cX7_howMany 102 = .ok (.getfield 148, 3) := by decide +kernel
theorem dX7_howMany_105 : decode cX7_howMany 105 = .ok (.ireturn, 1) := by decide +kernel
theorem dX7_howMany_106 : decode cX7_howMany 106 = .ok (.aload_n 0, 1) := by decide +kernel
theorem dX7_howMany_107 : decode cX7_howMany 107 = .ok (.getfield 10, 3) := by decide +kernel
theorem dX7_howMany_110 : decode cX7_howMany 110 = .ok (.getfield 219, 3) := by decide +kernel
theorem dX7_howMany_113 : decode cX7_howMany 113 = .ok (.getfield 148, 3) := by decide +kernel
theorem dX7_howMany_116 : decode cX7_howMany 116 = .ok (.ireturn, 1) := by decide +kernel
theorem dX7_howMany_117 : decode cX7_howMany 117 = .ok (.aload_n 0, 1) := by decide +kernel
theorem dX7_howMany_118 : decode cX7_howMany 118 = .ok (.getfield 10, 3) := by decide +kernel
theorem dX7_howMany_121 : decode cX7_howMany 121 = .ok (.getfield 222, 3) := by decide +kernel
theorem dX7_howMany_124 : decode cX7_howMany 124 = .ok (.getfield 148, 3) := by decide +kernel
theorem dX7_howMany_127 : decode cX7_howMany 127 = .ok (.ireturn, 1) := by decide +kernel
theorem dX7_howMany_128 : decode cX7_howMany 128 = .ok (.aload_n 0, 1) := by decide +kernel
theorem dX7_howMany_129 : decode cX7_howMany 129 = .ok (.getfield 10, 3) := by decide +kernel
theorem dX7_howMany_132 : decode cX7_howMany 132 = .ok (.getfield 71, 3) := by decide +kernel
theorem dX7_howMany_135 : decode cX7_howMany 135 = .ok (.getfield 148, 3) := by decide +kernel
theorem dX7_howMany_138 : decode cX7_howMany 138 = .ok (.ireturn, 1) := by decide +kernel
theorem dX7_howMany_139 : decode cX7_howMany 139 = .ok (.aload_n 0, 1) := by decide +kernel
theorem dX7_howMany_140 : decode cX7_howMany 140 = .ok (.getfield 30, 3) := by decide +kernel
theorem dX7_howMany_143 : decode cX7_howMany 143 = .ok (.getfield 295, 3) := by decide +kernel
theorem dX7_howMany_146 : decode cX7_howMany 146 = .ok (.ireturn, 1) := by decide +kernel
theorem dX7_worth_0 : decode cX7_worth 0 = .ok (.aload_n 0, 1) := by decide +kernel
theorem dX7_worth_1 : decode cX7_worth 1 = .ok (.getfield 10, 3) := by decide +kernel
theorem dX7_worth_4 : decode cX7_worth 4 = .ok (.iload_n 2, 1) := by decide +kernel
theorem dX7_worth_5 : decode cX7_worth 5 = .ok (.invokevirtual 166, 3) := by decide +kernel
theorem dX7_worth_8 : decode cX7_worth 8 = .ok (.aload_n 0, 1) := by decide +kernel
theorem dX7_worth_9 : decode cX7_worth 9 = .ok (.getfield 10, 3) := by decide +kernel
theorem dX7_worth_12 : decode cX7_worth 12 = .ok (.iload_n 1, 1) := by decide +kernel
theorem dX7_worth_13 : decode cX7_worth 13 = .ok (.iload_n 2, 1) := by decide +kernel
theorem dX7_worth_14 : decode cX7_worth 14 = .ok (.invokevirtual 169, 3) := by decide +kernel
theorem dX7_worth_17 : decode cX7_worth 17 = .ok (.isub, 1) := by decide +kernel
theorem dX7_worth_18 : decode cX7_worth 18 = .ok (.ireturn, 1) := by decide +kernel
theorem dX7_bestCell_0 : decode cX7_bestCell 0 = .ok (.iconst (-1), 1) := by decide +kernel
theorem dX7_bestCell_1 : decode cX7_bestCell 1 = .ok (.istore_n 2, 1) := by decide +kernel
theorem dX7_bestCell_2 : decode cX7_bestCell 2 = .ok (.iconst 0, 1) := by decide +kernel
theorem dX7_bestCell_3 : decode cX7_bestCell 3 = .ok (.istore_n 3, 1) := by decide +kernel
theorem dX7_bestCell_4 : decode cX7_bestCell 4 = .ok (.iload_n 3, 1) := by decide +kernel
theorem dX7_bestCell_5 : decode cX7_bestCell 5 = .ok (.bipush 30, 2) := by decide +kernel
theorem dX7_bestCell_7 : decode cX7_bestCell 7 = .ok (.if_icmp .ge 42, 3) := by decide +kernel
theorem dX7_bestCell_10 : decode cX7_bestCell 10 = .ok (.aload_n 0, 1) := by decide +kernel
theorem dX7_bestCell_11 : decode cX7_bestCell 11 = .ok (.getfield 10, 3) := by decide +kernel
theorem dX7_bestCell_14 : decode cX7_bestCell 14 = .ok (.iload_n 3, 1) := by decide +kernel
theorem dX7_bestCell_15 : decode cX7_bestCell 15 = .ok (.invokevirtual 113, 3) := by decide +kernel
theorem dX7_bestCell_18 : decode cX7_bestCell 18 = .ok (.ifCond .eq 25, 3) := by decide +kernel
theorem dX7_bestCell_21 : decode cX7_bestCell 21 = .ok (.iload_n 2, 1) := by decide +kernel
theorem dX7_bestCell_22 : decode cX7_bestCell 22 = .ok (.iconst (-1), 1) := by decide +kernel
theorem dX7_bestCell_23 : decode cX7_bestCell 23 = .ok (.if_icmp .eq 18, 3) := by decide +kernel
theorem dX7_bestCell_26 : decode cX7_bestCell 26 = .ok (.aload_n 0, 1) := by decide +kernel
theorem dX7_bestCell_27 : decode cX7_bestCell 27 = .ok (.iload_n 1, 1) := by decide +kernel
theorem dX7_bestCell_28 : decode cX7_bestCell 28 = .ok (.iload_n 3, 1) := by decide +kernel
theorem dX7_bestCell_29 : decode cX7_bestCell 29 = .ok (.invokevirtual 187, 3) := by decide +kernel
theorem dX7_bestCell_32 : decode cX7_bestCell 32 = .ok (.aload_n 0, 1) := by decide +kernel
theorem dX7_bestCell_33 : decode cX7_bestCell 33 = .ok (.iload_n 1, 1) := by decide +kernel
theorem dX7_bestCell_34 : decode cX7_bestCell 34 = .ok (.iload_n 2, 1) := by decide +kernel
theorem dX7_bestCell_35 : decode cX7_bestCell 35 = .ok (.invokevirtual 187, 3) := by decide +kernel
theorem dX7_bestCell_38 : decode cX7_bestCell 38 = .ok (.if_icmp .le 5, 3) := by decide +kernel
theorem dX7_bestCell_41 : decode cX7_bestCell 41 = .ok (.iload_n 3, 1) := by decide +kernel
theorem dX7_bestCell_42 : decode cX7_bestCell 42 = .ok (.istore_n 2, 1) := by decide +kernel
theorem dX7_bestCell_43 : decode cX7_bestCell 43 = .ok (.iinc 3 1, 3) := by decide +kernel
theorem dX7_bestCell_46 : decode cX7_bestCell 46 = .ok (.goto (-42), 3) := by decide +kernel
theorem dX7_bestCell_49 : decode cX7_bestCell 49 = .ok (.iload_n 2, 1) := by decide +kernel
theorem dX7_bestCell_50 : decode cX7_bestCell 50 = .ok (.ireturn, 1) := by decide +kernel
theorem dX7_firstPlaceBeside_0 : decode cX7_firstPlaceBeside 0 = .ok (.iconst (-1), 1) := by decide +kernel
theorem dX7_firstPlaceBeside_1 : decode cX7_firstPlaceBeside 1 = .ok (.istore_n 3, 1) := by decide +kernel
theorem dX7_firstPlaceBeside_2 : decode cX7_firstPlaceBeside 2 = .ok (.iconst 0, 1) := by decide +kernel
theorem dX7_firstPlaceBeside_3 : decode cX7_firstPlaceBeside 3 = .ok (.istore 4, 2) := by decide +kernel
theorem dX7_firstPlaceBeside_5 : decode cX7_firstPlaceBeside 5 = .ok (.iload 4, 2) := by decide +kernel
theorem dX7_firstPlaceBeside_7 : decode cX7_firstPlaceBeside 7 = .ok (.bipush 30, 2) := by decide +kernel
theorem dX7_firstPlaceBeside_9 : decode cX7_firstPlaceBeside 9 = .ok (.if_icmp .ge 82, 3) := by decide +kernel
theorem dX7_firstPlaceBeside_12 : decode cX7_firstPlaceBeside 12 = .ok (.iload 4, 2) := by decide +kernel
theorem dX7_firstPlaceBeside_14 : decode cX7_firstPlaceBeside 14 = .ok (.iconst 1, 1) := by decide +kernel
theorem dX7_firstPlaceBeside_15 : decode cX7_firstPlaceBeside 15 = .ok (.isub, 1) := by decide +kernel
theorem dX7_firstPlaceBeside_16 : decode cX7_firstPlaceBeside 16 = .ok (.istore 5, 2) := by decide +kernel
theorem dX7_firstPlaceBeside_18 : decode cX7_firstPlaceBeside 18 = .ok (.iload 5, 2) := by decide +kernel
theorem dX7_firstPlaceBeside_20 : decode cX7_firstPlaceBeside 20 = .ok (.iload 4, 2) := by decide +kernel
theorem dX7_firstPlaceBeside_22 : decode cX7_firstPlaceBeside 22 = .ok (.iconst 1, 1) := by decide +kernel
theorem dX7_firstPlaceBeside_23 : decode cX7_firstPlaceBeside 23 = .ok (.iadd, 1) := by decide +kernel
theorem dX7_firstPlaceBeside_24 : decode cX7_firstPlaceBeside 24 = .ok (.if_icmp .gt 61, 3) := by decide +kernel
theorem dX7_firstPlaceBeside_27 : decode cX7_firstPlaceBeside 27 = .ok (.aload_n 0, 1) := by decide +kernel
theorem dX7_firstPlaceBeside_28 : decode cX7_firstPlaceBeside 28 = .ok (.iload 4, 2) := by decide +kernel
theorem dX7_firstPlaceBeside_30 : decode cX7_firstPlaceBeside 30 = .ok (.iload 5, 2) := by decide +kernel
theorem dX7_firstPlaceBeside_32 : decode cX7_firstPlaceBeside 32 = .ok (.invokevirtual 298, 3) := by decide +kernel
theorem dX7_firstPlaceBeside_35 : decode cX7_firstPlaceBeside 35 = .ok (.ifCond .eq 44, 3) := by decide +kernel
theorem dX7_firstPlaceBeside_38 : decode cX7_firstPlaceBeside 38 = .ok (.iload_n 3, 1) := by decide +kernel
theorem dX7_firstPlaceBeside_39 : decode cX7_firstPlaceBeside 39 = .ok (.iconst (-1), 1) := by decide +kernel
theorem dX7_firstPlaceBeside_40 : decode cX7_firstPlaceBeside 40 = .ok (.if_icmp .eq 30, 3) := by decide +kernel
theorem dX7_firstPlaceBeside_43 : decode cX7_firstPlaceBeside 43 = .ok (.aload_n 0, 1) := by decide +kernel
theorem dX7_firstPlaceBeside_44 : decode cX7_firstPlaceBeside 44 = .ok (.iload_n 1, 1) := by decide +kernel
theorem dX7_firstPlaceBeside_45 : decode cX7_firstPlaceBeside 45 = .ok (.iload_n 2, 1) := by decide +kernel
theorem dX7_firstPlaceBeside_46 : decode cX7_firstPlaceBeside 46 = .ok (.iload 4, 2) := by decide +kernel
theorem dX7_firstPlaceBeside_48 : decode cX7_firstPlaceBeside 48 = .ok (.iload 5, 2) := by decide +kernel
theorem dX7_firstPlaceBeside_50 : decode cX7_firstPlaceBeside 50 = .ok (.invokevirtual 193, 3) := by decide +kernel
theorem dX7_firstPlaceBeside_53 : decode cX7_firstPlaceBeside 53 = .ok (.aload_n 0, 1) := by decide +kernel
theorem dX7_firstPlaceBeside_54 : decode cX7_firstPlaceBeside 54 = .ok (.iload_n 1, 1) := by decide +kernel
theorem dX7_firstPlaceBeside_55 : decode cX7_firstPlaceBeside 55 = .ok (.iload_n 2, 1) := by decide +kernel
theorem dX7_firstPlaceBeside_56 : decode cX7_firstPlaceBeside 56 = .ok (.iload_n 3, 1) := by decide +kernel
theorem dX7_firstPlaceBeside_57 : decode cX7_firstPlaceBeside 57 = .ok (.bipush 100, 2) := by decide +kernel
theorem dX7_firstPlaceBeside_59 : decode cX7_firstPlaceBeside 59 = .ok (.idiv, 1) := by decide +kernel
theorem dX7_firstPlaceBeside_60 : decode cX7_firstPlaceBeside 60 = .ok (.iload_n 3, 1) := by decide +kernel
theorem dX7_firstPlaceBeside_61 : decode cX7_firstPlaceBeside 61 = .ok (.bipush 100, 2) := by decide +kernel
theorem dX7_firstPlaceBeside_63 : decode cX7_firstPlaceBeside 63 = .ok (.irem, 1) := by decide +kernel
theorem dX7_firstPlaceBeside_64 : decode cX7_firstPlaceBeside 64 = .ok (.invokevirtual 193, 3) := by decide +kernel
theorem dX7_firstPlaceBeside_67 : decode cX7_firstPlaceBeside 67 = .ok (.if_icmp .ge 12, 3) := by decide +kernel
theorem dX7_firstPlaceBeside_70 : decode cX7_firstPlaceBeside 70 = .ok (.bipush 100, 2) := by decide +kernel
theorem dX7_firstPlaceBeside_72 : decode cX7_firstPlaceBeside 72 = .ok (.iload 4, 2) := by decide +kernel
theorem dX7_firstPlaceBeside_74 : decode cX7_firstPlaceBeside 74 = .ok (.imul, 1) := by decide +kernel
theorem dX7_firstPlaceBeside_75 : decode cX7_firstPlaceBeside 75 = .ok (.iload 5, 2) := by decide +kernel
theorem dX7_firstPlaceBeside_77 : decode cX7_firstPlaceBeside 77 = .ok (.iadd, 1) := by decide +kernel
theorem dX7_firstPlaceBeside_78 : decode cX7_firstPlaceBeside 78 = .ok (.istore_n 3, 1) := by decide +kernel
theorem dX7_firstPlaceBeside_79 : decode cX7_firstPlaceBeside 79 = .ok (.iinc 5 2, 3) := by decide +kernel
theorem dX7_firstPlaceBeside_82 : decode cX7_firstPlaceBeside 82 = .ok (.goto (-64), 3) := by decide +kernel
theorem dX7_firstPlaceBeside_85 : decode cX7_firstPlaceBeside 85 = .ok (.iinc 4 1, 3) := by decide +kernel
theorem dX7_firstPlaceBeside_88 : decode cX7_firstPlaceBeside 88 = .ok (.goto (-83), 3) := by decide +kernel
theorem dX7_firstPlaceBeside_91 : decode cX7_firstPlaceBeside 91 = .ok (.iload_n 3, 1) := by decide +kernel
theorem dX7_firstPlaceBeside_92 : decode cX7_firstPlaceBeside 92 = .ok (.ireturn, 1) := by decide +kernel
theorem dX7_areFreeNeighbours_0 : decode cX7_areFreeNeighbours 0 = .ok (.iload_n 1, 1) := by decide +kernel
theorem dX7_areFreeNeighbours_1 : decode cX7_areFreeNeighbours 1 = .ok (.bipush 30, 2) := by decide +kernel
theorem dX7_areFreeNeighbours_3 : decode cX7_areFreeNeighbours 3 = .ok (.invokestatic 59, 3) := by decide +kernel
theorem dX7_areFreeNeighbours_6 : decode cX7_areFreeNeighbours 6 = .ok (.ifCond .eq 49, 3) := by decide +kernel
theorem dX7_areFreeNeighbours_9 : decode cX7_areFreeNeighbours 9 = .ok (.iload_n 2, 1) := by decide +kernel
theorem dX7_areFreeNeighbours_10 : decode cX7_areFreeNeighbours 10 = .ok (.bipush 30, 2) := by decide +kernel
theorem dX7_areFreeNeighbours_12 : decode cX7_areFreeNeighbours 12 = .ok (.invokestatic 59, 3) := by decide +kernel
theorem dX7_areFreeNeighbours_15 : decode cX7_areFreeNeighbours 15 = .ok (.ifCond .eq 40, 3) := by decide +kernel
theorem dX7_areFreeNeighbours_18 : decode cX7_areFreeNeighbours 18 = .ok (.iload_n 1, 1) := by decide +kernel
theorem dX7_areFreeNeighbours_19 : decode cX7_areFreeNeighbours 19 = .ok (.bipush 6, 2) := by decide +kernel
theorem dX7_areFreeNeighbours_21 : decode cX7_areFreeNeighbours 21 = .ok (.idiv, 1) := by decide +kernel
theorem dX7_areFreeNeighbours_22 : decode cX7_areFreeNeighbours 22 = .ok (.iload_n 2, 1) := by decide +kernel
theorem dX7_areFreeNeighbours_23 : decode cX7_areFreeNeighbours 23 = .ok (.bipush 6, 2) := by decide +kernel
theorem dX7_areFreeNeighbours_25 : decode cX7_areFreeNeighbours 25 = .ok (.idiv, 1) := by decide +kernel
theorem dX7_areFreeNeighbours_26 : decode cX7_areFreeNeighbours 26 = .ok (.if_icmp .ne 29, 3) := by decide +kernel
theorem dX7_areFreeNeighbours_29 : decode cX7_areFreeNeighbours 29 = .ok (.aload_n 0, 1) := by decide +kernel
theorem dX7_areFreeNeighbours_30 : decode cX7_areFreeNeighbours 30 = .ok (.getfield 10, 3) := by decide +kernel
theorem dX7_areFreeNeighbours_33 : decode cX7_areFreeNeighbours 33 = .ok (.iload_n 1, 1) := by decide +kernel
theorem dX7_areFreeNeighbours_34 : decode cX7_areFreeNeighbours 34 = .ok (.invokevirtual 113, 3) := by decide +kernel
theorem dX7_areFreeNeighbours_37 : decode cX7_areFreeNeighbours 37 = .ok (.ifCond .eq 18, 3) := by decide +kernel
theorem dX7_areFreeNeighbours_40 : decode cX7_areFreeNeighbours 40 = .ok (.aload_n 0, 1) := by decide +kernel
theorem dX7_areFreeNeighbours_41 : decode cX7_areFreeNeighbours 41 = .ok (.getfield 10, 3) := by decide +kernel
theorem dX7_areFreeNeighbours_44 : decode cX7_areFreeNeighbours 44 = .ok (.iload_n 2, 1) := by decide +kernel
theorem dX7_areFreeNeighbours_45 : decode cX7_areFreeNeighbours 45 = .ok (.invokevirtual 113, 3) := by decide +kernel
theorem dX7_areFreeNeighbours_48 : decode cX7_areFreeNeighbours 48 = .ok (.ifCond .eq 7, 3) := by decide +kernel
theorem dX7_areFreeNeighbours_51 : decode cX7_areFreeNeighbours 51 = .ok (.iconst 1, 1) := by decide +kernel
theorem dX7_areFreeNeighbours_52 : decode cX7_areFreeNeighbours 52 = .ok (.goto 4, 3) := by decide +kernel
theorem dX7_areFreeNeighbours_55 : decode cX7_areFreeNeighbours 55 = .ok (.iconst 0, 1) := by decide +kernel
theorem dX7_areFreeNeighbours_56 : decode cX7_areFreeNeighbours 56 = .ok (.ireturn, 1) := by decide +kernel
theorem dX7_fussBeside_0 : decode cX7_fussBeside 0 = .ok (.iload_n 3, 1) := by decide +kernel
theorem dX7_fussBeside_1 : decode cX7_fussBeside 1 = .ok (.iload 4, 2) := by decide +kernel
theorem dX7_fussBeside_3 : decode cX7_fussBeside 3 = .ok (.if_icmp .ge 7, 3) := by decide +kernel
theorem dX7_fussBeside_6 : decode cX7_fussBeside 6 = .ok (.iconst 1, 1) := by decide +kernel
theorem dX7_fussBeside_7 : decode cX7_fussBeside 7 = .ok (.goto 4, 3) := by decide +kernel
theorem dX7_fussBeside_10 : decode cX7_fussBeside 10 = .ok (.iconst 0, 1) := by decide +kernel
theorem dX7_fussBeside_11 : decode cX7_fussBeside 11 = .ok (.istore 5, 2) := by decide +kernel
theorem dX7_fussBeside_13 : decode cX7_fussBeside 13 = .ok (.aload_n 0, 1) := by decide +kernel
theorem dX7_fussBeside_14 : decode cX7_fussBeside 14 = .ok (.getfield 10, 3) := by decide +kernel
theorem dX7_fussBeside_17 : decode cX7_fussBeside 17 = .ok (.iload_n 1, 1) := by decide +kernel
theorem dX7_fussBeside_18 : decode cX7_fussBeside 18 = .ok (.iload_n 3, 1) := by decide +kernel
theorem dX7_fussBeside_19 : decode cX7_fussBeside 19 = .ok (.invokevirtual 169, 3) := by decide +kernel
theorem dX7_fussBeside_22 : decode cX7_fussBeside 22 = .ok (.aload_n 0, 1) := by decide +kernel
theorem dX7_fussBeside_23 : decode cX7_fussBeside 23 = .ok (.getfield 10, 3) := by decide +kernel
theorem dX7_fussBeside_26 : decode cX7_fussBeside 26 = .ok (.getfield 154, 3) := by decide +kernel
theorem dX7_fussBeside_29 : decode cX7_fussBeside 29 = .ok (.iload_n 2, 1) := by decide +kernel
theorem dX7_fussBeside_30 : decode cX7_fussBeside 30 = .ok (.iaload, 1) := by decide +kernel
theorem dX7_fussBeside_31 : decode cX7_fussBeside 31 = .ok (.aload_n 0, 1) := by decide +kernel
theorem dX7_fussBeside_32 : decode cX7_fussBeside 32 = .ok (.getfield 10, 3) := by decide +kernel
theorem dX7_fussBeside_35 : decode cX7_fussBeside 35 = .ok (.iload 4, 2) := by decide +kernel
theorem dX7_fussBeside_37 : decode cX7_fussBeside 37 = .ok (.invokevirtual 163, 3) := by decide +kernel
theorem dX7_fussBeside_40 : decode cX7_fussBeside 40 = .ok (.iload 5, 2) := by decide +kernel
theorem dX7_fussBeside_42 : decode cX7_fussBeside 42 = .ok (.iadd, 1) := by decide +kernel
theorem dX7_fussBeside_43 : decode cX7_fussBeside 43 = .ok (.aload_n 0, 1) := by decide +kernel
theorem dX7_fussBeside_44 : decode cX7_fussBeside 44 = .ok (.getfield 10, 3) := by decide +kernel
theorem dX7_fussBeside_47 : decode cX7_fussBeside 47 = .ok (.getfield 116, 3) := by decide +kernel
theorem dX7_fussBeside_50 : decode cX7_fussBeside 50 = .ok (.iconst 1, 1) := by decide +kernel
theorem dX7_fussBeside_51 : decode cX7_fussBeside 51 = .ok (.iadd, 1) := by decide +kernel
theorem dX7_fussBeside_52 : decode cX7_fussBeside 52 = .ok (.invokestatic 301, 3) := by decide +kernel
theorem dX7_fussBeside_55 : decode cX7_fussBeside 55 = .ok (.iadd, 1) := by decide +kernel
theorem dX7_fussBeside_56 : decode cX7_fussBeside 56 = .ok (.ireturn, 1) := by decide +kernel
theorem dX7_cellsThatFit_0 : decode cX7_cellsThatFit 0 = .ok (.iconst 0, 1) := by decide +kernel
theorem dX7_cellsThatFit_1 : decode cX7_cellsThatFit 1 = .ok (.istore_n 2, 1) := by decide +kernel
theorem dX7_cellsThatFit_2 : decode cX7_cellsThatFit 2 = .ok (.iconst 0, 1) := by decide +kernel
theorem dX7_cellsThatFit_3 : decode cX7_cellsThatFit 3 = .ok (.istore_n 3, 1) := by decide +kernel
theorem dX7_cellsThatFit_4 : decode cX7_cellsThatFit 4 = .ok (.iload_n 3, 1) := by decide +kernel
theorem dX7_cellsThatFit_5 : decode cX7_cellsThatFit 5 = .ok (.bipush 30, 2) := by decide +kernel
theorem dX7_cellsThatFit_7 : decode cX7_cellsThatFit 7 = .ok (.if_icmp .ge 42, 3) := by decide +kernel
theorem dX7_cellsThatFit_10 : decode cX7_cellsThatFit 10 = .ok (.aload_n 0, 1) := by decide +kernel
theorem dX7_cellsThatFit_11 : decode cX7_cellsThatFit 11 = .ok (.getfield 10, 3) := by decide +kernel
theorem dX7_cellsThatFit_14 : decode cX7_cellsThatFit 14 = .ok (.iload_n 3, 1) := by decide +kernel
theorem dX7_cellsThatFit_15 : decode cX7_cellsThatFit 15 = .ok (.invokevirtual 113, 3) := by decide +kernel
theorem dX7_cellsThatFit_18 : decode cX7_cellsThatFit 18 = .ok (.ifCond .eq 25, 3) := by decide +kernel
theorem dX7_cellsThatFit_21 : decode cX7_cellsThatFit 21 = .ok (.aload_n 0, 1) := by decide +kernel
theorem dX7_cellsThatFit_22 : decode cX7_cellsThatFit 22 = .ok (.iload_n 1, 1) := by decide +kernel
theorem dX7_cellsThatFit_23 : decode cX7_cellsThatFit 23 = .ok (.aload_n 0, 1) := by decide +kernel
theorem dX7_cellsThatFit_24 : decode cX7_cellsThatFit 24 = .ok (.getfield 10, 3) := by decide +kernel
theorem dX7_cellsThatFit_27 : decode cX7_cellsThatFit 27 = .ok (.iload_n 3, 1) := by decide +kernel
theorem dX7_cellsThatFit_28 : decode cX7_cellsThatFit 28 = .ok (.invokevirtual 163, 3) := by decide +kernel
theorem dX7_cellsThatFit_31 : decode cX7_cellsThatFit 31 = .ok (.invokevirtual 305, 3) := by decide +kernel
theorem dX7_cellsThatFit_34 : decode cX7_cellsThatFit 34 = .ok (.ifCond .eq 9, 3) := by decide +kernel
theorem dX7_cellsThatFit_37 : decode cX7_cellsThatFit 37 = .ok (.iload_n 2, 1) := by decide +kernel
theorem dX7_cellsThatFit_38 : decode cX7_cellsThatFit 38 = .ok (.iconst 1, 1) := by decide +kernel
theorem dX7_cellsThatFit_39 : decode cX7_cellsThatFit 39 = .ok (.iload_n 3, 1) := by decide +kernel
theorem dX7_cellsThatFit_40 : decode cX7_cellsThatFit 40 = .ok (.ishl, 1) := by decide +kernel
theorem dX7_cellsThatFit_41 : decode cX7_cellsThatFit 41 = .ok (.ior, 1) := by decide +kernel
theorem dX7_cellsThatFit_42 : decode cX7_cellsThatFit 42 = .ok (.istore_n 2, 1) := by decide +kernel
theorem dX7_cellsThatFit_43 : decode cX7_cellsThatFit 43 = .ok (.iinc 3 1, 3) := by decide +kernel
theorem dX7_cellsThatFit_46 : decode cX7_cellsThatFit 46 = .ok (.goto (-42), 3) := by decide +kernel
theorem dX7_cellsThatFit_49 : decode cX7_cellsThatFit 49 = .ok (.iload_n 2, 1) := by decide +kernel
theorem dX7_cellsThatFit_50 : decode cX7_cellsThatFit 50 = .ok (.ireturn, 1) := by decide +kernel
theorem dX7_fitsSightings_0 : decode cX7_fitsSightings 0 = .ok (.iconst 0, 1) := by decide +kernel
theorem dX7_fitsSightings_1 : decode cX7_fitsSightings 1 = .ok (.istore_n 3, 1) := by decide +kernel
theorem dX7_fitsSightings_2 : decode cX7_fitsSightings 2 = .ok (.iload_n 3, 1) := by decide +kernel
theorem dX7_fitsSightings_3 : decode cX7_fitsSightings 3 = .ok (.aload_n 0, 1) := by decide +kernel
theorem dX7_fitsSightings_4 : decode cX7_fitsSightings 4 = .ok (.getfield 10, 3) := by decide +kernel
theorem dX7_fitsSightings_7 : decode cX7_fitsSightings 7 = .ok (.getfield 203, 3) := by decide +kernel
theorem dX7_fitsSightings_10 : decode cX7_fitsSightings 10 = .ok (.getfield 148, 3) := by decide +kernel
theorem dX7_fitsSightings_13 : decode cX7_fitsSightings 13 = .ok (.if_icmp .ge 67, 3) := by decide +kernel
theorem dX7_fitsSightings_16 : decode cX7_fitsSightings 16 = .ok (.aload_n 0, 1) := by decide +kernel
theorem dX7_fitsSightings_17 : decode cX7_fitsSightings 17 = .ok (.getfield 10, 3) := by decide +kernel
theorem dX7_fitsSightings_20 : decode cX7_fitsSightings 20 = .ok (.getfield 203, 3) := by decide +kernel
theorem dX7_fitsSightings_23 : decode cX7_fitsSightings 23 = .ok (.iload_n 3, 1) := by decide +kernel
theorem dX7_fitsSightings_24 : decode cX7_fitsSightings 24 = .ok (.iconst 0, 1) := by decide +kernel
theorem dX7_fitsSightings_25 : decode cX7_fitsSightings 25 = .ok (.invokevirtual 308, 3) := by decide +kernel
theorem dX7_fitsSightings_28 : decode cX7_fitsSightings 28 = .ok (.iload_n 1, 1) := by decide +kernel
theorem dX7_fitsSightings_29 : decode cX7_fitsSightings 29 = .ok (.if_icmp .ne 45, 3) := by decide +kernel
theorem dX7_fitsSightings_32 : decode cX7_fitsSightings 32 = .ok (.aload_n 0, 1) := by decide +kernel
theorem dX7_fitsSightings_33 : decode cX7_fitsSightings 33 = .ok (.getfield 10, 3) := by decide +kernel
theorem dX7_fitsSightings_36 : decode cX7_fitsSightings 36 = .ok (.getfield 154, 3) := by decide +kernel
theorem dX7_fitsSightings_39 : decode cX7_fitsSightings 39 = .ok (.iload_n 1, 1) := by decide +kernel
theorem dX7_fitsSightings_40 : decode cX7_fitsSightings 40 = .ok (.iaload, 1) := by decide +kernel
theorem dX7_fitsSightings_41 : decode cX7_fitsSightings 41 = .ok (.iload_n 2, 1) := by decide +kernel
theorem dX7_fitsSightings_42 : decode cX7_fitsSightings 42 = .ok (.aload_n 0, 1) := by decide +kernel
theorem dX7_fitsSightings_43 : decode cX7_fitsSightings 43 = .ok (.getfield 10, 3) := by decide +kernel
theorem dX7_fitsSightings_46 : decode cX7_fitsSightings 46 = .ok (.getfield 203, 3) := by decide +kernel
theorem dX7_fitsSightings_49 : decode cX7_fitsSightings 49 = .ok (.iload_n 3, 1) := by decide +kernel
theorem dX7_fitsSightings_50 : decode cX7_fitsSightings 50 = .ok (.iconst 1, 1) := by decide +kernel
theorem dX7_fitsSightings_51 : decode cX7_fitsSightings 51 = .ok (.invokevirtual 308, 3) := by decide +kernel
theorem dX7_fitsSightings_54 : decode cX7_fitsSightings 54 = .ok (.invokestatic 301, 3) := by decide +kernel
theorem dX7_fitsSightings_57 : decode cX7_fitsSightings 57 = .ok (.aload_n 0, 1) := by decide +kernel
theorem dX7_fitsSightings_58 : decode cX7_fitsSightings 58 = .ok (.getfield 10, 3) := by decide +kernel
theorem dX7_fitsSightings_61 : decode cX7_fitsSightings 61 = .ok (.getfield 203, 3) := by decide +kernel
theorem dX7_fitsSightings_64 : decode cX7_fitsSightings 64 = .ok (.iload_n 3, 1) := by decide +kernel
theorem dX7_fitsSightings_65 : decode cX7_fitsSightings 65 = .ok (.iconst 2, 1) := by decide +kernel
theorem dX7_fitsSightings_66 : decode cX7_fitsSightings 66 = .ok (.invokevirtual 308, 3) := by decide +kernel
theorem dX7_fitsSightings_69 : decode cX7_fitsSightings 69 = .ok (.if_icmp .eq 5, 3) := by decide +kernel
theorem dX7_fitsSightings_72 : decode cX7_fitsSightings 72 = .ok (.iconst 0, 1) := by decide +kernel
theorem dX7_fitsSightings_73 : decode cX7_fitsSightings 73 = .ok (.ireturn, 1) := by decide +kernel
theorem dX7_fitsSightings_74 : decode cX7_fitsSightings 74 = .ok (.iinc 3 1, 3) := by decide +kernel
theorem dX7_fitsSightings_77 : decode cX7_fitsSightings 77 = .ok (.goto (-75), 3) := by decide +kernel
theorem dX7_fitsSightings_80 : decode cX7_fitsSightings 80 = .ok (.iconst 1, 1) := by decide +kernel
theorem dX7_fitsSightings_81 : decode cX7_fitsSightings 81 = .ok (.ireturn, 1) := by decide +kernel
theorem dX7_mostCellsAlike_0 : decode cX7_mostCellsAlike 0 = .ok (.aload_n 0, 1) := by decide +kernel
theorem dX7_mostCellsAlike_1 : decode cX7_mostCellsAlike 1 = .ok (.getfield 44, 3) := by decide +kernel
theorem dX7_mostCellsAlike_4 : decode cX7_mostCellsAlike 4 = .ok (.invokevirtual 311, 3) := by decide +kernel
theorem dX7_mostCellsAlike_7 : decode cX7_mostCellsAlike 7 = .ok (.iconst 0, 1) := by decide +kernel
theorem dX7_mostCellsAlike_8 : decode cX7_mostCellsAlike 8 = .ok (.istore 4, 2) := by decide +kernel
theorem dX7_mostCellsAlike_10 : decode cX7_mostCellsAlike 10 = .ok (.iload 4, 2) := by decide +kernel
theorem dX7_mostCellsAlike_12 : decode cX7_mostCellsAlike 12 = .ok (.bipush 30, 2) := by decide +kernel
theorem dX7_mostCellsAlike_14 : decode cX7_mostCellsAlike 14 = .ok (.if_icmp .ge 39, 3) := by decide +kernel
theorem dX7_mostCellsAlike_17 : decode cX7_mostCellsAlike 17 = .ok (.iload_n 1, 1) := by decide +kernel
theorem dX7_mostCellsAlike_18 : decode cX7_mostCellsAlike 18 = .ok (.iload 4, 2) := by decide +kernel
theorem dX7_mostCellsAlike_20 : decode cX7_mostCellsAlike 20 = .ok (.invokestatic 213, 3) := by decide +kernel
theorem dX7_mostCellsAlike_23 : decode cX7_mostCellsAlike 23 = .ok (.ifCond .eq 24, 3) := by decide +kernel
theorem dX7_mostCellsAlike_26 : decode cX7_mostCellsAlike 26 = .ok (.aload_n 0, 1) := by decide +kernel
theorem dX7_mostCellsAlike_27 : decode cX7_mostCellsAlike 27 = .ok (.getfield 44, 3) := by decide +kernel
theorem dX7_mostCellsAlike_30 : decode cX7_mostCellsAlike 30 = .ok (.iload_n 2, 1) := by decide +kernel
theorem dX7_mostCellsAlike_31 : decode cX7_mostCellsAlike 31 = .ok (.aload_n 0, 1) := by decide +kernel
theorem dX7_mostCellsAlike_32 : decode cX7_mostCellsAlike 32 = .ok (.getfield 10, 3) := by decide +kernel
theorem dX7_mostCellsAlike_35 : decode cX7_mostCellsAlike 35 = .ok (.iload 4, 2) := by decide +kernel
theorem dX7_mostCellsAlike_37 : decode cX7_mostCellsAlike 37 = .ok (.invokevirtual 163, 3) := by decide +kernel
theorem dX7_mostCellsAlike_40 : decode cX7_mostCellsAlike 40 = .ok (.iload_n 3, 1) := by decide +kernel
theorem dX7_mostCellsAlike_41 : decode cX7_mostCellsAlike 41 = .ok (.invokestatic 301, 3) := by decide +kernel
theorem dX7_mostCellsAlike_44 : decode cX7_mostCellsAlike 44 = .ok (.invokevirtual 312, 3) := by decide +kernel
theorem dX7_mostCellsAlike_47 : decode cX7_mostCellsAlike 47 = .ok (.iinc 4 1, 3) := by decide +kernel
theorem dX7_mostCellsAlike_50 : decode cX7_mostCellsAlike 50 = .ok (.goto (-40), 3) := by decide +kernel
theorem dX7_mostCellsAlike_53 : decode cX7_mostCellsAlike 53 = .ok (.aload_n 0, 1) := by decide +kernel
theorem dX7_mostCellsAlike_54 : decode cX7_mostCellsAlike 54 = .ok (.getfield 44, 3) := by decide +kernel
theorem dX7_mostCellsAlike_57 : decode cX7_mostCellsAlike 57 = .ok (.getfield 314, 3) := by decide +kernel
theorem dX7_mostCellsAlike_60 : decode cX7_mostCellsAlike 60 = .ok (.ireturn, 1) := by decide +kernel
theorem dX7_rowKindsThatFit_0 : decode cX7_rowKindsThatFit 0 = .ok (.iconst 0, 1) := by decide +kernel
theorem dX7_rowKindsThatFit_1 : decode cX7_rowKindsThatFit 1 = .ok (.istore_n 2, 1) := by decide +kernel
theorem dX7_rowKindsThatFit_2 : decode cX7_rowKindsThatFit 2 = .ok (.iconst 0, 1) := by decide +kernel
theorem dX7_rowKindsThatFit_3 : decode cX7_rowKindsThatFit 3 = .ok (.istore_n 3, 1) := by decide +kernel
theorem dX7_rowKindsThatFit_4 : decode cX7_rowKindsThatFit 4 = .ok (.iload_n 3, 1) := by decide +kernel
theorem dX7_rowKindsThatFit_5 : decode cX7_rowKindsThatFit 5 = .ok (.bipush 6, 2) := by decide +kernel
theorem dX7_rowKindsThatFit_7 : decode cX7_rowKindsThatFit 7 = .ok (.if_icmp .ge 24, 3) := by decide +kernel
theorem dX7_rowKindsThatFit_10 : decode cX7_rowKindsThatFit 10 = .ok (.aload_n 0, 1) := by decide +kernel
theorem dX7_rowKindsThatFit_11 : decode cX7_rowKindsThatFit 11 = .ok (.iload_n 1, 1) := by decide +kernel
theorem dX7_rowKindsThatFit_12 : decode cX7_rowKindsThatFit 12 = .ok (.iload_n 3, 1) := by decide +kernel
theorem dX7_rowKindsThatFit_13 : decode cX7_rowKindsThatFit 13 = .ok (.invokevirtual 317, 3) := by decide +kernel
theorem dX7_rowKindsThatFit_16 : decode cX7_rowKindsThatFit 16 = .ok (.ifCond .eq 9, 3) := by decide +kernel
theorem dX7_rowKindsThatFit_19 : decode cX7_rowKindsThatFit 19 = .ok (.iload_n 2, 1) := by decide +kernel
theorem dX7_rowKindsThatFit_20 : decode cX7_rowKindsThatFit 20 = .ok (.iconst 1, 1) := by decide +kernel
theorem dX7_rowKindsThatFit_21 : decode cX7_rowKindsThatFit 21 = .ok (.iload_n 3, 1) := by decide +kernel
theorem dX7_rowKindsThatFit_22 : decode cX7_rowKindsThatFit 22 = .ok (.ishl, 1) := by decide +kernel
theorem dX7_rowKindsThatFit_23 : decode cX7_rowKindsThatFit 23 = .ok (.ior, 1) := by decide +kernel
theorem dX7_rowKindsThatFit_24 : decode cX7_rowKindsThatFit 24 = .ok (.istore_n 2, 1) := by decide +kernel
theorem dX7_rowKindsThatFit_25 : decode cX7_rowKindsThatFit 25 = .ok (.iinc 3 1, 3) := by decide +kernel
theorem dX7_rowKindsThatFit_28 : decode cX7_rowKindsThatFit 28 = .ok (.goto (-24), 3) := by decide +kernel
theorem dX7_rowKindsThatFit_31 : decode cX7_rowKindsThatFit 31 = .ok (.iload_n 2, 1) := by decide +kernel
theorem dX7_rowKindsThatFit_32 : decode cX7_rowKindsThatFit 32 = .ok (.ireturn, 1) := by decide +kernel
theorem dX7_fitsNotes_0 : decode cX7_fitsNotes 0 = .ok (.iconst 0, 1) := by decide +kernel
theorem dX7_fitsNotes_1 : decode cX7_fitsNotes 1 = .ok (.istore_n 3, 1) := by decide +kernel
theorem dX7_fitsNotes_2 : decode cX7_fitsNotes 2 = .ok (.iload_n 3, 1) := by decide +kernel
theorem dX7_fitsNotes_3 : decode cX7_fitsNotes 3 = .ok (.aload_n 0, 1) := by decide +kernel
theorem dX7_fitsNotes_4 : decode cX7_fitsNotes 4 = .ok (.getfield 10, 3) := by decide +kernel
theorem dX7_fitsNotes_7 : decode cX7_fitsNotes 7 = .ok (.getfield 219, 3) := by decide +kernel
theorem dX7_fitsNotes_10 : decode cX7_fitsNotes 10 = .ok (.getfield 148, 3) := by decide +kernel
theorem dX7_fitsNotes_13 : decode cX7_fitsNotes 13 = .ok (.if_icmp .ge 58, 3) := by decide +kernel
theorem dX7_fitsNotes_16 : decode cX7_fitsNotes 16 = .ok (.aload_n 0, 1) := by decide +kernel
theorem dX7_fitsNotes_17 : decode cX7_fitsNotes 17 = .ok (.getfield 10, 3) := by decide +kernel
theorem dX7_fitsNotes_20 : decode cX7_fitsNotes 20 = .ok (.getfield 219, 3) := by decide +kernel
theorem dX7_fitsNotes_23 : decode cX7_fitsNotes 23 = .ok (.iload_n 3, 1) := by decide +kernel
theorem dX7_fitsNotes_24 : decode cX7_fitsNotes 24 = .ok (.iconst 0, 1) := by decide +kernel
theorem dX7_fitsNotes_25 : decode cX7_fitsNotes 25 = .ok (.invokevirtual 308, 3) := by decide +kernel
theorem dX7_fitsNotes_28 : decode cX7_fitsNotes 28 = .ok (.iload_n 1, 1) := by decide +kernel
theorem dX7_fitsNotes_29 : decode cX7_fitsNotes 29 = .ok (.if_icmp .ne 36, 3) := by decide +kernel
theorem dX7_fitsNotes_32 : decode cX7_fitsNotes 32 = .ok (.iload_n 2, 1) := by decide +kernel
theorem dX7_fitsNotes_33 : decode cX7_fitsNotes 33 = .ok (.aload_n 0, 1) := by decide +kernel
theorem dX7_fitsNotes_34 : decode cX7_fitsNotes 34 = .ok (.getfield 10, 3) := by decide +kernel
theorem dX7_fitsNotes_37 : decode cX7_fitsNotes 37 = .ok (.getfield 219, 3) := by decide +kernel
theorem dX7_fitsNotes_40 : decode cX7_fitsNotes 40 = .ok (.iload_n 3, 1) := by decide +kernel
theorem dX7_fitsNotes_41 : decode cX7_fitsNotes 41 = .ok (.iconst 1, 1) := by decide +kernel
theorem dX7_fitsNotes_42 : decode cX7_fitsNotes 42 = .ok (.invokevirtual 308, 3) := by decide +kernel
theorem dX7_fitsNotes_45 : decode cX7_fitsNotes 45 = .ok (.invokestatic 320, 3) := by decide +kernel
theorem dX7_fitsNotes_48 : decode cX7_fitsNotes 48 = .ok (.aload_n 0, 1) := by decide +kernel
theorem dX7_fitsNotes_49 : decode cX7_fitsNotes 49 = .ok (.getfield 10, 3) := by decide +kernel
theorem dX7_fitsNotes_52 : decode cX7_fitsNotes 52 = .ok (.getfield 219, 3) := by decide +kernel
theorem dX7_fitsNotes_55 : decode cX7_fitsNotes 55 = .ok (.iload_n 3, 1) := by decide +kernel
theorem dX7_fitsNotes_56 : decode cX7_fitsNotes 56 = .ok (.iconst 2, 1) := by decide +kernel
theorem dX7_fitsNotes_57 : decode cX7_fitsNotes 57 = .ok (.invokevirtual 308, 3) := by decide +kernel
theorem dX7_fitsNotes_60 : decode cX7_fitsNotes 60 = .ok (.if_icmp .eq 5, 3) := by decide +kernel
theorem dX7_fitsNotes_63 : decode cX7_fitsNotes 63 = .ok (.iconst 0, 1) := by decide +kernel
theorem dX7_fitsNotes_64 : decode cX7_fitsNotes 64 = .ok (.ireturn, 1) := by decide +kernel
theorem dX7_fitsNotes_65 : decode cX7_fitsNotes 65 = .ok (.iinc 3 1, 3) := by decide +kernel
theorem dX7_fitsNotes_68 : decode cX7_fitsNotes 68 = .ok (.goto (-66), 3) := by decide +kernel
theorem dX7_fitsNotes_71 : decode cX7_fitsNotes 71 = .ok (.iconst 1, 1) := by decide +kernel
theorem dX7_fitsNotes_72 : decode cX7_fitsNotes 72 = .ok (.ireturn, 1) := by decide +kernel
theorem dX7_mostRowKindsAlike_0 : decode cX7_mostRowKindsAlike 0 = .ok (.aload_n 0, 1) := by decide +kernel
theorem dX7_mostRowKindsAlike_1 : decode cX7_mostRowKindsAlike 1 = .ok (.getfield 44, 3) := by decide +kernel
theorem dX7_mostRowKindsAlike_4 : decode cX7_mostRowKindsAlike 4 = .ok (.invokevirtual 311, 3) := by decide +kernel
theorem dX7_mostRowKindsAlike_7 : decode cX7_mostRowKindsAlike 7 = .ok (.iconst 0, 1) := by decide +kernel
theorem dX7_mostRowKindsAlike_8 : decode cX7_mostRowKindsAlike 8 = .ok (.istore_n 3, 1) := by decide +kernel
theorem dX7_mostRowKindsAlike_9 : decode cX7_mostRowKindsAlike 9 = .ok (.iload_n 3, 1) := by decide +kernel
theorem dX7_mostRowKindsAlike_10 : decode cX7_mostRowKindsAlike 10 = .ok (.bipush 6, 2) := by decide +kernel
theorem dX7_mostRowKindsAlike_12 : decode cX7_mostRowKindsAlike 12 = .ok (.if_icmp .ge 29, 3) := by decide +kernel
theorem dX7_mostRowKindsAlike_15 : decode cX7_mostRowKindsAlike 15 = .ok (.iload_n 1, 1) := by decide +kernel
theorem dX7_mostRowKindsAlike_16 : decode cX7_mostRowKindsAlike 16 = .ok (.iload_n 3, 1) := by decide +kernel
theorem dX7_mostRowKindsAlike_17 : decode cX7_mostRowKindsAlike 17 = .ok (.invokestatic 213, 3) := by decide +kernel
theorem dX7_mostRowKindsAlike_20 : decode cX7_mostRowKindsAlike 20 = .ok (.ifCond .eq 15, 3) := by decide +kernel
theorem dX7_mostRowKindsAlike_23 : decode cX7_mostRowKindsAlike 23 = .ok (.aload_n 0, 1) := by decide +kernel
theorem dX7_mostRowKindsAlike_24 : decode cX7_mostRowKindsAlike 24 = .ok (.getfield 44, 3) := by decide +kernel
theorem dX7_mostRowKindsAlike_27 : decode cX7_mostRowKindsAlike 27 = .ok (.iload_n 3, 1) := by decide +kernel
theorem dX7_mostRowKindsAlike_28 : decode cX7_mostRowKindsAlike 28 = .ok (.iload_n 2, 1) := by decide +kernel
theorem dX7_mostRowKindsAlike_29 : decode cX7_mostRowKindsAlike 29 = .ok (.invokestatic 320, 3) := by decide +kernel
theorem dX7_mostRowKindsAlike_32 : decode cX7_mostRowKindsAlike 32 = .ok (.invokevirtual 312, 3) := by decide +kernel
theorem dX7_mostRowKindsAlike_35 : decode cX7_mostRowKindsAlike 35 = .ok (.iinc 3 1, 3) := by decide +kernel
theorem dX7_mostRowKindsAlike_38 : decode cX7_mostRowKindsAlike 38 = .ok (.goto (-29), 3) := by decide +kernel
theorem dX7_mostRowKindsAlike_41 : decode cX7_mostRowKindsAlike 41 = .ok (.aload_n 0, 1) := by decide +kernel
theorem dX7_mostRowKindsAlike_42 : decode cX7_mostRowKindsAlike 42 = .ok (.getfield 44, 3) := by decide +kernel
theorem dX7_mostRowKindsAlike_45 : decode cX7_mostRowKindsAlike 45 = .ok (.getfield 314, 3) := by decide +kernel
theorem dX7_mostRowKindsAlike_48 : decode cX7_mostRowKindsAlike 48 = .ok (.ireturn, 1) := by decide +kernel
theorem dX7_soulKindsThatFit_0 : decode cX7_soulKindsThatFit 0 = .ok (.iconst 0, 1) := by decide +kernel
theorem dX7_soulKindsThatFit_1 : decode cX7_soulKindsThatFit 1 = .ok (.istore_n 2, 1) := by decide +kernel
theorem dX7_soulKindsThatFit_2 : decode cX7_soulKindsThatFit 2 = .ok (.iconst 0, 1) := by decide +kernel
theorem dX7_soulKindsThatFit_3 : decode cX7_soulKindsThatFit 3 = .ok (.istore_n 3, 1) := by decide +kernel
theorem dX7_soulKindsThatFit_4 : decode cX7_soulKindsThatFit 4 = .ok (.iload_n 3, 1) := by decide +kernel
theorem dX7_soulKindsThatFit_5 : decode cX7_soulKindsThatFit 5 = .ok (.bipush 6, 2) := by decide +kernel
theorem dX7_soulKindsThatFit_7 : decode cX7_soulKindsThatFit 7 = .ok (.if_icmp .ge 24, 3) := by decide +kernel
theorem dX7_soulKindsThatFit_10 : decode cX7_soulKindsThatFit 10 = .ok (.aload_n 0, 1) := by decide +kernel
theorem dX7_soulKindsThatFit_11 : decode cX7_soulKindsThatFit 11 = .ok (.iload_n 1, 1) := by decide +kernel
theorem dX7_soulKindsThatFit_12 : decode cX7_soulKindsThatFit 12 = .ok (.iload_n 3, 1) := by decide +kernel
theorem dX7_soulKindsThatFit_13 : decode cX7_soulKindsThatFit 13 = .ok (.invokevirtual 323, 3) := by decide +kernel
theorem dX7_soulKindsThatFit_16 : decode cX7_soulKindsThatFit 16 = .ok (.ifCond .eq 9, 3) := by decide +kernel
theorem dX7_soulKindsThatFit_19 : decode cX7_soulKindsThatFit 19 = .ok (.iload_n 2, 1) := by decide +kernel
theorem dX7_soulKindsThatFit_20 : decode cX7_soulKindsThatFit 20 = .ok (.iconst 1, 1) := by decide +kernel
theorem dX7_soulKindsThatFit_21 : decode cX7_soulKindsThatFit 21 = .ok (.iload_n 3, 1) := by decide +kernel
theorem dX7_soulKindsThatFit_22 : decode cX7_soulKindsThatFit 22 = .ok (.ishl, 1) := by decide +kernel
theorem dX7_soulKindsThatFit_23 : decode cX7_soulKindsThatFit 23 = .ok (.ior, 1) := by decide +kernel
theorem dX7_soulKindsThatFit_24 : decode cX7_soulKindsThatFit 24 = .ok (.istore_n 2, 1) := by decide +kernel
theorem dX7_soulKindsThatFit_25 : decode cX7_soulKindsThatFit 25 = .ok (.iinc 3 1, 3) := by decide +kernel
theorem dX7_soulKindsThatFit_28 : decode cX7_soulKindsThatFit 28 = .ok (.goto (-24), 3) := by decide +kernel
theorem dX7_soulKindsThatFit_31 : decode cX7_soulKindsThatFit 31 = .ok (.iload_n 2, 1) := by decide +kernel
theorem dX7_soulKindsThatFit_32 : decode cX7_soulKindsThatFit 32 = .ok (.ireturn, 1) := by decide +kernel
theorem dX7_fitsMarks_0 : decode cX7_fitsMarks 0 = .ok (.iconst 0, 1) := by decide +kernel
theorem dX7_fitsMarks_1 : decode cX7_fitsMarks 1 = .ok (.istore_n 3, 1) := by decide +kernel
theorem dX7_fitsMarks_2 : decode cX7_fitsMarks 2 = .ok (.iload_n 3, 1) := by decide +kernel
theorem dX7_fitsMarks_3 : decode cX7_fitsMarks 3 = .ok (.aload_n 0, 1) := by decide +kernel
theorem dX7_fitsMarks_4 : decode cX7_fitsMarks 4 = .ok (.getfield 10, 3) := by decide +kernel
theorem dX7_fitsMarks_7 : decode cX7_fitsMarks 7 = .ok (.getfield 222, 3) := by decide +kernel
theorem dX7_fitsMarks_10 : decode cX7_fitsMarks 10 = .ok (.getfield 148, 3) := by decide +kernel
theorem dX7_fitsMarks_13 : decode cX7_fitsMarks 13 = .ok (.if_icmp .ge 70, 3) := by decide +kernel
theorem dX7_fitsMarks_16 : decode cX7_fitsMarks 16 = .ok (.aload_n 0, 1) := by decide +kernel
theorem dX7_fitsMarks_17 : decode cX7_fitsMarks 17 = .ok (.getfield 10, 3) := by decide +kernel
theorem dX7_fitsMarks_20 : decode cX7_fitsMarks 20 = .ok (.getfield 222, 3) := by decide +kernel
theorem dX7_fitsMarks_23 : decode cX7_fitsMarks 23 = .ok (.iload_n 3, 1) := by decide +kernel
theorem dX7_fitsMarks_24 : decode cX7_fitsMarks 24 = .ok (.iconst 0, 1) := by decide +kernel
theorem dX7_fitsMarks_25 : decode cX7_fitsMarks 25 = .ok (.invokevirtual 308, 3) := by decide +kernel
theorem dX7_fitsMarks_28 : decode cX7_fitsMarks 28 = .ok (.iload_n 1, 1) := by decide +kernel
theorem dX7_fitsMarks_29 : decode cX7_fitsMarks 29 = .ok (.if_icmp .ne 48, 3) := by decide +kernel
theorem dX7_fitsMarks_32 : decode cX7_fitsMarks 32 = .ok (.iload_n 2, 1) := by decide +kernel
theorem dX7_fitsMarks_33 : decode cX7_fitsMarks 33 = .ok (.aload_n 0, 1) := by decide +kernel
theorem dX7_fitsMarks_34 : decode cX7_fitsMarks 34 = .ok (.getfield 10, 3) := by decide +kernel
theorem dX7_fitsMarks_37 : decode cX7_fitsMarks 37 = .ok (.getfield 222, 3) := by decide +kernel
theorem dX7_fitsMarks_40 : decode cX7_fitsMarks 40 = .ok (.iload_n 3, 1) := by decide +kernel
theorem dX7_fitsMarks_41 : decode cX7_fitsMarks 41 = .ok (.iconst 1, 1) := by decide +kernel
theorem dX7_fitsMarks_42 : decode cX7_fitsMarks 42 = .ok (.invokevirtual 308, 3) := by decide +kernel
theorem dX7_fitsMarks_45 : decode cX7_fitsMarks 45 = .ok (.aload_n 0, 1) := by decide +kernel
theorem dX7_fitsMarks_46 : decode cX7_fitsMarks 46 = .ok (.getfield 10, 3) := by decide +kernel
theorem dX7_fitsMarks_49 : decode cX7_fitsMarks 49 = .ok (.getfield 222, 3) := by decide +kernel
theorem dX7_fitsMarks_52 : decode cX7_fitsMarks 52 = .ok (.iload_n 3, 1) := by decide +kernel
theorem dX7_fitsMarks_53 : decode cX7_fitsMarks 53 = .ok (.iconst 2, 1) := by decide +kernel
theorem dX7_fitsMarks_54 : decode cX7_fitsMarks 54 = .ok (.invokevirtual 308, 3) := by decide +kernel
theorem dX7_fitsMarks_57 : decode cX7_fitsMarks 57 = .ok (.invokestatic 301, 3) := by decide +kernel
theorem dX7_fitsMarks_60 : decode cX7_fitsMarks 60 = .ok (.aload_n 0, 1) := by decide +kernel
theorem dX7_fitsMarks_61 : decode cX7_fitsMarks 61 = .ok (.getfield 10, 3) := by decide +kernel
theorem dX7_fitsMarks_64 : decode cX7_fitsMarks 64 = .ok (.getfield 222, 3) := by decide +kernel
theorem dX7_fitsMarks_67 : decode cX7_fitsMarks 67 = .ok (.iload_n 3, 1) := by decide +kernel
theorem dX7_fitsMarks_68 : decode cX7_fitsMarks 68 = .ok (.iconst 3, 1) := by decide +kernel
theorem dX7_fitsMarks_69 : decode cX7_fitsMarks 69 = .ok (.invokevirtual 308, 3) := by decide +kernel
theorem dX7_fitsMarks_72 : decode cX7_fitsMarks 72 = .ok (.if_icmp .eq 5, 3) := by decide +kernel
theorem dX7_fitsMarks_75 : decode cX7_fitsMarks 75 = .ok (.iconst 0, 1) := by decide +kernel
theorem dX7_fitsMarks_76 : decode cX7_fitsMarks 76 = .ok (.ireturn, 1) := by decide +kernel
theorem dX7_fitsMarks_77 : decode cX7_fitsMarks 77 = .ok (.iinc 3 1, 3) := by decide +kernel
theorem dX7_fitsMarks_80 : decode cX7_fitsMarks 80 = .ok (.goto (-78), 3) := by decide +kernel
theorem dX7_fitsMarks_83 : decode cX7_fitsMarks 83 = .ok (.iconst 1, 1) := by decide +kernel
theorem dX7_fitsMarks_84 : decode cX7_fitsMarks 84 = .ok (.ireturn, 1) := by decide +kernel
theorem dX7_mostSoulKindsAlike_0 : decode cX7_mostSoulKindsAlike 0 = .ok (.aload_n 0, 1) := by decide +kernel
theorem dX7_mostSoulKindsAlike_1 : decode cX7_mostSoulKindsAlike 1 = .ok (.getfield 44, 3) := by decide +kernel
theorem dX7_mostSoulKindsAlike_4 : decode cX7_mostSoulKindsAlike 4 = .ok (.invokevirtual 311, 3) := by decide +kernel
theorem dX7_mostSoulKindsAlike_7 : decode cX7_mostSoulKindsAlike 7 = .ok (.iconst 0, 1) := by decide +kernel
theorem dX7_mostSoulKindsAlike_8 : decode cX7_mostSoulKindsAlike 8 = .ok (.istore 4, 2) := by decide +kernel
theorem dX7_mostSoulKindsAlike_10 : decode cX7_mostSoulKindsAlike 10 = .ok (.iload 4, 2) := by decide +kernel
theorem dX7_mostSoulKindsAlike_12 : decode cX7_mostSoulKindsAlike 12 = .ok (.bipush 6, 2) := by decide +kernel
theorem dX7_mostSoulKindsAlike_14 : decode cX7_mostSoulKindsAlike 14 = .ok (.if_icmp .ge 32, 3) := by decide +kernel
theorem dX7_mostSoulKindsAlike_17 : decode cX7_mostSoulKindsAlike 17 = .ok (.iload_n 1, 1) := by decide +kernel
theorem dX7_mostSoulKindsAlike_18 : decode cX7_mostSoulKindsAlike 18 = .ok (.iload 4, 2) := by decide +kernel
theorem dX7_mostSoulKindsAlike_20 : decode cX7_mostSoulKindsAlike 20 = .ok (.invokestatic 213, 3) := by decide +kernel
theorem dX7_mostSoulKindsAlike_23 : decode cX7_mostSoulKindsAlike 23 = .ok (.ifCond .eq 17, 3) := by decide +kernel
theorem dX7_mostSoulKindsAlike_26 : decode cX7_mostSoulKindsAlike 26 = .ok (.aload_n 0, 1) := by decide +kernel
theorem dX7_mostSoulKindsAlike_27 : decode cX7_mostSoulKindsAlike 27 = .ok (.getfield 44, 3) := by decide +kernel
theorem dX7_mostSoulKindsAlike_30 : decode cX7_mostSoulKindsAlike 30 = .ok (.iload 4, 2) := by decide +kernel
theorem dX7_mostSoulKindsAlike_32 : decode cX7_mostSoulKindsAlike 32 = .ok (.iload_n 2, 1) := by decide +kernel
theorem dX7_mostSoulKindsAlike_33 : decode cX7_mostSoulKindsAlike 33 = .ok (.iload_n 3, 1) := by decide +kernel
theorem dX7_mostSoulKindsAlike_34 : decode cX7_mostSoulKindsAlike 34 = .ok (.invokestatic 301, 3) := by decide +kernel
theorem dX7_mostSoulKindsAlike_37 : decode cX7_mostSoulKindsAlike 37 = .ok (.invokevirtual 312, 3) := by decide +kernel
theorem dX7_mostSoulKindsAlike_40 : decode cX7_mostSoulKindsAlike 40 = .ok (.iinc 4 1, 3) := by decide +kernel
theorem dX7_mostSoulKindsAlike_43 : decode cX7_mostSoulKindsAlike 43 = .ok (.goto (-33), 3) := by decide +kernel
theorem dX7_mostSoulKindsAlike_46 : decode cX7_mostSoulKindsAlike 46 = .ok (.aload_n 0, 1) := by decide +kernel
theorem dX7_mostSoulKindsAlike_47 : decode cX7_mostSoulKindsAlike 47 = .ok (.getfield 44, 3) := by decide +kernel
theorem dX7_mostSoulKindsAlike_50 : decode cX7_mostSoulKindsAlike 50 = .ok (.getfield 314, 3) := by decide +kernel
theorem dX7_mostSoulKindsAlike_53 : decode cX7_mostSoulKindsAlike 53 = .ok (.ireturn, 1) := by decide +kernel
theorem dX7_setTenths_0 : decode cX7_setTenths 0 = .ok (.bipush 10, 2) := by decide +kernel
theorem dX7_setTenths_2 : decode cX7_setTenths 2 = .ok (.istore_n 2, 1) := by decide +kernel
theorem dX7_setTenths_3 : decode cX7_setTenths 3 = .ok (.iload_n 2, 1) := by decide +kernel
theorem dX7_setTenths_4 : decode cX7_setTenths 4 = .ok (.iconst 1, 1) := by decide +kernel
theorem dX7_setTenths_5 : decode cX7_setTenths 5 = .ok (.if_icmp .lt 40, 3) := by decide +kernel
theorem dX7_setTenths_8 : decode cX7_setTenths 8 = .ok (.bipush 10, 2) := by decide +kernel
theorem dX7_setTenths_10 : decode cX7_setTenths 10 = .ok (.iload_n 2, 1) := by decide +kernel
theorem dX7_setTenths_11 : decode cX7_setTenths 11 = .ok (.irem, 1) := by decide +kernel
theorem dX7_setTenths_12 : decode cX7_setTenths 12 = .ok (.ifCond .ne 27, 3) := by decide +kernel
theorem dX7_setTenths_15 : decode cX7_setTenths 15 = .ok (.iload_n 1, 1) := by decide +kernel
theorem dX7_setTenths_16 : decode cX7_setTenths 16 = .ok (.iload_n 2, 1) := by decide +kernel
theorem dX7_setTenths_17 : decode cX7_setTenths 17 = .ok (.irem, 1) := by decide +kernel
theorem dX7_setTenths_18 : decode cX7_setTenths 18 = .ok (.ifCond .ne 21, 3) := by decide +kernel
theorem dX7_setTenths_21 : decode cX7_setTenths 21 = .ok (.aload_n 0, 1) := by decide +kernel
theorem dX7_setTenths_22 : decode cX7_setTenths 22 = .ok (.iload_n 1, 1) := by decide +kernel
theorem dX7_setTenths_23 : decode cX7_setTenths 23 = .ok (.iload_n 2, 1) := by decide +kernel
theorem dX7_setTenths_24 : decode cX7_setTenths 24 = .ok (.idiv, 1) := by decide +kernel
theorem dX7_setTenths_25 : decode cX7_setTenths 25 = .ok (.i2l, 1) := by decide +kernel
theorem dX7_setTenths_26 : decode cX7_setTenths 26 = .ok (.putfield 261, 3) := by decide +kernel
theorem dX7_setTenths_29 : decode cX7_setTenths 29 = .ok (.aload_n 0, 1) := by decide +kernel
theorem dX7_setTenths_30 : decode cX7_setTenths 30 = .ok (.bipush 10, 2) := by decide +kernel
theorem dX7_setTenths_32 : decode cX7_setTenths 32 = .ok (.iload_n 2, 1) := by decide +kernel
theorem dX7_setTenths_33 : decode cX7_setTenths 33 = .ok (.idiv, 1) := by decide +kernel
theorem dX7_setTenths_34 : decode cX7_setTenths 34 = .ok (.i2l, 1) := by decide +kernel
theorem dX7_setTenths_35 : decode cX7_setTenths 35 = .ok (.putfield 48, 3) := by decide +kernel
theorem dX7_setTenths_38 : decode cX7_setTenths 38 = .ok (.return_, 1) := by decide +kernel
theorem dX7_setTenths_39 : decode cX7_setTenths 39 = .ok (.iinc 2 (-1), 3) := by decide +kernel
theorem dX7_setTenths_42 : decode cX7_setTenths 42 = .ok (.goto (-39), 3) := by decide +kernel
theorem dX7_setTenths_45 : decode cX7_setTenths 45 = .ok (.return_, 1) := by decide +kernel
end
section
theorem dX8_init_0 : decode cX8_init 0 = .ok (.aload_n 0, 1) := by decide +kernel
theorem dX8_init_1 : decode cX8_init 1 = .ok (.invokespecial 1, 3) := by decide +kernel
theorem dX8_init_4 : decode cX8_init 4 = .ok (.aload_n 0, 1) := by decide +kernel
theorem dX8_init_5 : decode cX8_init 5 = .ok (.sipush 171, 3) := by decide +kernel
theorem dX8_init_8 : decode cX8_init 8 = .ok (.newarray .int, 2) := by decide +kernel
theorem dX8_init_10 : decode cX8_init 10 = .ok (.putfield 7, 3) := by decide +kernel
theorem dX8_init_13 : decode cX8_init 13 = .ok (.aload_n 0, 1) := by decide +kernel
theorem dX8_init_14 : decode cX8_init 14 = .ok (.sipush 171, 3) := by decide +kernel
theorem dX8_init_17 : decode cX8_init 17 = .ok (.newarray .int, 2) := by decide +kernel
theorem dX8_init_19 : decode cX8_init 19 = .ok (.putfield 13, 3) := by decide +kernel
theorem dX8_init_22 : decode cX8_init 22 = .ok (.aload_n 0, 1) := by decide +kernel
theorem dX8_init_23 : decode cX8_init 23 = .ok (.sipush 342, 3) := by decide +kernel
theorem dX8_init_26 : decode cX8_init 26 = .ok (.newarray .int, 2) := by decide +kernel
theorem dX8_init_28 : decode cX8_init 28 = .ok (.putfield 16, 3) := by decide +kernel
theorem dX8_init_31 : decode cX8_init 31 = .ok (.aload_n 0, 1) := by decide +kernel
theorem dX8_init_32 : decode cX8_init 32 = .ok (.iconst 2, 1) := by decide +kernel
theorem dX8_init_33 : decode cX8_init 33 = .ok (.newarray .boolean, 2) := by decide +kernel
theorem dX8_init_35 : decode cX8_init 35 = .ok (.putfield 19, 3) := by decide +kernel
theorem dX8_init_38 : decode cX8_init 38 = .ok (.aload_n 0, 1) := by decide +kernel
theorem dX8_init_39 : decode cX8_init 39 = .ok (.lconst 1, 1) := by decide +kernel
theorem dX8_init_40 : decode cX8_init 40 = .ok (.putfield 23, 3) := by decide +kernel
theorem dX8_init_43 : decode cX8_init 43 = .ok (.aload_n 0, 1) := by decide +kernel
theorem dX8_init_44 : decode cX8_init 44 = .ok (.iconst 3, 1) := by decide +kernel
theorem dX8_init_45 : decode cX8_init 45 = .ok (.newarray .int, 2) := by decide +kernel
theorem dX8_init_47 : decode cX8_init 47 = .ok (.putfield 27, 3) := by decide +kernel
theorem dX8_init_50 : decode cX8_init 50 = .ok (.aload_n 0, 1) := by decide +kernel
theorem dX8_init_51 : decode cX8_init 51 = .ok (.sipush 150, 3) := by decide +kernel
theorem dX8_init_54 : decode cX8_init 54 = .ok (.newarray .int, 2) := by decide +kernel
theorem dX8_init_56 : decode cX8_init 56 = .ok (.putfield 30, 3) := by decide +kernel
theorem dX8_init_59 : decode cX8_init 59 = .ok (.aload_n 0, 1) := by decide +kernel
theorem dX8_init_60 : decode cX8_init 60 = .ok (.iconst (-1), 1) := by decide +kernel
theorem dX8_init_61 : decode cX8_init 61 = .ok (.putfield 33, 3) := by decide +kernel
theorem dX8_init_64 : decode cX8_init 64 = .ok (.aload_n 0, 1) := by decide +kernel
theorem dX8_init_65 : decode cX8_init 65 = .ok (.bipush 7, 2) := by decide +kernel
theorem dX8_init_67 : decode cX8_init 67 = .ok (.newarray .int, 2) := by decide +kernel
theorem dX8_init_69 : decode cX8_init 69 = .ok (.putfield 37, 3) := by decide +kernel
theorem dX8_init_72 : decode cX8_init 72 = .ok (.aload_n 0, 1) := by decide +kernel
theorem dX8_init_73 : decode cX8_init 73 = .ok (.bipush 7, 2) := by decide +kernel
theorem dX8_init_75 : decode cX8_init 75 = .ok (.newarray .int, 2) := by decide +kernel
theorem dX8_init_77 : decode cX8_init 77 = .ok (.putfield 40, 3) := by decide +kernel
theorem dX8_init_80 : decode cX8_init 80 = .ok (.aload_n 0, 1) := by decide +kernel
theorem dX8_init_81 : decode cX8_init 81 = .ok (.bipush 41, 2) := by decide +kernel
theorem dX8_init_83 : decode cX8_init 83 = .ok (.newarray .int, 2) := by decide +kernel
theorem dX8_init_85 : decode cX8_init 85 = .ok (.putfield 43, 3) := by decide +kernel
theorem dX8_init_88 : decode cX8_init 88 = .ok (.return_, 1) := by decide +kernel
theorem dX8_in_0 : decode cX8_in 0 = .ok (.lload_n 0, 1) := by decide +kernel
theorem dX8_in_1 : decode cX8_in 1 = .ok (.lload_n 2, 1) := by decide +kernel
theorem dX8_in_2 : decode cX8_in 2 = .ok (.lcmp, 1) := by decide +kernel
theorem dX8_in_3 : decode cX8_in 3 = .ok (.ifCond .lt 14, 3) := by decide +kernel
theorem dX8_in_6 : decode cX8_in 6 = .ok (.lload_n 0, 1) := by decide +kernel
theorem dX8_in_7 : decode cX8_in 7 = .ok (.lload 4, 2) := by decide +kernel
theorem dX8_in_9 : decode cX8_in 9 = .ok (.lcmp, 1) := by decide +kernel
theorem dX8_in_10 : decode cX8_in 10 = .ok (.ifCond .gt 7, 3) := by decide +kernel
theorem dX8_in_13 : decode cX8_in 13 = .ok (.iconst 1, 1) := by decide +kernel
theorem dX8_in_14 : decode cX8_in 14 = .ok (.goto 4, 3) := by decide +kernel
theorem dX8_in_17 : decode cX8_in 17 = .ok (.iconst 0, 1) := by decide +kernel
theorem dX8_in_18 : decode cX8_in 18 = .ok (.ireturn, 1) := by decide +kernel
theorem dX8_bad_0 : decode cX8_bad 0 = .ok (.aload_n 0, 1) := by decide +kernel
theorem dX8_bad_1 : decode cX8_bad 1 = .ok (.getfield 27, 3) := by decide +kernel
theorem dX8_bad_4 : decode cX8_bad 4 = .ok (.iconst 0, 1) := by decide +kernel
theorem dX8_bad_5 : decode cX8_bad 5 = .ok (.dup2, 1) := by decide +kernel
theorem dX8_bad_6 : decode cX8_bad 6 = .ok (.iaload, 1) := by decide +kernel
theorem dX8_bad_7 : decode cX8_bad 7 = .ok (.iconst 1, 1) := by decide +kernel
theorem dX8_bad_8 : decode cX8_bad 8 = .ok (.iadd, 1) := by decide +kernel
theorem dX8_bad_9 : decode cX8_bad 9 = .ok (.iastore, 1) := by decide +kernel
theorem dX8_bad_10 : decode cX8_bad 10 = .ok (.bipush (-2), 2) := by decide +kernel
theorem dX8_bad_12 : decode cX8_bad 12 = .ok (.ireturn, 1) := by decide +kernel
theorem dX8_badAs_0 : decode cX8_badAs 0 = .ok (.aload_n 0, 1) := by decide +kernel
theorem dX8_badAs_1 : decode cX8_badAs 1 = .ok (.getfield 27, 3) := by decide +kernel
theorem dX8_badAs_4 : decode cX8_badAs 4 = .ok (.iconst 0, 1) := by decide +kernel
theorem dX8_badAs_5 : decode cX8_badAs 5 = .ok (.dup2, 1) := by decide +kernel
theorem dX8_badAs_6 : decode cX8_badAs 6 = .ok (.iaload, 1) := by decide +kernel
theorem dX8_badAs_7 : decode cX8_badAs 7 = .ok (.iconst 1, 1) := by decide +kernel
theorem dX8_badAs_8 : decode cX8_badAs 8 = .ok (.iadd, 1) := by decide +kernel
theorem dX8_badAs_9 : decode cX8_badAs 9 = .ok (.iastore, 1) := by decide +kernel
theorem dX8_badAs_10 : decode cX8_badAs 10 = .ok (.iload_n 1, 1) := by decide +kernel
theorem dX8_badAs_11 : decode cX8_badAs 11 = .ok (.ireturn, 1) := by decide +kernel
theorem dX8_no_0 : decode cX8_no 0 = .ok (.aload_n 0, 1) := by decide +kernel
theorem dX8_no_1 : decode cX8_no 1 = .ok (.getfield 27, 3) := by decide +kernel
theorem dX8_no_4 : decode cX8_no 4 = .ok (.iconst 1, 1) := by decide +kernel
theorem dX8_no_5 : decode cX8_no 5 = .ok (.dup2, 1) := by decide +kernel
theorem dX8_no_6 : decode cX8_no 6 = .ok (.iaload, 1) := by decide +kernel
theorem dX8_no_7 : decode cX8_no 7 = .ok (.iconst 1, 1) := by decide +kernel
theorem dX8_no_8 : decode cX8_no 8 = .ok (.iadd, 1) := by decide +kernel
theorem dX8_no_9 : decode cX8_no 9 = .ok (.iastore, 1) := by decide +kernel
theorem dX8_no_10 : decode cX8_no 10 = .ok (.bipush (-3), 2) := by decide +kernel
theorem dX8_no_12 : decode cX8_no 12 = .ok (.ireturn, 1) := by decide +kernel
theorem dX8_full_0 : decode cX8_full 0 = .ok (.aload_n 0, 1) := by decide +kernel
theorem dX8_full_1 : decode cX8_full 1 = .ok (.getfield 27, 3) := by decide +kernel
theorem dX8_full_4 : decode cX8_full 4 = .ok (.iconst 2, 1) := by decide +kernel
theorem dX8_full_5 : decode cX8_full 5 = .ok (.dup2, 1) := by decide +kernel
theorem dX8_full_6 : decode cX8_full 6 = .ok (.iaload, 1) := by decide +kernel
theorem dX8_full_7 : decode cX8_full 7 = .ok (.iconst 1, 1) := by decide +kernel
theorem dX8_full_8 : decode cX8_full 8 = .ok (.iadd, 1) := by decide +kernel
theorem dX8_full_9 : decode cX8_full 9 = .ok (.iastore, 1) := by decide +kernel
theorem dX8_full_10 : decode cX8_full 10 = .ok (.bipush (-4), 2) := by decide +kernel
theorem dX8_full_12 : decode cX8_full 12 = .ok (.ireturn, 1) := by decide +kernel
theorem dX8_isSoul_0 : decode cX8_isSoul 0 = .ok (.iload_n 1, 1) := by decide +kernel
theorem dX8_isSoul_1 : decode cX8_isSoul 1 = .ok (.i2l, 1) := by decide +kernel
theorem dX8_isSoul_2 : decode cX8_isSoul 2 = .ok (.lconst 0, 1) := by decide +kernel
theorem dX8_isSoul_3 : decode cX8_isSoul 3 = .ok (.aload_n 0, 1) := by decide +kernel
theorem dX8_isSoul_4 : decode cX8_isSoul 4 = .ok (.getfield 7, 3) := by decide +kernel
theorem dX8_isSoul_7 : decode cX8_isSoul 7 = .ok (.bipush 8, 2) := by decide +kernel
theorem dX8_isSoul_9 : decode cX8_isSoul 9 = .ok (.iaload, 1) := by decide +kernel
theorem dX8_isSoul_10 : decode cX8_isSoul 10 = .ok (.iconst 1, 1) := by decide +kernel
theorem dX8_isSoul_11 : decode cX8_isSoul 11 = .ok (.isub, 1) := by decide +kernel
theorem dX8_isSoul_12 : decode cX8_isSoul 12 = .ok (.i2l, 1) := by decide +kernel
theorem dX8_isSoul_13 : decode cX8_isSoul 13 = .ok (.invokestatic 46, 3) := by decide +kernel
theorem dX8_isSoul_16 : decode cX8_isSoul 16 = .ok (.ireturn, 1) := by decide +kernel
theorem dX8_isCell_0 : decode cX8_isCell 0 = .ok (.iload_n 0, 1) := by decide +kernel
theorem dX8_isCell_1 : decode cX8_isCell 1 = .ok (.i2l, 1) := by decide +kernel
theorem dX8_isCell_2 : decode cX8_isCell 2 = .ok (.lconst 0, 1) := by decide +kernel
theorem dX8_isCell_3 : decode cX8_isCell 3 = .ok (.ldc2_w 50, 3) := by decide +kernel
theorem dX8_isCell_6 : decode cX8_isCell 6 = .ok (.invokestatic 46, 3) := by decide +kernel
theorem dX8_isCell_9 : decode cX8_isCell 9 = .ok (.ireturn, 1) := by decide +kernel
theorem dX8_has_0 : decode cX8_has 0 = .ok (.iload_n 0, 1) := by decide +kernel
theorem dX8_has_1 : decode cX8_has 1 = .ok (.iload_n 1, 1) := by decide +kernel
theorem dX8_has_2 : decode cX8_has 2 = .ok (.ishr, 1) := by decide +kernel
theorem dX8_has_3 : decode cX8_has 3 = .ok (.iconst 1, 1) := by decide +kernel
theorem dX8_has_4 : decode cX8_has 4 = .ok (.iand, 1) := by decide +kernel
theorem dX8_has_5 : decode cX8_has 5 = .ok (.iconst 1, 1) := by decide +kernel
theorem dX8_has_6 : decode cX8_has 6 = .ok (.if_icmp .ne 7, 3) := by decide +kernel
theorem dX8_has_9 : decode cX8_has 9 = .ok (.iconst 1, 1) := by decide +kernel
theorem dX8_has_10 : decode cX8_has 10 = .ok (.goto 4, 3) := by decide +kernel
theorem dX8_has_13 : decode cX8_has 13 = .ok (.iconst 0, 1) := by decide +kernel
theorem dX8_has_14 : decode cX8_has 14 = .ok (.ireturn, 1) := by decide +kernel
theorem dX8_fraction_0 : decode cX8_fraction 0 = .ok (.lload_n 1, 1) := by decide +kernel
theorem dX8_fraction_1 : decode cX8_fraction 1 = .ok (.lstore 5, 2) := by decide +kernel
theorem dX8_fraction_3 : decode cX8_fraction 3 = .ok (.lload_n 3, 1) := by decide +kernel
theorem dX8_fraction_4 : decode cX8_fraction 4 = .ok (.lstore 7, 2) := by decide +kernel
theorem dX8_fraction_6 : decode cX8_fraction 6 = .ok (.lload 7, 2) := by decide +kernel
theorem dX8_fraction_8 : decode cX8_fraction 8 = .ok (.lconst 0, 1) := by decide +kernel
theorem dX8_fraction_9 : decode cX8_fraction 9 = .ok (.lcmp, 1) := by decide +kernel
theorem dX8_fraction_10 : decode cX8_fraction 10 = .ok (.ifCond .eq 21, 3) := by decide +kernel
theorem dX8_fraction_13 : decode cX8_fraction 13 = .ok (.lload 5, 2) := by decide +kernel
theorem dX8_fraction_15 : decode cX8_fraction 15 = .ok (.lload 7, 2) := by decide +kernel
theorem dX8_fraction_17 : decode cX8_fraction 17 = .ok (.lrem, 1) := by decide +kernel
theorem dX8_fraction_18 : decode cX8_fraction 18 = .ok (.lstore 9, 2) := by decide +kernel
theorem dX8_fraction_20 : decode cX8_fraction 20 = .ok (.lload 7, 2) := by decide +kernel
theorem dX8_fraction_22 : decode cX8_fraction 22 = .ok (.lstore 5, 2) := by decide +kernel
theorem dX8_fraction_24 : decode cX8_fraction 24 = .ok (.lload 9, 2) := by decide +kernel
theorem dX8_fraction_26 : decode cX8_fraction 26 = .ok (.lstore 7, 2) := by decide +kernel
theorem dX8_fraction_28 : decode cX8_fraction 28 = .ok (.goto (-22), 3) := by decide +kernel
theorem dX8_fraction_31 : decode cX8_fraction 31 = .ok (.aload_n 0, 1) := by decide +kernel
theorem dX8_fraction_32 : decode cX8_fraction 32 = .ok (.lload_n 1, 1) := by decide +kernel
theorem dX8_fraction_33 : decode cX8_fraction 33 = .ok (.lload 5, 2) := by decide +kernel
theorem dX8_fraction_35 : decode cX8_fraction 35 = .ok (.ldiv, 1) := by decide +kernel
theorem dX8_fraction_36 : decode cX8_fraction 36 = .ok (.putfield 52, 3) := by decide +kernel
theorem dX8_fraction_39 : decode cX8_fraction 39 = .ok (.aload_n 0, 1) := by decide +kernel
theorem dX8_fraction_40 : decode cX8_fraction 40 = .ok (.lload_n 3, 1) := by decide +kernel
theorem dX8_fraction_41 : decode cX8_fraction 41 = .ok (.lload 5, 2) := by decide +kernel
theorem dX8_fraction_43 : decode cX8_fraction 43 = .ok (.ldiv, 1) := by decide +kernel
theorem dX8_fraction_44 : decode cX8_fraction 44 = .ok (.putfield 23, 3) := by decide +kernel
theorem dX8_fraction_47 : decode cX8_fraction 47 = .ok (.iconst 1, 1) := by decide +kernel
theorem dX8_fraction_48 : decode cX8_fraction 48 = .ok (.ireturn, 1) := by decide +kernel
theorem dX8_seesBy_0 : decode cX8_seesBy 0 = .ok (.iconst 2, 1) := by decide +kernel
theorem dX8_seesBy_1 : decode cX8_seesBy 1 = .ok (.iload_n 1, 1) := by decide +kernel
theorem dX8_seesBy_2 : decode cX8_seesBy 2 = .ok (.imul, 1) := by decide +kernel
theorem dX8_seesBy_3 : decode cX8_seesBy 3 = .ok (.iconst 5, 1) := by decide +kernel
theorem dX8_seesBy_4 : decode cX8_seesBy 4 = .ok (.if_icmp .le 11, 3) := by decide +kernel
theorem dX8_seesBy_7 : decode cX8_seesBy 7 = .ok (.iconst 2, 1) := by decide +kernel
theorem dX8_seesBy_8 : decode cX8_seesBy 8 = .ok (.iload_n 1, 1) := by decide +kernel
theorem dX8_seesBy_9 : decode cX8_seesBy 9 = .ok (.imul, 1) := by decide +kernel
theorem dX8_seesBy_10 : decode cX8_seesBy 10 = .ok (.iconst 5, 1) := by decide +kernel
theorem dX8_seesBy_11 : decode cX8_seesBy 11 = .ok (.isub, 1) := by decide +kernel
theorem dX8_seesBy_12 : decode cX8_seesBy 12 = .ok (.goto 8, 3) := by decide +kernel
theorem dX8_seesBy_15 : decode cX8_seesBy 15 = .ok (.iconst 5, 1) := by decide +kernel
theorem dX8_seesBy_16 : decode cX8_seesBy 16 = .ok (.iconst 2, 1) := by decide +kernel
theorem dX8_seesBy_17 : decode cX8_seesBy 17 = .ok (.iload_n 1, 1) := by decide +kernel
theorem dX8_seesBy_18 : decode cX8_seesBy 18 = .ok (.imul, 1) := by decide +kernel
theorem dX8_seesBy_19 : decode cX8_seesBy 19 = .ok (.isub, 1) := by decide +kernel
theorem dX8_seesBy_20 : decode cX8_seesBy 20 = .ok (.istore_n 2, 1) := by decide +kernel
theorem dX8_seesBy_21 : decode cX8_seesBy 21 = .ok (.bipush 9, 2) := by decide +kernel
theorem dX8_seesBy_23 : decode cX8_seesBy 23 = .ok (.iload_n 2, 1) := by decide +kernel
theorem dX8_seesBy_24 : decode cX8_seesBy 24 = .ok (.isub, 1) := by decide +kernel
theorem dX8_seesBy_25 : decode cX8_seesBy 25 = .ok (.istore_n 3, 1) := by decide +kernel
theorem dX8_seesBy_26 : decode cX8_seesBy 26 = .ok (.iload_n 1, 1) := by decide +kernel
theorem dX8_seesBy_27 : decode cX8_seesBy 27 = .ok (.iconst 2, 1) := by decide +kernel
theorem dX8_seesBy_28 : decode cX8_seesBy 28 = .ok (.if_icmp .ne 7, 3) := by decide +kernel
theorem dX8_seesBy_31 : decode cX8_seesBy 31 = .ok (.iconst 0, 1) := by decide +kernel
theorem dX8_seesBy_32 : decode cX8_seesBy 32 = .ok (.goto 4, 3) := by decide +kernel
theorem dX8_seesBy_35 : decode cX8_seesBy 35 = .ok (.iload_n 3, 1) := by decide +kernel
theorem dX8_seesBy_36 : decode cX8_seesBy 36 = .ok (.istore 4, 2) := by decide +kernel
theorem dX8_seesBy_38 : decode cX8_seesBy 38 = .ok (.iload_n 0, 1) := by decide +kernel
theorem dX8_seesBy_39 : decode cX8_seesBy 39 = .ok (.tableswitch 61 0 4 #[33, 35, 38, 42, 46], 33) := by decide +kernel
theorem dX8_seesBy_72 : decode cX8_seesBy 72 = .ok (.iload_n 3, 1) := by decide +kernel
theorem dX8_seesBy_73 : decode cX8_seesBy 73 = .ok (.ireturn, 1) := by decide +kernel
theorem dX8_seesBy_74 : decode cX8_seesBy 74 = .ok (.iload 4, 2) := by decide +kernel
theorem dX8_seesBy_76 : decode cX8_seesBy 76 = .ok (.ireturn, 1) := by decide +kernel
theorem dX8_seesBy_77 : decode cX8_seesBy 77 = .ok (.iload_n 3, 1) := by decide +kernel
theorem dX8_seesBy_78 : decode cX8_seesBy 78 = .ok (.iconst 4, 1) := by decide +kernel
theorem dX8_seesBy_79 : decode cX8_seesBy 79 = .ok (.iadd, 1) := by decide +kernel
theorem dX8_seesBy_80 : decode cX8_seesBy 80 = .ok (.ireturn, 1) := by decide +kernel
theorem dX8_seesBy_81 : decode cX8_seesBy 81 = .ok (.iload_n 3, 1) := by decide +kernel
theorem dX8_seesBy_82 : decode cX8_seesBy 82 = .ok (.iconst 2, 1) := by decide +kernel
theorem dX8_seesBy_83 : decode cX8_seesBy 83 = .ok (.idiv, 1) := by decide +kernel
theorem dX8_seesBy_84 : decode cX8_seesBy 84 = .ok (.ireturn, 1) := by decide +kernel
theorem dX8_seesBy_85 : decode cX8_seesBy 85 = .ok (.iload 4, 2) := by decide +kernel
theorem dX8_seesBy_87 : decode cX8_seesBy 87 = .ok (.iconst 2, 1) := by decide +kernel
theorem dX8_seesBy_88 : decode cX8_seesBy 88 = .ok (.if_icmp .le 10, 3) := by decide +kernel
theorem dX8_seesBy_91 : decode cX8_seesBy 91 = .ok (.iload 4, 2) := by decide +kernel
theorem dX8_seesBy_93 : decode cX8_seesBy 93 = .ok (.iconst 2, 1) := by decide +kernel
theorem dX8_seesBy_94 : decode cX8_seesBy 94 = .ok (.isub, 1) := by decide +kernel
theorem dX8_seesBy_95 : decode cX8_seesBy 95 = .ok (.goto 4, 3) := by decide +kernel
theorem dX8_seesBy_98 : decode cX8_seesBy 98 = .ok (.iconst 0, 1) := by decide +kernel
theorem dX8_seesBy_99 : decode cX8_seesBy 99 = .ok (.ireturn, 1) := by decide +kernel
theorem dX8_seesBy_100 : decode cX8_seesBy 100 = .ok (.iload_n 3, 1) := by decide +kernel
theorem dX8_seesBy_101 : decode cX8_seesBy 101 = .ok (.iconst 4, 1) := by decide +kernel
theorem dX8_seesBy_102 : decode cX8_seesBy 102 = .ok (.iadd, 1) := by decide +kernel
theorem dX8_seesBy_103 : decode cX8_seesBy 103 = .ok (.iconst 2, 1) := by decide +kernel
theorem dX8_seesBy_104 : decode cX8_seesBy 104 = .ok (.iload_n 1, 1) := by decide +kernel
theorem dX8_seesBy_105 : decode cX8_seesBy 105 = .ok (.imul, 1) := by decide +kernel
theorem dX8_seesBy_106 : decode cX8_seesBy 106 = .ok (.if_icmp .le 13, 3) := by decide +kernel
theorem dX8_seesBy_109 : decode cX8_seesBy 109 = .ok (.iload_n 3, 1) := by decide +kernel
theorem dX8_seesBy_110 : decode cX8_seesBy 110 = .ok (.iconst 4, 1) := by decide +kernel
theorem dX8_seesBy_111 : decode cX8_seesBy 111 = .ok (.iadd, 1) := by decide +kernel
theorem dX8_seesBy_112 : decode cX8_seesBy 112 = .ok (.iconst 2, 1) := by decide +kernel
theorem dX8_seesBy_113 : decode cX8_seesBy 113 = .ok (.iload_n 1, 1) := by decide +kernel
theorem dX8_seesBy_114 : decode cX8_seesBy 114 = .ok (.imul, 1) := by decide +kernel
theorem dX8_seesBy_115 : decode cX8_seesBy 115 = .ok (.isub, 1) := by decide +kernel
theorem dX8_seesBy_116 : decode cX8_seesBy 116 = .ok (.goto 4, 3) := by decide +kernel
theorem dX8_seesBy_119 : decode cX8_seesBy 119 = .ok (.iconst 0, 1) := by decide +kernel
theorem dX8_seesBy_120 : decode cX8_seesBy 120 = .ok (.ireturn, 1) := by decide +kernel
theorem dX8_fussBy_0 : decode cX8_fussBy 0 = .ok (.iload_n 2, 1) := by decide +kernel
theorem dX8_fussBy_1 : decode cX8_fussBy 1 = .ok (.bipush 10, 2) := by decide +kernel
theorem dX8_fussBy_3 : decode cX8_fussBy 3 = .ok (.if_icmp .lt 9, 3) := by decide +kernel
theorem dX8_fussBy_6 : decode cX8_fussBy 6 = .ok (.iconst 2, 1) := by decide +kernel
theorem dX8_fussBy_7 : decode cX8_fussBy 7 = .ok (.iload_n 1, 1) := by decide +kernel
theorem dX8_fussBy_8 : decode cX8_fussBy 8 = .ok (.imul, 1) := by decide +kernel
theorem dX8_fussBy_9 : decode cX8_fussBy 9 = .ok (.goto 4, 3) := by decide +kernel
theorem dX8_fussBy_12 : decode cX8_fussBy 12 = .ok (.iload_n 1, 1) := by decide +kernel
theorem dX8_fussBy_13 : decode cX8_fussBy 13 = .ok (.istore_n 3, 1) := by decide +kernel
theorem dX8_fussBy_14 : decode cX8_fussBy 14 = .ok (.iload_n 0, 1) := by decide +kernel
theorem dX8_fussBy_15 : decode cX8_fussBy 15 = .ok (.tableswitch 51 0 4 #[33, 35, 39, 41, 47], 33) := by decide +kernel
theorem dX8_fussBy_48 : decode cX8_fussBy 48 = .ok (.iload_n 1, 1) := by decide +kernel
theorem dX8_fussBy_49 : decode cX8_fussBy 49 = .ok (.ireturn, 1) := by decide +kernel
theorem dX8_fussBy_50 : decode cX8_fussBy 50 = .ok (.iload_n 1, 1) := by decide +kernel
theorem dX8_fussBy_51 : decode cX8_fussBy 51 = .ok (.iconst 2, 1) := by decide +kernel
theorem dX8_fussBy_52 : decode cX8_fussBy 52 = .ok (.iadd, 1) := by decide +kernel
theorem dX8_fussBy_53 : decode cX8_fussBy 53 = .ok (.ireturn, 1) := by decide +kernel
theorem dX8_fussBy_54 : decode cX8_fussBy 54 = .ok (.iload_n 3, 1) := by decide +kernel
theorem dX8_fussBy_55 : decode cX8_fussBy 55 = .ok (.ireturn, 1) := by decide +kernel
theorem dX8_fussBy_56 : decode cX8_fussBy 56 = .ok (.iload_n 1, 1) := by decide +kernel
theorem dX8_fussBy_57 : decode cX8_fussBy 57 = .ok (.iconst 1, 1) := by decide +kernel
theorem dX8_fussBy_58 : decode cX8_fussBy 58 = .ok (.iadd, 1) := by decide +kernel
theorem dX8_fussBy_59 : decode cX8_fussBy 59 = .ok (.iconst 2, 1) := by decide +kernel
theorem dX8_fussBy_60 : decode cX8_fussBy 60 = .ok (.idiv, 1) := by decide +kernel
theorem dX8_fussBy_61 : decode cX8_fussBy 61 = .ok (.ireturn, 1) := by decide +kernel
theorem dX8_fussBy_62 : decode cX8_fussBy 62 = .ok (.iload_n 1, 1) := by decide +kernel
theorem dX8_fussBy_63 : decode cX8_fussBy 63 = .ok (.iconst 1, 1) := by decide +kernel
theorem dX8_fussBy_64 : decode cX8_fussBy 64 = .ok (.iadd, 1) := by decide +kernel
theorem dX8_fussBy_65 : decode cX8_fussBy 65 = .ok (.ireturn, 1) := by decide +kernel
theorem dX8_fussBy_66 : decode cX8_fussBy 66 = .ok (.iload_n 1, 1) := by decide +kernel
theorem dX8_fussBy_67 : decode cX8_fussBy 67 = .ok (.ifCond .le 9, 3) := by decide +kernel
theorem dX8_fussBy_70 : decode cX8_fussBy 70 = .ok (.iload_n 3, 1) := by decide +kernel
theorem dX8_fussBy_71 : decode cX8_fussBy 71 = .ok (.iconst 3, 1) := by decide +kernel
theorem dX8_fussBy_72 : decode cX8_fussBy 72 = .ok (.iadd, 1) := by decide +kernel
theorem dX8_fussBy_73 : decode cX8_fussBy 73 = .ok (.goto 4, 3) := by decide +kernel
theorem dX8_fussBy_76 : decode cX8_fussBy 76 = .ok (.iload_n 3, 1) := by decide +kernel
theorem dX8_fussBy_77 : decode cX8_fussBy 77 = .ok (.ireturn, 1) := by decide +kernel
theorem dX8_soulOf_0 : decode cX8_soulOf 0 = .ok (.aload_n 0, 1) := by decide +kernel
theorem dX8_soulOf_1 : decode cX8_soulOf 1 = .ok (.bipush 9, 2) := by decide +kernel
theorem dX8_soulOf_3 : decode cX8_soulOf 3 = .ok (.iconst 3, 1) := by decide +kernel
theorem dX8_soulOf_4 : decode cX8_soulOf 4 = .ok (.iload_n 1, 1) := by decide +kernel
theorem dX8_soulOf_5 : decode cX8_soulOf 5 = .ok (.imul, 1) := by decide +kernel
theorem dX8_soulOf_6 : decode cX8_soulOf 6 = .ok (.iadd, 1) := by decide +kernel
theorem dX8_soulOf_7 : decode cX8_soulOf 7 = .ok (.iload_n 2, 1) := by decide +kernel
theorem dX8_soulOf_8 : decode cX8_soulOf 8 = .ok (.iadd, 1) := by decide +kernel
theorem dX8_soulOf_9 : decode cX8_soulOf 9 = .ok (.iaload, 1) := by decide +kernel
theorem dX8_soulOf_10 : decode cX8_soulOf 10 = .ok (.ireturn, 1) := by decide +kernel
theorem dX8_cellOf_0 : decode cX8_cellOf 0 = .ok (.aload_n 0, 1) := by decide +kernel
theorem dX8_cellOf_1 : decode cX8_cellOf 1 = .ok (.iload_n 1, 1) := by decide +kernel
theorem dX8_cellOf_2 : decode cX8_cellOf 2 = .ok (.iconst 2, 1) := by decide +kernel
theorem dX8_cellOf_3 : decode cX8_cellOf 3 = .ok (.invokestatic 55, 3) := by decide +kernel
theorem dX8_cellOf_6 : decode cX8_cellOf 6 = .ok (.iconst 1, 1) := by decide +kernel
theorem dX8_cellOf_7 : decode cX8_cellOf 7 = .ok (.isub, 1) := by decide +kernel
theorem dX8_cellOf_8 : decode cX8_cellOf 8 = .ok (.ireturn, 1) := by decide +kernel
theorem dX8_sits_0 : decode cX8_sits 0 = .ok (.aload_n 0, 1) := by decide +kernel
theorem dX8_sits_1 : decode cX8_sits 1 = .ok (.bipush 11, 2) := by decide +kernel
theorem dX8_sits_3 : decode cX8_sits 3 = .ok (.iconst 3, 1) := by decide +kernel
theorem dX8_sits_4 : decode cX8_sits 4 = .ok (.iload_n 1, 1) := by decide +kernel
theorem dX8_sits_5 : decode cX8_sits 5 = .ok (.imul, 1) := by decide +kernel
theorem dX8_sits_6 : decode cX8_sits 6 = .ok (.iadd, 1) := by decide +kernel
theorem dX8_sits_7 : decode cX8_sits 7 = .ok (.iload_n 2, 1) := by decide +kernel
theorem dX8_sits_8 : decode cX8_sits 8 = .ok (.iconst 1, 1) := by decide +kernel
theorem dX8_sits_9 : decode cX8_sits 9 = .ok (.iadd, 1) := by decide +kernel
theorem dX8_sits_10 : decode cX8_sits 10 = .ok (.iastore, 1) := by decide +kernel
theorem dX8_sits_11 : decode cX8_sits 11 = .ok (.return_, 1) := by decide +kernel
theorem dX8_whoSits_0 : decode cX8_whoSits 0 = .ok (.iconst 0, 1) := by decide +kernel
theorem dX8_whoSits_1 : decode cX8_whoSits 1 = .ok (.istore_n 2, 1) := by decide +kernel
theorem dX8_whoSits_2 : decode cX8_whoSits 2 = .ok (.iload_n 2, 1) := by decide +kernel
theorem dX8_whoSits_3 : decode cX8_whoSits 3 = .ok (.aload_n 0, 1) := by decide +kernel
theorem dX8_whoSits_4 : decode cX8_whoSits 4 = .ok (.bipush 8, 2) := by decide +kernel
theorem dX8_whoSits_6 : decode cX8_whoSits 6 = .ok (.iaload, 1) := by decide +kernel
theorem dX8_whoSits_7 : decode cX8_whoSits 7 = .ok (.if_icmp .ge 20, 3) := by decide +kernel
theorem dX8_whoSits_10 : decode cX8_whoSits 10 = .ok (.aload_n 0, 1) := by decide +kernel
theorem dX8_whoSits_11 : decode cX8_whoSits 11 = .ok (.iload_n 2, 1) := by decide +kernel
theorem dX8_whoSits_12 : decode cX8_whoSits 12 = .ok (.invokestatic 59, 3) := by decide +kernel
theorem dX8_whoSits_15 : decode cX8_whoSits 15 = .ok (.iload_n 1, 1) := by decide +kernel
theorem dX8_whoSits_16 : decode cX8_whoSits 16 = .ok (.if_icmp .ne 5, 3) := by decide +kernel
theorem dX8_whoSits_19 : decode cX8_whoSits 19 = .ok (.iload_n 2, 1) := by decide +kernel
theorem dX8_whoSits_20 : decode cX8_whoSits 20 = .ok (.ireturn, 1) := by decide +kernel
theorem dX8_whoSits_21 : decode cX8_whoSits 21 = .ok (.iinc 2 1, 3) := by decide +kernel
theorem dX8_whoSits_24 : decode cX8_whoSits 24 = .ok (.goto (-22), 3) := by decide +kernel
theorem dX8_whoSits_27 : decode cX8_whoSits 27 = .ok (.iconst (-1), 1) := by decide +kernel
theorem dX8_whoSits_28 : decode cX8_whoSits 28 = .ok (.ireturn, 1) := by decide +kernel
theorem dX8_isFree_0 : decode cX8_isFree 0 = .ok (.aload_n 0, 1) := by decide +kernel
theorem dX8_isFree_1 : decode cX8_isFree 1 = .ok (.iload_n 1, 1) := by decide +kernel
theorem dX8_isFree_2 : decode cX8_isFree 2 = .ok (.invokestatic 63, 3) := by decide +kernel
theorem dX8_isFree_5 : decode cX8_isFree 5 = .ok (.iconst (-1), 1) := by decide +kernel
theorem dX8_isFree_6 : decode cX8_isFree 6 = .ok (.if_icmp .ne 17, 3) := by decide +kernel
theorem dX8_isFree_9 : decode cX8_isFree 9 = .ok (.aload_n 0, 1) := by decide +kernel
theorem dX8_isFree_10 : decode cX8_isFree 10 = .ok (.iconst 5, 1) := by decide +kernel
theorem dX8_isFree_11 : decode cX8_isFree 11 = .ok (.iaload, 1) := by decide +kernel
theorem dX8_isFree_12 : decode cX8_isFree 12 = .ok (.iload_n 1, 1) := by decide +kernel
theorem dX8_isFree_13 : decode cX8_isFree 13 = .ok (.invokestatic 66, 3) := by decide +kernel
theorem dX8_isFree_16 : decode cX8_isFree 16 = .ok (.ifCond .ne 7, 3) := by decide +kernel
theorem dX8_isFree_19 : decode cX8_isFree 19 = .ok (.iconst 1, 1) := by decide +kernel
theorem dX8_isFree_20 : decode cX8_isFree 20 = .ok (.goto 4, 3) := by decide +kernel
theorem dX8_isFree_23 : decode cX8_isFree 23 = .ok (.iconst 0, 1) := by decide +kernel
theorem dX8_isFree_24 : decode cX8_isFree 24 = .ok (.ireturn, 1) := by decide +kernel
theorem dX8_knees_0 : decode cX8_knees 0 = .ok (.iconst 0, 1) := by decide +kernel
theorem dX8_knees_1 : decode cX8_knees 1 = .ok (.istore_n 3, 1) := by decide +kernel
theorem dX8_knees_2 : decode cX8_knees 2 = .ok (.iconst 0, 1) := by decide +kernel
theorem dX8_knees_3 : decode cX8_knees 3 = .ok (.istore 4, 2) := by decide +kernel
theorem dX8_knees_5 : decode cX8_knees 5 = .ok (.iload 4, 2) := by decide +kernel
theorem dX8_knees_7 : decode cX8_knees 7 = .ok (.aload_n 0, 1) := by decide +kernel
theorem dX8_knees_8 : decode cX8_knees 8 = .ok (.bipush 8, 2) := by decide +kernel
theorem dX8_knees_10 : decode cX8_knees 10 = .ok (.iaload, 1) := by decide +kernel
theorem dX8_knees_11 : decode cX8_knees 11 = .ok (.if_icmp .ge 49, 3) := by decide +kernel
theorem dX8_knees_14 : decode cX8_knees 14 = .ok (.aload_n 0, 1) := by decide +kernel
theorem dX8_knees_15 : decode cX8_knees 15 = .ok (.iload 4, 2) := by decide +kernel
theorem dX8_knees_17 : decode cX8_knees 17 = .ok (.invokestatic 59, 3) := by decide +kernel
theorem dX8_knees_20 : decode cX8_knees 20 = .ok (.istore 5, 2) := by decide +kernel
theorem dX8_knees_22 : decode cX8_knees 22 = .ok (.iload_n 3, 1) := by decide +kernel
theorem dX8_knees_23 : decode cX8_knees 23 = .ok (.iload 4, 2) := by decide +kernel
theorem dX8_knees_25 : decode cX8_knees 25 = .ok (.iload_n 2, 1) := by decide +kernel
theorem dX8_knees_26 : decode cX8_knees 26 = .ok (.if_icmp .eq 25, 3) := by decide +kernel
theorem dX8_knees_29 : decode cX8_knees 29 = .ok (.iload 5, 2) := by decide +kernel
theorem dX8_knees_31 : decode cX8_knees 31 = .ok (.iload_n 1, 1) := by decide +kernel
theorem dX8_knees_32 : decode cX8_knees 32 = .ok (.bipush 6, 2) := by decide +kernel
theorem dX8_knees_34 : decode cX8_knees 34 = .ok (.idiv, 1) := by decide +kernel
theorem dX8_knees_35 : decode cX8_knees 35 = .ok (.bipush 6, 2) := by decide +kernel
theorem dX8_knees_37 : decode cX8_knees 37 = .ok (.imul, 1) := by decide +kernel
theorem dX8_knees_38 : decode cX8_knees 38 = .ok (.if_icmp .lt 13, 3) := by decide +kernel
theorem dX8_knees_41 : decode cX8_knees 41 = .ok (.iload 5, 2) := by decide +kernel
theorem dX8_knees_43 : decode cX8_knees 43 = .ok (.iload_n 1, 1) := by decide +kernel
theorem dX8_knees_44 : decode cX8_knees 44 = .ok (.if_icmp .ge 7, 3) := by decide +kernel
theorem dX8_knees_47 : decode cX8_knees 47 = .ok (.iconst 1, 1) := by decide +kernel
theorem dX8_knees_48 : decode cX8_knees 48 = .ok (.goto 4, 3) := by decide +kernel
theorem dX8_knees_51 : decode cX8_knees 51 = .ok (.iconst 0, 1) := by decide +kernel
theorem dX8_knees_52 : decode cX8_knees 52 = .ok (.iadd, 1) := by decide +kernel
theorem dX8_knees_53 : decode cX8_knees 53 = .ok (.istore_n 3, 1) := by decide +kernel
theorem dX8_knees_54 : decode cX8_knees 54 = .ok (.iinc 4 1, 3) := by decide +kernel
theorem dX8_knees_57 : decode cX8_knees 57 = .ok (.goto (-52), 3) := by decide +kernel
theorem dX8_knees_60 : decode cX8_knees 60 = .ok (.iload_n 3, 1) := by decide +kernel
theorem dX8_knees_61 : decode cX8_knees 61 = .ok (.ireturn, 1) := by decide +kernel
theorem dX8_makesBy_0 : decode cX8_makesBy 0 = .ok (.aload_n 0, 1) := by decide +kernel
theorem dX8_makesBy_1 : decode cX8_makesBy 1 = .ok (.iload_n 1, 1) := by decide +kernel
theorem dX8_makesBy_2 : decode cX8_makesBy 2 = .ok (.iconst 0, 1) := by decide +kernel
theorem dX8_makesBy_3 : decode cX8_makesBy 3 = .ok (.invokestatic 55, 3) := by decide +kernel
theorem dX8_makesBy_6 : decode cX8_makesBy 6 = .ok (.aload_n 0, 1) := by decide +kernel
theorem dX8_makesBy_7 : decode cX8_makesBy 7 = .ok (.iload_n 2, 1) := by decide +kernel
theorem dX8_makesBy_8 : decode cX8_makesBy 8 = .ok (.iload_n 1, 1) := by decide +kernel
theorem dX8_makesBy_9 : decode cX8_makesBy 9 = .ok (.invokestatic 70, 3) := by decide +kernel
theorem dX8_makesBy_12 : decode cX8_makesBy 12 = .ok (.aload_n 0, 1) := by decide +kernel
theorem dX8_makesBy_13 : decode cX8_makesBy 13 = .ok (.bipush 6, 2) := by decide +kernel
theorem dX8_makesBy_15 : decode cX8_makesBy 15 = .ok (.iaload, 1) := by decide +kernel
theorem dX8_makesBy_16 : decode cX8_makesBy 16 = .ok (.invokestatic 73, 3) := by decide +kernel
theorem dX8_makesBy_19 : decode cX8_makesBy 19 = .ok (.ireturn, 1) := by decide +kernel
theorem dX8_seesFrom_0 : decode cX8_seesFrom 0 = .ok (.aload_n 0, 1) := by decide +kernel
theorem dX8_seesFrom_1 : decode cX8_seesFrom 1 = .ok (.iload_n 1, 1) := by decide +kernel
theorem dX8_seesFrom_2 : decode cX8_seesFrom 2 = .ok (.bipush 6, 2) := by decide +kernel
theorem dX8_seesFrom_4 : decode cX8_seesFrom 4 = .ok (.idiv, 1) := by decide +kernel
theorem dX8_seesFrom_5 : decode cX8_seesFrom 5 = .ok (.iaload, 1) := by decide +kernel
theorem dX8_seesFrom_6 : decode cX8_seesFrom 6 = .ok (.iload_n 1, 1) := by decide +kernel
theorem dX8_seesFrom_7 : decode cX8_seesFrom 7 = .ok (.bipush 6, 2) := by decide +kernel
theorem dX8_seesFrom_9 : decode cX8_seesFrom 9 = .ok (.irem, 1) := by decide +kernel
theorem dX8_seesFrom_10 : decode cX8_seesFrom 10 = .ok (.invokestatic 77, 3) := by decide +kernel
theorem dX8_seesFrom_13 : decode cX8_seesFrom 13 = .ok (.ireturn, 1) := by decide +kernel
theorem dX8_fusses_0 : decode cX8_fusses 0 = .ok (.aload_n 0, 1) := by decide +kernel
theorem dX8_fusses_1 : decode cX8_fusses 1 = .ok (.bipush 7, 2) := by decide +kernel
theorem dX8_fusses_3 : decode cX8_fusses 3 = .ok (.aload_n 0, 1) := by decide +kernel
theorem dX8_fusses_4 : decode cX8_fusses 4 = .ok (.bipush 7, 2) := by decide +kernel
theorem dX8_fusses_6 : decode cX8_fusses 6 = .ok (.iaload, 1) := by decide +kernel
theorem dX8_fusses_7 : decode cX8_fusses 7 = .ok (.iload_n 1, 1) := by decide +kernel
theorem dX8_fusses_8 : decode cX8_fusses 8 = .ok (.iadd, 1) := by decide +kernel
theorem dX8_fusses_9 : decode cX8_fusses 9 = .ok (.ldc 81, 2) := by decide +kernel
theorem dX8_fusses_11 : decode cX8_fusses 11 = .ok (.if_icmp .le 8, 3) := by decide +kernel
theorem dX8_fusses_14 : decode cX8_fusses 14 = .ok (.ldc 81, 2) := by decide +kernel
theorem dX8_fusses_16 : decode cX8_fusses 16 = .ok (.goto 9, 3) := by decide +kernel
theorem dX8_fusses_19 : decode cX8_fusses 19 = .ok (.aload_n 0, 1) := by decide +kernel
theorem dX8_fusses_20 : decode cX8_fusses 20 = .ok (.bipush 7, 2) := by decide +kernel
theorem dX8_fusses_22 : decode cX8_fusses 22 = .ok (.iaload, 1) := by decide +kernel
theorem dX8_fusses_23 : decode cX8_fusses 23 = .ok (.iload_n 1, 1) := by decide +kernel
theorem dX8_fusses_24 : decode cX8_fusses 24 = .ok (.iadd, 1) := by decide +kernel
theorem dX8_fusses_25 : decode cX8_fusses 25 = .ok (.iastore, 1) := by decide +kernel
theorem dX8_fusses_26 : decode cX8_fusses 26 = .ok (.aload_n 0, 1) := by decide +kernel
theorem dX8_fusses_27 : decode cX8_fusses 27 = .ok (.bipush 6, 2) := by decide +kernel
theorem dX8_fusses_29 : decode cX8_fusses 29 = .ok (.dup2, 1) := by decide +kernel
theorem dX8_fusses_30 : decode cX8_fusses 30 = .ok (.iaload, 1) := by decide +kernel
theorem dX8_fusses_31 : decode cX8_fusses 31 = .ok (.iconst 1, 1) := by decide +kernel
theorem dX8_fusses_32 : decode cX8_fusses 32 = .ok (.iadd, 1) := by decide +kernel
theorem dX8_fusses_33 : decode cX8_fusses 33 = .ok (.iastore, 1) := by decide +kernel
theorem dX8_fusses_34 : decode cX8_fusses 34 = .ok (.return_, 1) := by decide +kernel
theorem dX8_goes_0 : decode cX8_goes 0 = .ok (.aload_n 0, 1) := by decide +kernel
theorem dX8_goes_1 : decode cX8_goes 1 = .ok (.iload_n 1, 1) := by decide +kernel
theorem dX8_goes_2 : decode cX8_goes 2 = .ok (.invokestatic 59, 3) := by decide +kernel
theorem dX8_goes_5 : decode cX8_goes 5 = .ok (.iconst (-1), 1) := by decide +kernel
theorem dX8_goes_6 : decode cX8_goes 6 = .ok (.if_icmp .ne 7, 3) := by decide +kernel
theorem dX8_goes_9 : decode cX8_goes 9 = .ok (.iconst 0, 1) := by decide +kernel
theorem dX8_goes_10 : decode cX8_goes 10 = .ok (.goto 13, 3) := by decide +kernel
theorem dX8_goes_13 : decode cX8_goes 13 = .ok (.aload_n 0, 1) := by decide +kernel
theorem dX8_goes_14 : decode cX8_goes 14 = .ok (.iload_n 1, 1) := by decide +kernel
theorem dX8_goes_15 : decode cX8_goes 15 = .ok (.aload_n 0, 1) := by decide +kernel
theorem dX8_goes_16 : decode cX8_goes 16 = .ok (.iload_n 1, 1) := by decide +kernel
theorem dX8_goes_17 : decode cX8_goes 17 = .ok (.invokestatic 59, 3) := by decide +kernel
theorem dX8_goes_20 : decode cX8_goes 20 = .ok (.invokestatic 82, 3) := by decide +kernel
theorem dX8_goes_23 : decode cX8_goes 23 = .ok (.istore_n 3, 1) := by decide +kernel
theorem dX8_goes_24 : decode cX8_goes 24 = .ok (.iload_n 3, 1) := by decide +kernel
theorem dX8_goes_25 : decode cX8_goes 25 = .ok (.iload_n 2, 1) := by decide +kernel
theorem dX8_goes_26 : decode cX8_goes 26 = .ok (.iconst (-1), 1) := by decide +kernel
theorem dX8_goes_27 : decode cX8_goes 27 = .ok (.if_icmp .ne 7, 3) := by decide +kernel
theorem dX8_goes_30 : decode cX8_goes 30 = .ok (.iconst 0, 1) := by decide +kernel
theorem dX8_goes_31 : decode cX8_goes 31 = .ok (.goto 9, 3) := by decide +kernel
theorem dX8_goes_34 : decode cX8_goes 34 = .ok (.aload_n 0, 1) := by decide +kernel
theorem dX8_goes_35 : decode cX8_goes 35 = .ok (.iload_n 1, 1) := by decide +kernel
theorem dX8_goes_36 : decode cX8_goes 36 = .ok (.iload_n 2, 1) := by decide +kernel
theorem dX8_goes_37 : decode cX8_goes 37 = .ok (.invokestatic 82, 3) := by decide +kernel
theorem dX8_goes_40 : decode cX8_goes 40 = .ok (.iadd, 1) := by decide +kernel
theorem dX8_goes_41 : decode cX8_goes 41 = .ok (.istore_n 3, 1) := by decide +kernel
theorem dX8_goes_42 : decode cX8_goes 42 = .ok (.aload_n 0, 1) := by decide +kernel
theorem dX8_goes_43 : decode cX8_goes 43 = .ok (.iload_n 1, 1) := by decide +kernel
theorem dX8_goes_44 : decode cX8_goes 44 = .ok (.iload_n 2, 1) := by decide +kernel
theorem dX8_goes_45 : decode cX8_goes 45 = .ok (.invokestatic 85, 3) := by decide +kernel
theorem dX8_goes_48 : decode cX8_goes 48 = .ok (.aload_n 0, 1) := by decide +kernel
theorem dX8_goes_49 : decode cX8_goes 49 = .ok (.iload_n 3, 1) := by decide +kernel
theorem dX8_goes_50 : decode cX8_goes 50 = .ok (.invokestatic 89, 3) := by decide +kernel
theorem dX8_goes_53 : decode cX8_goes 53 = .ok (.iload_n 3, 1) := by decide +kernel
theorem dX8_goes_54 : decode cX8_goes 54 = .ok (.ireturn, 1) := by decide +kernel
theorem dX8_empty_0 : decode cX8_empty 0 = .ok (.iconst 0, 1) := by decide +kernel
theorem dX8_empty_1 : decode cX8_empty 1 = .ok (.istore_n 1, 1) := by decide +kernel
theorem dX8_empty_2 : decode cX8_empty 2 = .ok (.iload_n 1, 1) := by decide +kernel
theorem dX8_empty_3 : decode cX8_empty 3 = .ok (.sipush 171, 3) := by decide +kernel
theorem dX8_empty_6 : decode cX8_empty 6 = .ok (.if_icmp .ge 13, 3) := by decide +kernel
theorem dX8_empty_9 : decode cX8_empty 9 = .ok (.aload_n 0, 1) := by decide +kernel
theorem dX8_empty_10 : decode cX8_empty 10 = .ok (.iload_n 1, 1) := by decide +kernel
theorem dX8_empty_11 : decode cX8_empty 11 = .ok (.iconst 0, 1) := by decide +kernel
theorem dX8_empty_12 : decode cX8_empty 12 = .ok (.iastore, 1) := by decide +kernel
theorem dX8_empty_13 : decode cX8_empty 13 = .ok (.iinc 1 1, 3) := by decide +kernel
theorem dX8_empty_16 : decode cX8_empty 16 = .ok (.goto (-14), 3) := by decide +kernel
theorem dX8_empty_19 : decode cX8_empty 19 = .ok (.return_, 1) := by decide +kernel
theorem dX8_layFresh_0 : decode cX8_layFresh 0 = .ok (.iconst 0, 1) := by decide +kernel
theorem dX8_layFresh_1 : decode cX8_layFresh 1 = .ok (.istore_n 1, 1) := by decide +kernel
theorem dX8_layFresh_2 : decode cX8_layFresh 2 = .ok (.iload_n 1, 1) := by decide +kernel
theorem dX8_layFresh_3 : decode cX8_layFresh 3 = .ok (.sipush 171, 3) := by decide +kernel
theorem dX8_layFresh_6 : decode cX8_layFresh 6 = .ok (.if_icmp .ge 21, 3) := by decide +kernel
theorem dX8_layFresh_9 : decode cX8_layFresh 9 = .ok (.aload_n 0, 1) := by decide +kernel
theorem dX8_layFresh_10 : decode cX8_layFresh 10 = .ok (.getfield 13, 3) := by decide +kernel
theorem dX8_layFresh_13 : decode cX8_layFresh 13 = .ok (.iload_n 1, 1) := by decide +kernel
theorem dX8_layFresh_14 : decode cX8_layFresh 14 = .ok (.aload_n 0, 1) := by decide +kernel
theorem dX8_layFresh_15 : decode cX8_layFresh 15 = .ok (.getfield 7, 3) := by decide +kernel
theorem dX8_layFresh_18 : decode cX8_layFresh 18 = .ok (.iload_n 1, 1) := by decide +kernel
theorem dX8_layFresh_19 : decode cX8_layFresh 19 = .ok (.iaload, 1) := by decide +kernel
theorem dX8_layFresh_20 : decode cX8_layFresh 20 = .ok (.iastore, 1) := by decide +kernel
theorem dX8_layFresh_21 : decode cX8_layFresh 21 = .ok (.iinc 1 1, 3) := by decide +kernel
theorem dX8_layFresh_24 : decode cX8_layFresh 24 = .ok (.goto (-22), 3) := by decide +kernel
theorem dX8_layFresh_27 : decode cX8_layFresh 27 = .ok (.return_, 1) := by decide +kernel
theorem dX8_hall_0 : decode cX8_hall 0 = .ok (.aload_n 0, 1) := by decide +kernel
theorem dX8_hall_1 : decode cX8_hall 1 = .ok (.getfield 7, 3) := by decide +kernel
theorem dX8_hall_4 : decode cX8_hall 4 = .ok (.bipush 8, 2) := by decide +kernel
theorem dX8_hall_6 : decode cX8_hall 6 = .ok (.iaload, 1) := by decide +kernel
theorem dX8_hall_7 : decode cX8_hall 7 = .ok (.istore_n 1, 1) := by decide +kernel
theorem dX8_hall_8 : decode cX8_hall 8 = .ok (.aload_n 0, 1) := by decide +kernel
theorem dX8_hall_9 : decode cX8_hall 9 = .ok (.getfield 7, 3) := by decide +kernel
theorem dX8_hall_12 : decode cX8_hall 12 = .ok (.invokestatic 93, 3) := by decide +kernel
theorem dX8_hall_15 : decode cX8_hall 15 = .ok (.iload_n 1, 1) := by decide +kernel
theorem dX8_hall_16 : decode cX8_hall 16 = .ok (.ireturn, 1) := by decide +kernel
theorem dX8_row_0 : decode cX8_row 0 = .ok (.iload_n 1, 1) := by decide +kernel
theorem dX8_row_1 : decode cX8_row 1 = .ok (.i2l, 1) := by decide +kernel
theorem dX8_row_2 : decode cX8_row 2 = .ok (.lconst 0, 1) := by decide +kernel
theorem dX8_row_3 : decode cX8_row 3 = .ok (.ldc2_w 97, 3) := by decide +kernel
theorem dX8_row_6 : decode cX8_row 6 = .ok (.invokestatic 46, 3) := by decide +kernel
theorem dX8_row_9 : decode cX8_row 9 = .ok (.ifCond .eq 15, 3) := by decide +kernel
theorem dX8_row_12 : decode cX8_row 12 = .ok (.iload_n 2, 1) := by decide +kernel
theorem dX8_row_13 : decode cX8_row 13 = .ok (.i2l, 1) := by decide +kernel
theorem dX8_row_14 : decode cX8_row 14 = .ok (.lconst 0, 1) := by decide +kernel
theorem dX8_row_15 : decode cX8_row 15 = .ok (.ldc2_w 99, 3) := by decide +kernel
theorem dX8_row_18 : decode cX8_row 18 = .ok (.invokestatic 46, 3) := by decide +kernel
theorem dX8_row_21 : decode cX8_row 21 = .ok (.ifCond .ne 8, 3) := by decide +kernel
theorem dX8_row_24 : decode cX8_row 24 = .ok (.aload_n 0, 1) := by decide +kernel
theorem dX8_row_25 : decode cX8_row 25 = .ok (.invokevirtual 101, 3) := by decide +kernel
theorem dX8_row_28 : decode cX8_row 28 = .ok (.ireturn, 1) := by decide +kernel
theorem dX8_row_29 : decode cX8_row 29 = .ok (.aload_n 0, 1) := by decide +kernel
theorem dX8_row_30 : decode cX8_row 30 = .ok (.getfield 7, 3) := by decide +kernel
theorem dX8_row_33 : decode cX8_row 33 = .ok (.iload_n 1, 1) := by decide +kernel
theorem dX8_row_34 : decode cX8_row 34 = .ok (.iaload, 1) := by decide +kernel
theorem dX8_row_35 : decode cX8_row 35 = .ok (.istore_n 3, 1) := by decide +kernel
theorem dX8_row_36 : decode cX8_row 36 = .ok (.aload_n 0, 1) := by decide +kernel
theorem dX8_row_37 : decode cX8_row 37 = .ok (.getfield 7, 3) := by decide +kernel
theorem dX8_row_40 : decode cX8_row 40 = .ok (.iload_n 1, 1) := by decide +kernel
theorem dX8_row_41 : decode cX8_row 41 = .ok (.iload_n 2, 1) := by decide +kernel
theorem dX8_row_42 : decode cX8_row 42 = .ok (.iastore, 1) := by decide +kernel
theorem dX8_row_43 : decode cX8_row 43 = .ok (.aload_n 0, 1) := by decide +kernel
theorem dX8_row_44 : decode cX8_row 44 = .ok (.getfield 7, 3) := by decide +kernel
theorem dX8_row_47 : decode cX8_row 47 = .ok (.bipush 90, 2) := by decide +kernel
theorem dX8_row_49 : decode cX8_row 49 = .ok (.iconst 0, 1) := by decide +kernel
theorem dX8_row_50 : decode cX8_row 50 = .ok (.iastore, 1) := by decide +kernel
theorem dX8_row_51 : decode cX8_row 51 = .ok (.iload_n 3, 1) := by decide +kernel
theorem dX8_row_52 : decode cX8_row 52 = .ok (.ireturn, 1) := by decide +kernel
theorem dX8_comes_0 : decode cX8_comes 0 = .ok (.bipush 9, 2) := by decide +kernel
theorem dX8_comes_2 : decode cX8_comes 2 = .ok (.iconst 3, 1) := by decide +kernel
theorem dX8_comes_3 : decode cX8_comes 3 = .ok (.aload_n 0, 1) := by decide +kernel
theorem dX8_comes_4 : decode cX8_comes 4 = .ok (.bipush 8, 2) := by decide +kernel
theorem dX8_comes_6 : decode cX8_comes 6 = .ok (.iaload, 1) := by decide +kernel
theorem dX8_comes_7 : decode cX8_comes 7 = .ok (.imul, 1) := by decide +kernel
theorem dX8_comes_8 : decode cX8_comes 8 = .ok (.iadd, 1) := by decide +kernel
theorem dX8_comes_9 : decode cX8_comes 9 = .ok (.istore_n 3, 1) := by decide +kernel
theorem dX8_comes_10 : decode cX8_comes 10 = .ok (.aload_n 0, 1) := by decide +kernel
theorem dX8_comes_11 : decode cX8_comes 11 = .ok (.iload_n 3, 1) := by decide +kernel
theorem dX8_comes_12 : decode cX8_comes 12 = .ok (.iload_n 1, 1) := by decide +kernel
theorem dX8_comes_13 : decode cX8_comes 13 = .ok (.iastore, 1) := by decide +kernel
theorem dX8_comes_14 : decode cX8_comes 14 = .ok (.aload_n 0, 1) := by decide +kernel
theorem dX8_comes_15 : decode cX8_comes 15 = .ok (.iload_n 3, 1) := by decide +kernel
theorem dX8_comes_16 : decode cX8_comes 16 = .ok (.iconst 1, 1) := by decide +kernel
theorem dX8_comes_17 : decode cX8_comes 17 = .ok (.iadd, 1) := by decide +kernel
theorem dX8_comes_18 : decode cX8_comes 18 = .ok (.iload_n 2, 1) := by decide +kernel
theorem dX8_comes_19 : decode cX8_comes 19 = .ok (.iastore, 1) := by decide +kernel
theorem dX8_comes_20 : decode cX8_comes 20 = .ok (.aload_n 0, 1) := by decide +kernel
theorem dX8_comes_21 : decode cX8_comes 21 = .ok (.iload_n 3, 1) := by decide +kernel
theorem dX8_comes_22 : decode cX8_comes 22 = .ok (.iconst 2, 1) := by decide +kernel
theorem dX8_comes_23 : decode cX8_comes 23 = .ok (.iadd, 1) := by decide +kernel
theorem dX8_comes_24 : decode cX8_comes 24 = .ok (.iconst 0, 1) := by decide +kernel
theorem dX8_comes_25 : decode cX8_comes 25 = .ok (.iastore, 1) := by decide +kernel
theorem dX8_comes_26 : decode cX8_comes 26 = .ok (.aload_n 0, 1) := by decide +kernel
theorem dX8_comes_27 : decode cX8_comes 27 = .ok (.bipush 8, 2) := by decide +kernel
theorem dX8_comes_29 : decode cX8_comes 29 = .ok (.dup2, 1) := by decide +kernel
theorem dX8_comes_30 : decode cX8_comes 30 = .ok (.iaload, 1) := by decide +kernel
theorem dX8_comes_31 : decode cX8_comes 31 = .ok (.iconst 1, 1) := by decide +kernel
theorem dX8_comes_32 : decode cX8_comes 32 = .ok (.iadd, 1) := by decide +kernel
theorem dX8_comes_33 : decode cX8_comes 33 = .ok (.iastore, 1) := by decide +kernel
theorem dX8_comes_34 : decode cX8_comes 34 = .ok (.return_, 1) := by decide +kernel
theorem dX8_soul_0 : decode cX8_soul 0 = .ok (.iload_n 1, 1) := by decide +kernel
theorem dX8_soul_1 : decode cX8_soul 1 = .ok (.i2l, 1) := by decide +kernel
theorem dX8_soul_2 : decode cX8_soul 2 = .ok (.lconst 0, 1) := by decide +kernel
theorem dX8_soul_3 : decode cX8_soul 3 = .ok (.ldc2_w 99, 3) := by decide +kernel
theorem dX8_soul_6 : decode cX8_soul 6 = .ok (.invokestatic 46, 3) := by decide +kernel
theorem dX8_soul_9 : decode cX8_soul 9 = .ok (.ifCond .eq 10, 3) := by decide +kernel
theorem dX8_soul_12 : decode cX8_soul 12 = .ok (.iload_n 2, 1) := by decide +kernel
theorem dX8_soul_13 : decode cX8_soul 13 = .ok (.invokestatic 105, 3) := by decide +kernel
theorem dX8_soul_16 : decode cX8_soul 16 = .ok (.ifCond .ne 8, 3) := by decide +kernel
theorem dX8_soul_19 : decode cX8_soul 19 = .ok (.aload_n 0, 1) := by decide +kernel
theorem dX8_soul_20 : decode cX8_soul 20 = .ok (.invokevirtual 101, 3) := by decide +kernel
theorem dX8_soul_23 : decode cX8_soul 23 = .ok (.ireturn, 1) := by decide +kernel
theorem dX8_soul_24 : decode cX8_soul 24 = .ok (.aload_n 0, 1) := by decide +kernel
theorem dX8_soul_25 : decode cX8_soul 25 = .ok (.getfield 7, 3) := by decide +kernel
theorem dX8_soul_28 : decode cX8_soul 28 = .ok (.bipush 8, 2) := by decide +kernel
theorem dX8_soul_30 : decode cX8_soul 30 = .ok (.iaload, 1) := by decide +kernel
theorem dX8_soul_31 : decode cX8_soul 31 = .ok (.bipush 7, 2) := by decide +kernel
theorem dX8_soul_33 : decode cX8_soul 33 = .ok (.if_icmp .ne 8, 3) := by decide +kernel
theorem dX8_soul_36 : decode cX8_soul 36 = .ok (.aload_n 0, 1) := by decide +kernel
theorem dX8_soul_37 : decode cX8_soul 37 = .ok (.invokevirtual 109, 3) := by decide +kernel
theorem dX8_soul_40 : decode cX8_soul 40 = .ok (.ireturn, 1) := by decide +kernel
theorem dX8_soul_41 : decode cX8_soul 41 = .ok (.aload_n 0, 1) := by decide +kernel
theorem dX8_soul_42 : decode cX8_soul 42 = .ok (.getfield 7, 3) := by decide +kernel
theorem dX8_soul_45 : decode cX8_soul 45 = .ok (.iload_n 1, 1) := by decide +kernel
theorem dX8_soul_46 : decode cX8_soul 46 = .ok (.iload_n 2, 1) := by decide +kernel
theorem dX8_soul_47 : decode cX8_soul 47 = .ok (.invokestatic 112, 3) := by decide +kernel
theorem dX8_soul_50 : decode cX8_soul 50 = .ok (.aload_n 0, 1) := by decide +kernel
theorem dX8_soul_51 : decode cX8_soul 51 = .ok (.getfield 7, 3) := by decide +kernel
theorem dX8_soul_54 : decode cX8_soul 54 = .ok (.bipush 90, 2) := by decide +kernel
theorem dX8_soul_56 : decode cX8_soul 56 = .ok (.iconst 0, 1) := by decide +kernel
theorem dX8_soul_57 : decode cX8_soul 57 = .ok (.iastore, 1) := by decide +kernel
theorem dX8_soul_58 : decode cX8_soul 58 = .ok (.aload_n 0, 1) := by decide +kernel
theorem dX8_soul_59 : decode cX8_soul 59 = .ok (.getfield 7, 3) := by decide +kernel
theorem dX8_soul_62 : decode cX8_soul 62 = .ok (.bipush 8, 2) := by decide +kernel
theorem dX8_soul_64 : decode cX8_soul 64 = .ok (.iaload, 1) := by decide +kernel
theorem dX8_soul_65 : decode cX8_soul 65 = .ok (.iconst 1, 1) := by decide +kernel
theorem dX8_soul_66 : decode cX8_soul 66 = .ok (.isub, 1) := by decide +kernel
theorem dX8_soul_67 : decode cX8_soul 67 = .ok (.ireturn, 1) := by decide +kernel
theorem dX8_type_0 : decode cX8_type 0 = .ok (.iload_n 1, 1) := by decide +kernel
theorem dX8_type_1 : decode cX8_type 1 = .ok (.i2l, 1) := by decide +kernel
theorem dX8_type_2 : decode cX8_type 2 = .ok (.lconst 0, 1) := by decide +kernel
theorem dX8_type_3 : decode cX8_type 3 = .ok (.ldc2_w 115, 3) := by decide +kernel
theorem dX8_type_6 : decode cX8_type 6 = .ok (.invokestatic 46, 3) := by decide +kernel
theorem dX8_type_9 : decode cX8_type 9 = .ok (.ifCond .ne 8, 3) := by decide +kernel
theorem dX8_type_12 : decode cX8_type 12 = .ok (.aload_n 0, 1) := by decide +kernel
theorem dX8_type_13 : decode cX8_type 13 = .ok (.invokevirtual 101, 3) := by decide +kernel
theorem dX8_type_16 : decode cX8_type 16 = .ok (.ireturn, 1) := by decide +kernel
theorem dX8_type_17 : decode cX8_type 17 = .ok (.aload_n 0, 1) := by decide +kernel
theorem dX8_type_18 : decode cX8_type 18 = .ok (.getfield 117, 3) := by decide +kernel
theorem dX8_type_21 : decode cX8_type 21 = .ok (.sipush 150, 3) := by decide +kernel
theorem dX8_type_24 : decode cX8_type 24 = .ok (.if_icmp .ne 8, 3) := by decide +kernel
theorem dX8_type_27 : decode cX8_type 27 = .ok (.aload_n 0, 1) := by decide +kernel
theorem dX8_type_28 : decode cX8_type 28 = .ok (.invokevirtual 109, 3) := by decide +kernel
theorem dX8_type_31 : decode cX8_type 31 = .ok (.ireturn, 1) := by decide +kernel
theorem dX8_type_32 : decode cX8_type 32 = .ok (.aload_n 0, 1) := by decide +kernel
theorem dX8_type_33 : decode cX8_type 33 = .ok (.getfield 30, 3) := by decide +kernel
theorem dX8_type_36 : decode cX8_type 36 = .ok (.aload_n 0, 1) := by decide +kernel
theorem dX8_type_37 : decode cX8_type 37 = .ok (.getfield 117, 3) := by decide +kernel
theorem dX8_type_40 : decode cX8_type 40 = .ok (.iload_n 1, 1) := by decide +kernel
theorem dX8_type_41 : decode cX8_type 41 = .ok (.iastore, 1) := by decide +kernel
theorem dX8_type_42 : decode cX8_type 42 = .ok (.aload_n 0, 1) := by decide +kernel
theorem dX8_type_43 : decode cX8_type 43 = .ok (.dup, 1) := by decide +kernel
theorem dX8_type_44 : decode cX8_type 44 = .ok (.getfield 117, 3) := by decide +kernel
theorem dX8_type_47 : decode cX8_type 47 = .ok (.iconst 1, 1) := by decide +kernel
theorem dX8_type_48 : decode cX8_type 48 = .ok (.iadd, 1) := by decide +kernel
theorem dX8_type_49 : decode cX8_type 49 = .ok (.putfield 117, 3) := by decide +kernel
theorem dX8_type_52 : decode cX8_type 52 = .ok (.aload_n 0, 1) := by decide +kernel
theorem dX8_type_53 : decode cX8_type 53 = .ok (.getfield 117, 3) := by decide +kernel
theorem dX8_type_56 : decode cX8_type 56 = .ok (.ireturn, 1) := by decide +kernel
theorem dX8_clear_0 : decode cX8_clear 0 = .ok (.aload_n 0, 1) := by decide +kernel
theorem dX8_clear_1 : decode cX8_clear 1 = .ok (.getfield 117, 3) := by decide +kernel
theorem dX8_clear_4 : decode cX8_clear 4 = .ok (.istore_n 1, 1) := by decide +kernel
theorem dX8_clear_5 : decode cX8_clear 5 = .ok (.aload_n 0, 1) := by decide +kernel
theorem dX8_clear_6 : decode cX8_clear 6 = .ok (.iconst 0, 1) := by decide +kernel
theorem dX8_clear_7 : decode cX8_clear 7 = .ok (.putfield 117, 3) := by decide +kernel
theorem dX8_clear_10 : decode cX8_clear 10 = .ok (.iload_n 1, 1) := by decide +kernel
theorem dX8_clear_11 : decode cX8_clear 11 = .ok (.ireturn, 1) := by decide +kernel
theorem dX8_isFigure_0 : decode cX8_isFigure 0 = .ok (.iload_n 0, 1) := by decide +kernel
theorem dX8_isFigure_1 : decode cX8_isFigure 1 = .ok (.bipush 48, 2) := by decide +kernel
theorem dX8_isFigure_3 : decode cX8_isFigure 3 = .ok (.if_icmp .lt 13, 3) := by decide +kernel
theorem dX8_isFigure_6 : decode cX8_isFigure 6 = .ok (.iload_n 0, 1) := by decide +kernel
theorem dX8_isFigure_7 : decode cX8_isFigure 7 = .ok (.bipush 57, 2) := by decide +kernel
theorem dX8_isFigure_9 : decode cX8_isFigure 9 = .ok (.if_icmp .gt 7, 3) := by decide +kernel
theorem dX8_isFigure_12 : decode cX8_isFigure 12 = .ok (.iconst 1, 1) := by decide +kernel
theorem dX8_isFigure_13 : decode cX8_isFigure 13 = .ok (.goto 4, 3) := by decide +kernel
theorem dX8_isFigure_16 : decode cX8_isFigure 16 = .ok (.iconst 0, 1) := by decide +kernel
theorem dX8_isFigure_17 : decode cX8_isFigure 17 = .ok (.ireturn, 1) := by decide +kernel
theorem dX8_isLetter_0 : decode cX8_isLetter 0 = .ok (.iload_n 0, 1) := by decide +kernel
theorem dX8_isLetter_1 : decode cX8_isLetter 1 = .ok (.bipush 97, 2) := by decide +kernel
theorem dX8_isLetter_3 : decode cX8_isLetter 3 = .ok (.if_icmp .lt 13, 3) := by decide +kernel
theorem dX8_isLetter_6 : decode cX8_isLetter 6 = .ok (.iload_n 0, 1) := by decide +kernel
theorem dX8_isLetter_7 : decode cX8_isLetter 7 = .ok (.bipush 122, 2) := by decide +kernel
theorem dX8_isLetter_9 : decode cX8_isLetter 9 = .ok (.if_icmp .gt 7, 3) := by decide +kernel
theorem dX8_isLetter_12 : decode cX8_isLetter 12 = .ok (.iconst 1, 1) := by decide +kernel
theorem dX8_isLetter_13 : decode cX8_isLetter 13 = .ok (.goto 4, 3) := by decide +kernel
theorem dX8_isLetter_16 : decode cX8_isLetter 16 = .ok (.iconst 0, 1) := by decide +kernel
theorem dX8_isLetter_17 : decode cX8_isLetter 17 = .ok (.ireturn, 1) := by decide +kernel
theorem dX8_wordBy_0 : decode cX8_wordBy 0 = .ok (.lconst 0, 1) := by decide +kernel
theorem dX8_wordBy_1 : decode cX8_wordBy 1 = .ok (.lstore_n 2, 1) := by decide +kernel
theorem dX8_wordBy_2 : decode cX8_wordBy 2 = .ok (.aload_n 0, 1) := by decide +kernel
theorem dX8_wordBy_3 : decode cX8_wordBy 3 = .ok (.getfield 120, 3) := by decide +kernel
theorem dX8_wordBy_6 : decode cX8_wordBy 6 = .ok (.istore 4, 2) := by decide +kernel
theorem dX8_wordBy_8 : decode cX8_wordBy 8 = .ok (.iload 4, 2) := by decide +kernel
theorem dX8_wordBy_10 : decode cX8_wordBy 10 = .ok (.iload_n 1, 1) := by decide +kernel
theorem dX8_wordBy_11 : decode cX8_wordBy 11 = .ok (.if_icmp .ge 40, 3) := by decide +kernel
theorem dX8_wordBy_14 : decode cX8_wordBy 14 = .ok (.iload 4, 2) := by decide +kernel
theorem dX8_wordBy_16 : decode cX8_wordBy 16 = .ok (.aload_n 0, 1) := by decide +kernel
theorem dX8_wordBy_17 : decode cX8_wordBy 17 = .ok (.getfield 120, 3) := by decide +kernel
theorem dX8_wordBy_20 : decode cX8_wordBy 20 = .ok (.bipush 7, 2) := by decide +kernel
theorem dX8_wordBy_22 : decode cX8_wordBy 22 = .ok (.iadd, 1) := by decide +kernel
theorem dX8_wordBy_23 : decode cX8_wordBy 23 = .ok (.if_icmp .ge 28, 3) := by decide +kernel
theorem dX8_wordBy_26 : decode cX8_wordBy 26 = .ok (.ldc2_w 123, 3) := by decide +kernel
theorem dX8_wordBy_29 : decode cX8_wordBy 29 = .ok (.lload_n 2, 1) := by decide +kernel
theorem dX8_wordBy_30 : decode cX8_wordBy 30 = .ok (.lmul, 1) := by decide +kernel
theorem dX8_wordBy_31 : decode cX8_wordBy 31 = .ok (.aload_n 0, 1) := by decide +kernel
theorem dX8_wordBy_32 : decode cX8_wordBy 32 = .ok (.getfield 30, 3) := by decide +kernel
theorem dX8_wordBy_35 : decode cX8_wordBy 35 = .ok (.iload 4, 2) := by decide +kernel
theorem dX8_wordBy_37 : decode cX8_wordBy 37 = .ok (.iaload, 1) := by decide +kernel
theorem dX8_wordBy_38 : decode cX8_wordBy 38 = .ok (.i2l, 1) := by decide +kernel
theorem dX8_wordBy_39 : decode cX8_wordBy 39 = .ok (.ladd, 1) := by decide +kernel
theorem dX8_wordBy_40 : decode cX8_wordBy 40 = .ok (.ldc2_w 125, 3) := by decide +kernel
theorem dX8_wordBy_43 : decode cX8_wordBy 43 = .ok (.lsub, 1) := by decide +kernel
theorem dX8_wordBy_44 : decode cX8_wordBy 44 = .ok (.lstore_n 2, 1) := by decide +kernel
theorem dX8_wordBy_45 : decode cX8_wordBy 45 = .ok (.iinc 4 1, 3) := by decide +kernel
theorem dX8_wordBy_48 : decode cX8_wordBy 48 = .ok (.goto (-40), 3) := by decide +kernel
theorem dX8_wordBy_51 : decode cX8_wordBy 51 = .ok (.iload_n 1, 1) := by decide +kernel
theorem dX8_wordBy_52 : decode cX8_wordBy 52 = .ok (.aload_n 0, 1) := by decide +kernel
theorem dX8_wordBy_53 : decode cX8_wordBy 53 = .ok (.getfield 120, 3) := by decide +kernel
theorem dX8_wordBy_56 : decode cX8_wordBy 56 = .ok (.isub, 1) := by decide +kernel
theorem dX8_wordBy_57 : decode cX8_wordBy 57 = .ok (.bipush 7, 2) := by decide +kernel
theorem dX8_wordBy_59 : decode cX8_wordBy 59 = .ok (.if_icmp .le 7, 3) := by decide +kernel
theorem dX8_wordBy_62 : decode cX8_wordBy 62 = .ok (.sipush 300, 3) := by decide +kernel
theorem dX8_wordBy_65 : decode cX8_wordBy 65 = .ok (.ireturn, 1) := by decide +kernel
theorem dX8_wordBy_66 : decode cX8_wordBy 66 = .ok (.lload_n 2, 1) := by decide +kernel
theorem dX8_wordBy_67 : decode cX8_wordBy 67 = .ok (.ldc2_w 127, 3) := by decide +kernel
theorem dX8_wordBy_70 : decode cX8_wordBy 70 = .ok (.lcmp, 1) := by decide +kernel
theorem dX8_wordBy_71 : decode cX8_wordBy 71 = .ok (.ifCond .ne 8, 3) := by decide +kernel
theorem dX8_wordBy_74 : decode cX8_wordBy 74 = .ok (.bipush 100, 2) := by decide +kernel
theorem dX8_wordBy_76 : decode cX8_wordBy 76 = .ok (.goto 71, 3) := by decide +kernel
theorem dX8_wordBy_79 : decode cX8_wordBy 79 = .ok (.lload_n 2, 1) := by decide +kernel
theorem dX8_wordBy_80 : decode cX8_wordBy 80 = .ok (.ldc2_w 129, 3) := by decide +kernel
theorem dX8_wordBy_83 : decode cX8_wordBy 83 = .ok (.lcmp, 1) := by decide +kernel
theorem dX8_wordBy_84 : decode cX8_wordBy 84 = .ok (.ifCond .ne 8, 3) := by decide +kernel
theorem dX8_wordBy_87 : decode cX8_wordBy 87 = .ok (.bipush 101, 2) := by decide +kernel
theorem dX8_wordBy_89 : decode cX8_wordBy 89 = .ok (.goto 58, 3) := by decide +kernel
theorem dX8_wordBy_92 : decode cX8_wordBy 92 = .ok (.lload_n 2, 1) := by decide +kernel
theorem dX8_wordBy_93 : decode cX8_wordBy 93 = .ok (.ldc2_w 131, 3) := by decide +kernel
theorem dX8_wordBy_96 : decode cX8_wordBy 96 = .ok (.lcmp, 1) := by decide +kernel
theorem dX8_wordBy_97 : decode cX8_wordBy 97 = .ok (.ifCond .ne 8, 3) := by decide +kernel
theorem dX8_wordBy_100 : decode cX8_wordBy 100 = .ok (.bipush 102, 2) := by decide +kernel
theorem dX8_wordBy_102 : decode cX8_wordBy 102 = .ok (.goto 45, 3) := by decide +kernel
theorem dX8_wordBy_105 : decode cX8_wordBy 105 = .ok (.lload_n 2, 1) := by decide +kernel
theorem dX8_wordBy_106 : decode cX8_wordBy 106 = .ok (.ldc2_w 133, 3) := by decide +kernel
theorem dX8_wordBy_109 : decode cX8_wordBy 109 = .ok (.lcmp, 1) := by decide +kernel
theorem dX8_wordBy_110 : decode cX8_wordBy 110 = .ok (.ifCond .ne 8, 3) := by decide +kernel
theorem dX8_wordBy_113 : decode cX8_wordBy 113 = .ok (.bipush 103, 2) := by decide +kernel
theorem dX8_wordBy_115 : decode cX8_wordBy 115 = .ok (.goto 32, 3) := by decide +kernel
theorem dX8_wordBy_118 : decode cX8_wordBy 118 = .ok (.lload_n 2, 1) := by decide +kernel
theorem dX8_wordBy_119 : decode cX8_wordBy 119 = .ok (.ldc2_w 135, 3) := by decide +kernel
theorem dX8_wordBy_122 : decode cX8_wordBy 122 = .ok (.lcmp, 1) := by decide +kernel
theorem dX8_wordBy_123 : decode cX8_wordBy 123 = .ok (.ifCond .ne 8, 3) := by decide +kernel
theorem dX8_wordBy_126 : decode cX8_wordBy 126 = .ok (.bipush 104, 2) := by decide +kernel
theorem dX8_wordBy_128 : decode cX8_wordBy 128 = .ok (.goto 19, 3) := by decide +kernel
theorem dX8_wordBy_131 : decode cX8_wordBy 131 = .ok (.lload_n 2, 1) := by decide +kernel
theorem dX8_wordBy_132 : decode cX8_wordBy 132 = .ok (.ldc2_w 137, 3) := by decide +kernel
theorem dX8_wordBy_135 : decode cX8_wordBy 135 = .ok (.lcmp, 1) := by decide +kernel
theorem dX8_wordBy_136 : decode cX8_wordBy 136 = .ok (.ifCond .ne 8, 3) := by decide +kernel
theorem dX8_wordBy_139 : decode cX8_wordBy 139 = .ok (.bipush 105, 2) := by decide +kernel
theorem dX8_wordBy_141 : decode cX8_wordBy 141 = .ok (.goto 6, 3) := by decide +kernel
theorem dX8_wordBy_144 : decode cX8_wordBy 144 = .ok (.sipush 300, 3) := by decide +kernel
theorem dX8_wordBy_147 : decode cX8_wordBy 147 = .ok (.ireturn, 1) := by decide +kernel
theorem dX8_next_0 : decode cX8_next 0 = .ok (.aload_n 0, 1) := by decide +kernel
theorem dX8_next_1 : decode cX8_next 1 = .ok (.getfield 139, 3) := by decide +kernel
theorem dX8_next_4 : decode cX8_next 4 = .ok (.aload_n 0, 1) := by decide +kernel
theorem dX8_next_5 : decode cX8_next 5 = .ok (.getfield 117, 3) := by decide +kernel
theorem dX8_next_8 : decode cX8_next 8 = .ok (.if_icmp .ge 30, 3) := by decide +kernel
theorem dX8_next_11 : decode cX8_next 11 = .ok (.aload_n 0, 1) := by decide +kernel
theorem dX8_next_12 : decode cX8_next 12 = .ok (.getfield 30, 3) := by decide +kernel
theorem dX8_next_15 : decode cX8_next 15 = .ok (.aload_n 0, 1) := by decide +kernel
theorem dX8_next_16 : decode cX8_next 16 = .ok (.getfield 139, 3) := by decide +kernel
theorem dX8_next_19 : decode cX8_next 19 = .ok (.iaload, 1) := by decide +kernel
theorem dX8_next_20 : decode cX8_next 20 = .ok (.bipush 32, 2) := by decide +kernel
theorem dX8_next_22 : decode cX8_next 22 = .ok (.if_icmp .ne 16, 3) := by decide +kernel
theorem dX8_next_25 : decode cX8_next 25 = .ok (.aload_n 0, 1) := by decide +kernel
theorem dX8_next_26 : decode cX8_next 26 = .ok (.dup, 1) := by decide +kernel
theorem dX8_next_27 : decode cX8_next 27 = .ok (.getfield 139, 3) := by decide +kernel
theorem dX8_next_30 : decode cX8_next 30 = .ok (.iconst 1, 1) := by decide +kernel
theorem dX8_next_31 : decode cX8_next 31 = .ok (.iadd, 1) := by decide +kernel
theorem dX8_next_32 : decode cX8_next 32 = .ok (.putfield 139, 3) := by decide +kernel
theorem dX8_next_35 : decode cX8_next 35 = .ok (.goto (-35), 3) := by decide +kernel
theorem dX8_next_38 : decode cX8_next 38 = .ok (.aload_n 0, 1) := by decide +kernel
theorem dX8_next_39 : decode cX8_next 39 = .ok (.aload_n 0, 1) := by decide +kernel
theorem dX8_next_40 : decode cX8_next 40 = .ok (.getfield 139, 3) := by decide +kernel
theorem dX8_next_43 : decode cX8_next 43 = .ok (.putfield 120, 3) := by decide +kernel
theorem dX8_next_46 : decode cX8_next 46 = .ok (.aload_n 0, 1) := by decide +kernel
theorem dX8_next_47 : decode cX8_next 47 = .ok (.getfield 139, 3) := by decide +kernel
theorem dX8_next_50 : decode cX8_next 50 = .ok (.aload_n 0, 1) := by decide +kernel
theorem dX8_next_51 : decode cX8_next 51 = .ok (.getfield 117, 3) := by decide +kernel
theorem dX8_next_54 : decode cX8_next 54 = .ok (.if_icmp .ne 9, 3) := by decide +kernel
theorem dX8_next_57 : decode cX8_next 57 = .ok (.aload_n 0, 1) := by decide +kernel
theorem dX8_next_58 : decode cX8_next 58 = .ok (.iconst (-1), 1) := by decide +kernel
theorem dX8_next_59 : decode cX8_next 59 = .ok (.putfield 142, 3) := by decide +kernel
theorem dX8_next_62 : decode cX8_next 62 = .ok (.return_, 1) := by decide +kernel
theorem dX8_next_63 : decode cX8_next 63 = .ok (.aload_n 0, 1) := by decide +kernel
theorem dX8_next_64 : decode cX8_next 64 = .ok (.getfield 30, 3) := by decide +kernel
theorem dX8_next_67 : decode cX8_next 67 = .ok (.aload_n 0, 1) := by decide +kernel
theorem dX8_next_68 : decode cX8_next 68 = .ok (.getfield 139, 3) := by decide +kernel
theorem dX8_next_71 : decode cX8_next 71 = .ok (.iaload, 1) := by decide +kernel
theorem dX8_next_72 : decode cX8_next 72 = .ok (.istore_n 1, 1) := by decide +kernel
theorem dX8_next_73 : decode cX8_next 73 = .ok (.aload_n 0, 1) := by decide +kernel
theorem dX8_next_74 : decode cX8_next 74 = .ok (.dup, 1) := by decide +kernel
theorem dX8_next_75 : decode cX8_next 75 = .ok (.getfield 139, 3) := by decide +kernel
theorem dX8_next_78 : decode cX8_next 78 = .ok (.iconst 1, 1) := by decide +kernel
theorem dX8_next_79 : decode cX8_next 79 = .ok (.iadd, 1) := by decide +kernel
theorem dX8_next_80 : decode cX8_next 80 = .ok (.putfield 139, 3) := by decide +kernel
theorem dX8_next_83 : decode cX8_next 83 = .ok (.iload_n 1, 1) := by decide +kernel
theorem dX8_next_84 : decode cX8_next 84 = .ok (.invokestatic 145, 3) := by decide +kernel
theorem dX8_next_87 : decode cX8_next 87 = .ok (.ifCond .eq 93, 3) := by decide +kernel
theorem dX8_next_90 : decode cX8_next 90 = .ok (.aload_n 0, 1) := by decide +kernel
theorem dX8_next_91 : decode cX8_next 91 = .ok (.iload_n 1, 1) := by decide +kernel
theorem dX8_next_92 : decode cX8_next 92 = .ok (.bipush 48, 2) := by decide +kernel
theorem dX8_next_94 : decode cX8_next 94 = .ok (.isub, 1) := by decide +kernel
theorem dX8_next_95 : decode cX8_next 95 = .ok (.putfield 142, 3) := by decide +kernel
theorem dX8_next_98 : decode cX8_next 98 = .ok (.aload_n 0, 1) := by decide +kernel
theorem dX8_next_99 : decode cX8_next 99 = .ok (.getfield 139, 3) := by decide +kernel
theorem dX8_next_102 : decode cX8_next 102 = .ok (.aload_n 0, 1) := by decide +kernel
theorem dX8_next_103 : decode cX8_next 103 = .ok (.getfield 117, 3) := by decide +kernel
theorem dX8_next_106 : decode cX8_next 106 = .ok (.if_icmp .ge 154, 3) := by decide +kernel
theorem dX8_next_109 : decode cX8_next 109 = .ok (.aload_n 0, 1) := by decide +kernel
theorem dX8_next_110 : decode cX8_next 110 = .ok (.getfield 30, 3) := by decide +kernel
theorem dX8_next_113 : decode cX8_next 113 = .ok (.aload_n 0, 1) := by decide +kernel
theorem dX8_next_114 : decode cX8_next 114 = .ok (.getfield 139, 3) := by decide +kernel
theorem dX8_next_117 : decode cX8_next 117 = .ok (.iaload, 1) := by decide +kernel
theorem dX8_next_118 : decode cX8_next 118 = .ok (.invokestatic 145, 3) := by decide +kernel
theorem dX8_next_121 : decode cX8_next 121 = .ok (.ifCond .eq 139, 3) := by decide +kernel
theorem dX8_next_124 : decode cX8_next 124 = .ok (.aload_n 0, 1) := by decide +kernel
theorem dX8_next_125 : decode cX8_next 125 = .ok (.aload_n 0, 1) := by decide +kernel
theorem dX8_next_126 : decode cX8_next 126 = .ok (.getfield 139, 3) := by decide +kernel
theorem dX8_next_129 : decode cX8_next 129 = .ok (.aload_n 0, 1) := by decide +kernel
theorem dX8_next_130 : decode cX8_next 130 = .ok (.getfield 120, 3) := by decide +kernel
theorem dX8_next_133 : decode cX8_next 133 = .ok (.iconst 1, 1) := by decide +kernel
theorem dX8_next_134 : decode cX8_next 134 = .ok (.iadd, 1) := by decide +kernel
theorem dX8_next_135 : decode cX8_next 135 = .ok (.if_icmp .ne 26, 3) := by decide +kernel
theorem dX8_next_138 : decode cX8_next 138 = .ok (.bipush 10, 2) := by decide +kernel
theorem dX8_next_140 : decode cX8_next 140 = .ok (.aload_n 0, 1) := by decide +kernel
theorem dX8_next_141 : decode cX8_next 141 = .ok (.getfield 142, 3) := by decide +kernel
theorem dX8_next_144 : decode cX8_next 144 = .ok (.imul, 1) := by decide +kernel
theorem dX8_next_145 : decode cX8_next 145 = .ok (.aload_n 0, 1) := by decide +kernel
theorem dX8_next_146 : decode cX8_next 146 = .ok (.getfield 30, 3) := by decide +kernel
theorem dX8_next_149 : decode cX8_next 149 = .ok (.aload_n 0, 1) := by decide +kernel
theorem dX8_next_150 : decode cX8_next 150 = .ok (.getfield 139, 3) := by decide +kernel
theorem dX8_next_153 : decode cX8_next 153 = .ok (.iaload, 1) := by decide +kernel
theorem dX8_next_154 : decode cX8_next 154 = .ok (.iadd, 1) := by decide +kernel
theorem dX8_next_155 : decode cX8_next 155 = .ok (.bipush 48, 2) := by decide +kernel
theorem dX8_next_157 : decode cX8_next 157 = .ok (.isub, 1) := by decide +kernel
theorem dX8_next_158 : decode cX8_next 158 = .ok (.goto 6, 3) := by decide +kernel
theorem dX8_next_161 : decode cX8_next 161 = .ok (.sipush 300, 3) := by decide +kernel
theorem dX8_next_164 : decode cX8_next 164 = .ok (.putfield 142, 3) := by decide +kernel
theorem dX8_next_167 : decode cX8_next 167 = .ok (.aload_n 0, 1) := by decide +kernel
theorem dX8_next_168 : decode cX8_next 168 = .ok (.dup, 1) := by decide +kernel
theorem dX8_next_169 : decode cX8_next 169 = .ok (.getfield 139, 3) := by decide +kernel
theorem dX8_next_172 : decode cX8_next 172 = .ok (.iconst 1, 1) := by decide +kernel
theorem dX8_next_173 : decode cX8_next 173 = .ok (.iadd, 1) := by decide +kernel
theorem dX8_next_174 : decode cX8_next 174 = .ok (.putfield 139, 3) := by decide +kernel
theorem dX8_next_177 : decode cX8_next 177 = .ok (.goto (-79), 3) := by decide +kernel
theorem dX8_next_180 : decode cX8_next 180 = .ok (.iload_n 1, 1) := by decide +kernel
theorem dX8_next_181 : decode cX8_next 181 = .ok (.invokestatic 148, 3) := by decide +kernel
theorem dX8_next_184 : decode cX8_next 184 = .ok (.ifCond .eq 57, 3) := by decide +kernel
theorem dX8_next_187 : decode cX8_next 187 = .ok (.aload_n 0, 1) := by decide +kernel
theorem dX8_next_188 : decode cX8_next 188 = .ok (.getfield 139, 3) := by decide +kernel
theorem dX8_next_191 : decode cX8_next 191 = .ok (.aload_n 0, 1) := by decide +kernel
theorem dX8_next_192 : decode cX8_next 192 = .ok (.getfield 117, 3) := by decide +kernel
theorem dX8_next_195 : decode cX8_next 195 = .ok (.if_icmp .ge 31, 3) := by decide +kernel
theorem dX8_next_198 : decode cX8_next 198 = .ok (.aload_n 0, 1) := by decide +kernel
theorem dX8_next_199 : decode cX8_next 199 = .ok (.getfield 30, 3) := by decide +kernel
theorem dX8_next_202 : decode cX8_next 202 = .ok (.aload_n 0, 1) := by decide +kernel
theorem dX8_next_203 : decode cX8_next 203 = .ok (.getfield 139, 3) := by decide +kernel
theorem dX8_next_206 : decode cX8_next 206 = .ok (.iaload, 1) := by decide +kernel
theorem dX8_next_207 : decode cX8_next 207 = .ok (.invokestatic 148, 3) := by decide +kernel
theorem dX8_next_210 : decode cX8_next 210 = .ok (.ifCond .eq 16, 3) := by decide +kernel
theorem dX8_next_213 : decode cX8_next 213 = .ok (.aload_n 0, 1) := by decide +kernel
theorem dX8_next_214 : decode cX8_next 214 = .ok (.dup, 1) := by decide +kernel
theorem dX8_next_215 : decode cX8_next 215 = .ok (.getfield 139, 3) := by decide +kernel
theorem dX8_next_218 : decode cX8_next 218 = .ok (.iconst 1, 1) := by decide +kernel
theorem dX8_next_219 : decode cX8_next 219 = .ok (.iadd, 1) := by decide +kernel
theorem dX8_next_220 : decode cX8_next 220 = .ok (.putfield 139, 3) := by decide +kernel
theorem dX8_next_223 : decode cX8_next 223 = .ok (.goto (-36), 3) := by decide +kernel
theorem dX8_next_226 : decode cX8_next 226 = .ok (.aload_n 0, 1) := by decide +kernel
theorem dX8_next_227 : decode cX8_next 227 = .ok (.aload_n 0, 1) := by decide +kernel
theorem dX8_next_228 : decode cX8_next 228 = .ok (.aload_n 0, 1) := by decide +kernel
theorem dX8_next_229 : decode cX8_next 229 = .ok (.getfield 139, 3) := by decide +kernel
theorem dX8_next_232 : decode cX8_next 232 = .ok (.invokevirtual 151, 3) := by decide +kernel
theorem dX8_next_235 : decode cX8_next 235 = .ok (.putfield 142, 3) := by decide +kernel
theorem dX8_next_238 : decode cX8_next 238 = .ok (.goto 22, 3) := by decide +kernel
theorem dX8_next_241 : decode cX8_next 241 = .ok (.aload_n 0, 1) := by decide +kernel
theorem dX8_next_242 : decode cX8_next 242 = .ok (.iload_n 1, 1) := by decide +kernel
theorem dX8_next_243 : decode cX8_next 243 = .ok (.bipush 59, 2) := by decide +kernel
theorem dX8_next_245 : decode cX8_next 245 = .ok (.if_icmp .ne 9, 3) := by decide +kernel
theorem dX8_next_248 : decode cX8_next 248 = .ok (.sipush 200, 3) := by decide +kernel
theorem dX8_next_251 : decode cX8_next 251 = .ok (.goto 6, 3) := by decide +kernel
theorem dX8_next_254 : decode cX8_next 254 = .ok (.sipush 300, 3) := by decide +kernel
theorem dX8_next_257 : decode cX8_next 257 = .ok (.putfield 142, 3) := by decide +kernel
theorem dX8_next_260 : decode cX8_next 260 = .ok (.return_, 1) := by decide +kernel
theorem dX8_must_0 : decode cX8_must 0 = .ok (.iload_n 1, 1) := by decide +kernel
theorem dX8_must_1 : decode cX8_must 1 = .ok (.ifCond .ne 19, 3) := by decide +kernel
theorem dX8_must_4 : decode cX8_must 4 = .ok (.aload_n 0, 1) := by decide +kernel
theorem dX8_must_5 : decode cX8_must 5 = .ok (.getfield 33, 3) := by decide +kernel
theorem dX8_must_8 : decode cX8_must 8 = .ok (.iconst (-1), 1) := by decide +kernel
theorem dX8_must_9 : decode cX8_must 9 = .ok (.if_icmp .ne 11, 3) := by decide +kernel
theorem dX8_must_12 : decode cX8_must 12 = .ok (.aload_n 0, 1) := by decide +kernel
theorem dX8_must_13 : decode cX8_must 13 = .ok (.aload_n 0, 1) := by decide +kernel
theorem dX8_must_14 : decode cX8_must 14 = .ok (.getfield 120, 3) := by decide +kernel
theorem dX8_must_17 : decode cX8_must 17 = .ok (.putfield 33, 3) := by decide +kernel
theorem dX8_must_20 : decode cX8_must 20 = .ok (.return_, 1) := by decide +kernel
theorem dX8_goOnReading_0 : decode cX8_goOnReading 0 = .ok (.aload_n 0, 1) := by decide +kernel
theorem dX8_goOnReading_1 : decode cX8_goOnReading 1 = .ok (.getfield 33, 3) := by decide +kernel
theorem dX8_goOnReading_4 : decode cX8_goOnReading 4 = .ok (.iconst (-1), 1) := by decide +kernel
theorem dX8_goOnReading_5 : decode cX8_goOnReading 5 = .ok (.if_icmp .ne 7, 3) := by decide +kernel
theorem dX8_goOnReading_8 : decode cX8_goOnReading 8 = .ok (.aload_n 0, 1) := by decide +kernel
theorem dX8_goOnReading_9 : decode cX8_goOnReading 9 = .ok (.invokevirtual 155, 3) := by decide +kernel
theorem dX8_goOnReading_12 : decode cX8_goOnReading 12 = .ok (.return_, 1) := by decide +kernel
theorem dX8_number_0 : decode cX8_number 0 = .ok (.aload_n 0, 1) := by decide +kernel
theorem dX8_number_1 : decode cX8_number 1 = .ok (.aload_n 0, 1) := by decide +kernel
theorem dX8_number_2 : decode cX8_number 2 = .ok (.getfield 33, 3) := by decide +kernel
theorem dX8_number_5 : decode cX8_number 5 = .ok (.iconst (-1), 1) := by decide +kernel
theorem dX8_number_6 : decode cX8_number 6 = .ok (.if_icmp .ne 18, 3) := by decide +kernel
theorem dX8_number_9 : decode cX8_number 9 = .ok (.aload_n 0, 1) := by decide +kernel
theorem dX8_number_10 : decode cX8_number 10 = .ok (.getfield 142, 3) := by decide +kernel
theorem dX8_number_13 : decode cX8_number 13 = .ok (.i2l, 1) := by decide +kernel
theorem dX8_number_14 : decode cX8_number 14 = .ok (.iload_n 1, 1) := by decide +kernel
theorem dX8_number_15 : decode cX8_number 15 = .ok (.i2l, 1) := by decide +kernel
theorem dX8_number_16 : decode cX8_number 16 = .ok (.iload_n 2, 1) := by decide +kernel
theorem dX8_number_17 : decode cX8_number 17 = .ok (.i2l, 1) := by decide +kernel
theorem dX8_number_18 : decode cX8_number 18 = .ok (.invokestatic 46, 3) := by decide +kernel
theorem dX8_number_21 : decode cX8_number 21 = .ok (.ifCond .eq 7, 3) := by decide +kernel
theorem dX8_number_24 : decode cX8_number 24 = .ok (.iconst 1, 1) := by decide +kernel
theorem dX8_number_25 : decode cX8_number 25 = .ok (.goto 4, 3) := by decide +kernel
theorem dX8_number_28 : decode cX8_number 28 = .ok (.iconst 0, 1) := by decide +kernel
theorem dX8_number_29 : decode cX8_number 29 = .ok (.invokevirtual 158, 3) := by decide +kernel
theorem dX8_number_32 : decode cX8_number 32 = .ok (.aload_n 0, 1) := by decide +kernel
theorem dX8_number_33 : decode cX8_number 33 = .ok (.getfield 142, 3) := by decide +kernel
theorem dX8_number_36 : decode cX8_number 36 = .ok (.istore_n 3, 1) := by decide +kernel
theorem dX8_number_37 : decode cX8_number 37 = .ok (.aload_n 0, 1) := by decide +kernel
theorem dX8_number_38 : decode cX8_number 38 = .ok (.invokevirtual 162, 3) := by decide +kernel
theorem dX8_number_41 : decode cX8_number 41 = .ok (.iload_n 3, 1) := by decide +kernel
theorem dX8_number_42 : decode cX8_number 42 = .ok (.ireturn, 1) := by decide +kernel
theorem dX8_end_0 : decode cX8_end 0 = .ok (.aload_n 0, 1) := by decide +kernel
theorem dX8_end_1 : decode cX8_end 1 = .ok (.aload_n 0, 1) := by decide +kernel
theorem dX8_end_2 : decode cX8_end 2 = .ok (.getfield 33, 3) := by decide +kernel
theorem dX8_end_5 : decode cX8_end 5 = .ok (.iconst (-1), 1) := by decide +kernel
theorem dX8_end_6 : decode cX8_end 6 = .ok (.if_icmp .ne 13, 3) := by decide +kernel
theorem dX8_end_9 : decode cX8_end 9 = .ok (.aload_n 0, 1) := by decide +kernel
theorem dX8_end_10 : decode cX8_end 10 = .ok (.getfield 142, 3) := by decide +kernel
theorem dX8_end_13 : decode cX8_end 13 = .ok (.sipush 200, 3) := by decide +kernel
theorem dX8_end_16 : decode cX8_end 16 = .ok (.if_icmp .ne 7, 3) := by decide +kernel
theorem dX8_end_19 : decode cX8_end 19 = .ok (.iconst 1, 1) := by decide +kernel
theorem dX8_end_20 : decode cX8_end 20 = .ok (.goto 4, 3) := by decide +kernel
theorem dX8_end_23 : decode cX8_end 23 = .ok (.iconst 0, 1) := by decide +kernel
theorem dX8_end_24 : decode cX8_end 24 = .ok (.invokevirtual 158, 3) := by decide +kernel
theorem dX8_end_27 : decode cX8_end 27 = .ok (.aload_n 0, 1) := by decide +kernel
theorem dX8_end_28 : decode cX8_end 28 = .ok (.invokevirtual 162, 3) := by decide +kernel
theorem dX8_end_31 : decode cX8_end 31 = .ok (.return_, 1) := by decide +kernel
theorem dX8_readSoul_0 : decode cX8_readSoul 0 = .ok (.aload_n 0, 1) := by decide +kernel
theorem dX8_readSoul_1 : decode cX8_readSoul 1 = .ok (.aload_n 0, 1) := by decide +kernel
theorem dX8_readSoul_2 : decode cX8_readSoul 2 = .ok (.getfield 13, 3) := by decide +kernel
theorem dX8_readSoul_5 : decode cX8_readSoul 5 = .ok (.bipush 8, 2) := by decide +kernel
theorem dX8_readSoul_7 : decode cX8_readSoul 7 = .ok (.iaload, 1) := by decide +kernel
theorem dX8_readSoul_8 : decode cX8_readSoul 8 = .ok (.bipush 7, 2) := by decide +kernel
theorem dX8_readSoul_10 : decode cX8_readSoul 10 = .ok (.if_icmp .ge 7, 3) := by decide +kernel
theorem dX8_readSoul_13 : decode cX8_readSoul 13 = .ok (.iconst 1, 1) := by decide +kernel
theorem dX8_readSoul_14 : decode cX8_readSoul 14 = .ok (.goto 4, 3) := by decide +kernel
theorem dX8_readSoul_17 : decode cX8_readSoul 17 = .ok (.iconst 0, 1) := by decide +kernel
theorem dX8_readSoul_18 : decode cX8_readSoul 18 = .ok (.invokevirtual 158, 3) := by decide +kernel
theorem dX8_readSoul_21 : decode cX8_readSoul 21 = .ok (.aload_n 0, 1) := by decide +kernel
theorem dX8_readSoul_22 : decode cX8_readSoul 22 = .ok (.invokevirtual 162, 3) := by decide +kernel
theorem dX8_readSoul_25 : decode cX8_readSoul 25 = .ok (.aload_n 0, 1) := by decide +kernel
theorem dX8_readSoul_26 : decode cX8_readSoul 26 = .ok (.iconst 0, 1) := by decide +kernel
theorem dX8_readSoul_27 : decode cX8_readSoul 27 = .ok (.iconst 5, 1) := by decide +kernel
theorem dX8_readSoul_28 : decode cX8_readSoul 28 = .ok (.invokevirtual 165, 3) := by decide +kernel
theorem dX8_readSoul_31 : decode cX8_readSoul 31 = .ok (.istore_n 1, 1) := by decide +kernel
theorem dX8_readSoul_32 : decode cX8_readSoul 32 = .ok (.aload_n 0, 1) := by decide +kernel
theorem dX8_readSoul_33 : decode cX8_readSoul 33 = .ok (.iconst 0, 1) := by decide +kernel
theorem dX8_readSoul_34 : decode cX8_readSoul 34 = .ok (.bipush 29, 2) := by decide +kernel
theorem dX8_readSoul_36 : decode cX8_readSoul 36 = .ok (.invokevirtual 165, 3) := by decide +kernel
theorem dX8_readSoul_39 : decode cX8_readSoul 39 = .ok (.istore_n 2, 1) := by decide +kernel
theorem dX8_readSoul_40 : decode cX8_readSoul 40 = .ok (.aload_n 0, 1) := by decide +kernel
theorem dX8_readSoul_41 : decode cX8_readSoul 41 = .ok (.invokevirtual 168, 3) := by decide +kernel
theorem dX8_readSoul_44 : decode cX8_readSoul 44 = .ok (.aload_n 0, 1) := by decide +kernel
theorem dX8_readSoul_45 : decode cX8_readSoul 45 = .ok (.getfield 33, 3) := by decide +kernel
theorem dX8_readSoul_48 : decode cX8_readSoul 48 = .ok (.iconst (-1), 1) := by decide +kernel
theorem dX8_readSoul_49 : decode cX8_readSoul 49 = .ok (.if_icmp .ne 12, 3) := by decide +kernel
theorem dX8_readSoul_52 : decode cX8_readSoul 52 = .ok (.aload_n 0, 1) := by decide +kernel
theorem dX8_readSoul_53 : decode cX8_readSoul 53 = .ok (.getfield 13, 3) := by decide +kernel
theorem dX8_readSoul_56 : decode cX8_readSoul 56 = .ok (.iload_n 1, 1) := by decide +kernel
theorem dX8_readSoul_57 : decode cX8_readSoul 57 = .ok (.iload_n 2, 1) := by decide +kernel
theorem dX8_readSoul_58 : decode cX8_readSoul 58 = .ok (.invokestatic 112, 3) := by decide +kernel
theorem dX8_readSoul_61 : decode cX8_readSoul 61 = .ok (.return_, 1) := by decide +kernel
theorem dX8_freeCell_0 : decode cX8_freeCell 0 = .ok (.aload_n 0, 1) := by decide +kernel
theorem dX8_freeCell_1 : decode cX8_freeCell 1 = .ok (.aload_n 0, 1) := by decide +kernel
theorem dX8_freeCell_2 : decode cX8_freeCell 2 = .ok (.getfield 33, 3) := by decide +kernel
theorem dX8_freeCell_5 : decode cX8_freeCell 5 = .ok (.iconst (-1), 1) := by decide +kernel
theorem dX8_freeCell_6 : decode cX8_freeCell 6 = .ok (.if_icmp .ne 32, 3) := by decide +kernel
theorem dX8_freeCell_9 : decode cX8_freeCell 9 = .ok (.aload_n 0, 1) := by decide +kernel
theorem dX8_freeCell_10 : decode cX8_freeCell 10 = .ok (.getfield 142, 3) := by decide +kernel
theorem dX8_freeCell_13 : decode cX8_freeCell 13 = .ok (.i2l, 1) := by decide +kernel
theorem dX8_freeCell_14 : decode cX8_freeCell 14 = .ok (.lconst 0, 1) := by decide +kernel
theorem dX8_freeCell_15 : decode cX8_freeCell 15 = .ok (.ldc2_w 50, 3) := by decide +kernel
theorem dX8_freeCell_18 : decode cX8_freeCell 18 = .ok (.invokestatic 46, 3) := by decide +kernel
theorem dX8_freeCell_21 : decode cX8_freeCell 21 = .ok (.ifCond .eq 21, 3) := by decide +kernel
theorem dX8_freeCell_24 : decode cX8_freeCell 24 = .ok (.aload_n 0, 1) := by decide +kernel
theorem dX8_freeCell_25 : decode cX8_freeCell 25 = .ok (.getfield 13, 3) := by decide +kernel
theorem dX8_freeCell_28 : decode cX8_freeCell 28 = .ok (.aload_n 0, 1) := by decide +kernel
theorem dX8_freeCell_29 : decode cX8_freeCell 29 = .ok (.getfield 142, 3) := by decide +kernel
theorem dX8_freeCell_32 : decode cX8_freeCell 32 = .ok (.invokestatic 171, 3) := by decide +kernel
theorem dX8_freeCell_35 : decode cX8_freeCell 35 = .ok (.ifCond .eq 7, 3) := by decide +kernel
theorem dX8_freeCell_38 : decode cX8_freeCell 38 = .ok (.iconst 1, 1) := by decide +kernel
theorem dX8_freeCell_39 : decode cX8_freeCell 39 = .ok (.goto 4, 3) := by decide +kernel
theorem dX8_freeCell_42 : decode cX8_freeCell 42 = .ok (.iconst 0, 1) := by decide +kernel
theorem dX8_freeCell_43 : decode cX8_freeCell 43 = .ok (.invokevirtual 158, 3) := by decide +kernel
theorem dX8_freeCell_46 : decode cX8_freeCell 46 = .ok (.aload_n 0, 1) := by decide +kernel
theorem dX8_freeCell_47 : decode cX8_freeCell 47 = .ok (.getfield 142, 3) := by decide +kernel
theorem dX8_freeCell_50 : decode cX8_freeCell 50 = .ok (.istore_n 1, 1) := by decide +kernel
theorem dX8_freeCell_51 : decode cX8_freeCell 51 = .ok (.aload_n 0, 1) := by decide +kernel
theorem dX8_freeCell_52 : decode cX8_freeCell 52 = .ok (.invokevirtual 162, 3) := by decide +kernel
theorem dX8_freeCell_55 : decode cX8_freeCell 55 = .ok (.iload_n 1, 1) := by decide +kernel
theorem dX8_freeCell_56 : decode cX8_freeCell 56 = .ok (.ireturn, 1) := by decide +kernel
theorem dX8_readCoat_0 : decode cX8_readCoat 0 = .ok (.aload_n 0, 1) := by decide +kernel
theorem dX8_readCoat_1 : decode cX8_readCoat 1 = .ok (.invokevirtual 155, 3) := by decide +kernel
theorem dX8_readCoat_4 : decode cX8_readCoat 4 = .ok (.aload_n 0, 1) := by decide +kernel
theorem dX8_readCoat_5 : decode cX8_readCoat 5 = .ok (.invokevirtual 175, 3) := by decide +kernel
theorem dX8_readCoat_8 : decode cX8_readCoat 8 = .ok (.istore_n 1, 1) := by decide +kernel
theorem dX8_readCoat_9 : decode cX8_readCoat 9 = .ok (.aload_n 0, 1) := by decide +kernel
theorem dX8_readCoat_10 : decode cX8_readCoat 10 = .ok (.invokevirtual 168, 3) := by decide +kernel
theorem dX8_readCoat_13 : decode cX8_readCoat 13 = .ok (.aload_n 0, 1) := by decide +kernel
theorem dX8_readCoat_14 : decode cX8_readCoat 14 = .ok (.getfield 33, 3) := by decide +kernel
theorem dX8_readCoat_17 : decode cX8_readCoat 17 = .ok (.iconst (-1), 1) := by decide +kernel
theorem dX8_readCoat_18 : decode cX8_readCoat 18 = .ok (.if_icmp .ne 15, 3) := by decide +kernel
theorem dX8_readCoat_21 : decode cX8_readCoat 21 = .ok (.aload_n 0, 1) := by decide +kernel
theorem dX8_readCoat_22 : decode cX8_readCoat 22 = .ok (.getfield 13, 3) := by decide +kernel
theorem dX8_readCoat_25 : decode cX8_readCoat 25 = .ok (.iconst 5, 1) := by decide +kernel
theorem dX8_readCoat_26 : decode cX8_readCoat 26 = .ok (.dup2, 1) := by decide +kernel
theorem dX8_readCoat_27 : decode cX8_readCoat 27 = .ok (.iaload, 1) := by decide +kernel
theorem dX8_readCoat_28 : decode cX8_readCoat 28 = .ok (.iconst 1, 1) := by decide +kernel
theorem dX8_readCoat_29 : decode cX8_readCoat 29 = .ok (.iload_n 1, 1) := by decide +kernel
theorem dX8_readCoat_30 : decode cX8_readCoat 30 = .ok (.ishl, 1) := by decide +kernel
theorem dX8_readCoat_31 : decode cX8_readCoat 31 = .ok (.ior, 1) := by decide +kernel
theorem dX8_readCoat_32 : decode cX8_readCoat 32 = .ok (.iastore, 1) := by decide +kernel
theorem dX8_readCoat_33 : decode cX8_readCoat 33 = .ok (.return_, 1) := by decide +kernel
theorem dX8_soulThat_0 : decode cX8_soulThat 0 = .ok (.aload_n 0, 1) := by decide +kernel
theorem dX8_soulThat_1 : decode cX8_soulThat 1 = .ok (.aload_n 0, 1) := by decide +kernel
theorem dX8_soulThat_2 : decode cX8_soulThat 2 = .ok (.getfield 142, 3) := by decide +kernel
theorem dX8_soulThat_5 : decode cX8_soulThat 5 = .ok (.i2l, 1) := by decide +kernel
theorem dX8_soulThat_6 : decode cX8_soulThat 6 = .ok (.lconst 0, 1) := by decide +kernel
theorem dX8_soulThat_7 : decode cX8_soulThat 7 = .ok (.aload_n 0, 1) := by decide +kernel
theorem dX8_soulThat_8 : decode cX8_soulThat 8 = .ok (.getfield 13, 3) := by decide +kernel
theorem dX8_soulThat_11 : decode cX8_soulThat 11 = .ok (.bipush 8, 2) := by decide +kernel
theorem dX8_soulThat_13 : decode cX8_soulThat 13 = .ok (.iaload, 1) := by decide +kernel
theorem dX8_soulThat_14 : decode cX8_soulThat 14 = .ok (.iconst 1, 1) := by decide +kernel
theorem dX8_soulThat_15 : decode cX8_soulThat 15 = .ok (.isub, 1) := by decide +kernel
theorem dX8_soulThat_16 : decode cX8_soulThat 16 = .ok (.i2l, 1) := by decide +kernel
theorem dX8_soulThat_17 : decode cX8_soulThat 17 = .ok (.invokestatic 46, 3) := by decide +kernel
theorem dX8_soulThat_20 : decode cX8_soulThat 20 = .ok (.ifCond .eq 31, 3) := by decide +kernel
theorem dX8_soulThat_23 : decode cX8_soulThat 23 = .ok (.aload_n 0, 1) := by decide +kernel
theorem dX8_soulThat_24 : decode cX8_soulThat 24 = .ok (.getfield 13, 3) := by decide +kernel
theorem dX8_soulThat_27 : decode cX8_soulThat 27 = .ok (.aload_n 0, 1) := by decide +kernel
theorem dX8_soulThat_28 : decode cX8_soulThat 28 = .ok (.getfield 142, 3) := by decide +kernel
theorem dX8_soulThat_31 : decode cX8_soulThat 31 = .ok (.invokestatic 59, 3) := by decide +kernel
theorem dX8_soulThat_34 : decode cX8_soulThat 34 = .ok (.iconst (-1), 1) := by decide +kernel
theorem dX8_soulThat_35 : decode cX8_soulThat 35 = .ok (.if_icmp .eq 7, 3) := by decide +kernel
theorem dX8_soulThat_38 : decode cX8_soulThat 38 = .ok (.iconst 1, 1) := by decide +kernel
theorem dX8_soulThat_39 : decode cX8_soulThat 39 = .ok (.goto 4, 3) := by decide +kernel
theorem dX8_soulThat_42 : decode cX8_soulThat 42 = .ok (.iconst 0, 1) := by decide +kernel
theorem dX8_soulThat_43 : decode cX8_soulThat 43 = .ok (.iload_n 1, 1) := by decide +kernel
theorem dX8_soulThat_44 : decode cX8_soulThat 44 = .ok (.if_icmp .ne 7, 3) := by decide +kernel
theorem dX8_soulThat_47 : decode cX8_soulThat 47 = .ok (.iconst 1, 1) := by decide +kernel
theorem dX8_soulThat_48 : decode cX8_soulThat 48 = .ok (.goto 4, 3) := by decide +kernel
theorem dX8_soulThat_51 : decode cX8_soulThat 51 = .ok (.iconst 0, 1) := by decide +kernel
theorem dX8_soulThat_52 : decode cX8_soulThat 52 = .ok (.invokevirtual 158, 3) := by decide +kernel
theorem dX8_soulThat_55 : decode cX8_soulThat 55 = .ok (.aload_n 0, 1) := by decide +kernel
theorem dX8_soulThat_56 : decode cX8_soulThat 56 = .ok (.getfield 142, 3) := by decide +kernel
theorem dX8_soulThat_59 : decode cX8_soulThat 59 = .ok (.istore_n 2, 1) := by decide +kernel
theorem dX8_soulThat_60 : decode cX8_soulThat 60 = .ok (.aload_n 0, 1) := by decide +kernel
theorem dX8_soulThat_61 : decode cX8_soulThat 61 = .ok (.invokevirtual 162, 3) := by decide +kernel
theorem dX8_soulThat_64 : decode cX8_soulThat 64 = .ok (.iload_n 2, 1) := by decide +kernel
theorem dX8_soulThat_65 : decode cX8_soulThat 65 = .ok (.ireturn, 1) := by decide +kernel
theorem dX8_readSit_0 : decode cX8_readSit 0 = .ok (.aload_n 0, 1) := by decide +kernel
theorem dX8_readSit_1 : decode cX8_readSit 1 = .ok (.invokevirtual 155, 3) := by decide +kernel
theorem dX8_readSit_4 : decode cX8_readSit 4 = .ok (.aload_n 0, 1) := by decide +kernel
theorem dX8_readSit_5 : decode cX8_readSit 5 = .ok (.iconst 0, 1) := by decide +kernel
theorem dX8_readSit_6 : decode cX8_readSit 6 = .ok (.invokevirtual 178, 3) := by decide +kernel
theorem dX8_readSit_9 : decode cX8_readSit 9 = .ok (.istore_n 1, 1) := by decide +kernel
theorem dX8_readSit_10 : decode cX8_readSit 10 = .ok (.aload_n 0, 1) := by decide +kernel
theorem dX8_readSit_11 : decode cX8_readSit 11 = .ok (.invokevirtual 175, 3) := by decide +kernel
theorem dX8_readSit_14 : decode cX8_readSit 14 = .ok (.istore_n 2, 1) := by decide +kernel
theorem dX8_readSit_15 : decode cX8_readSit 15 = .ok (.aload_n 0, 1) := by decide +kernel
theorem dX8_readSit_16 : decode cX8_readSit 16 = .ok (.invokevirtual 168, 3) := by decide +kernel
theorem dX8_readSit_19 : decode cX8_readSit 19 = .ok (.aload_n 0, 1) := by decide +kernel
theorem dX8_readSit_20 : decode cX8_readSit 20 = .ok (.getfield 33, 3) := by decide +kernel
theorem dX8_readSit_23 : decode cX8_readSit 23 = .ok (.iconst (-1), 1) := by decide +kernel
theorem dX8_readSit_24 : decode cX8_readSit 24 = .ok (.if_icmp .ne 13, 3) := by decide +kernel
theorem dX8_readSit_27 : decode cX8_readSit 27 = .ok (.aload_n 0, 1) := by decide +kernel
theorem dX8_readSit_28 : decode cX8_readSit 28 = .ok (.getfield 13, 3) := by decide +kernel
theorem dX8_readSit_31 : decode cX8_readSit 31 = .ok (.iload_n 1, 1) := by decide +kernel
theorem dX8_readSit_32 : decode cX8_readSit 32 = .ok (.iload_n 2, 1) := by decide +kernel
theorem dX8_readSit_33 : decode cX8_readSit 33 = .ok (.invokestatic 182, 3) := by decide +kernel
theorem dX8_readSit_36 : decode cX8_readSit 36 = .ok (.pop, 1) := by decide +kernel
theorem dX8_readSit_37 : decode cX8_readSit 37 = .ok (.return_, 1) := by decide +kernel
theorem dX8_readOut_0 : decode cX8_readOut 0 = .ok (.aload_n 0, 1) := by decide +kernel
theorem dX8_readOut_1 : decode cX8_readOut 1 = .ok (.invokevirtual 155, 3) := by decide +kernel
theorem dX8_readOut_4 : decode cX8_readOut 4 = .ok (.aload_n 0, 1) := by decide +kernel
theorem dX8_readOut_5 : decode cX8_readOut 5 = .ok (.iconst 1, 1) := by decide +kernel
theorem dX8_readOut_6 : decode cX8_readOut 6 = .ok (.invokevirtual 178, 3) := by decide +kernel
theorem dX8_readOut_9 : decode cX8_readOut 9 = .ok (.istore_n 1, 1) := by decide +kernel
theorem dX8_readOut_10 : decode cX8_readOut 10 = .ok (.aload_n 0, 1) := by decide +kernel
theorem dX8_readOut_11 : decode cX8_readOut 11 = .ok (.invokevirtual 168, 3) := by decide +kernel
theorem dX8_readOut_14 : decode cX8_readOut 14 = .ok (.aload_n 0, 1) := by decide +kernel
theorem dX8_readOut_15 : decode cX8_readOut 15 = .ok (.getfield 33, 3) := by decide +kernel
theorem dX8_readOut_18 : decode cX8_readOut 18 = .ok (.iconst (-1), 1) := by decide +kernel
theorem dX8_readOut_19 : decode cX8_readOut 19 = .ok (.if_icmp .ne 13, 3) := by decide +kernel
theorem dX8_readOut_22 : decode cX8_readOut 22 = .ok (.aload_n 0, 1) := by decide +kernel
theorem dX8_readOut_23 : decode cX8_readOut 23 = .ok (.getfield 13, 3) := by decide +kernel
theorem dX8_readOut_26 : decode cX8_readOut 26 = .ok (.iload_n 1, 1) := by decide +kernel
theorem dX8_readOut_27 : decode cX8_readOut 27 = .ok (.iconst (-1), 1) := by decide +kernel
theorem dX8_readOut_28 : decode cX8_readOut 28 = .ok (.invokestatic 182, 3) := by decide +kernel
theorem dX8_readOut_31 : decode cX8_readOut 31 = .ok (.pop, 1) := by decide +kernel
theorem dX8_readOut_32 : decode cX8_readOut 32 = .ok (.return_, 1) := by decide +kernel
theorem dX8_readMinutes_0 : decode cX8_readMinutes 0 = .ok (.aload_n 0, 1) := by decide +kernel
theorem dX8_readMinutes_1 : decode cX8_readMinutes 1 = .ok (.invokevirtual 155, 3) := by decide +kernel
theorem dX8_readMinutes_4 : decode cX8_readMinutes 4 = .ok (.aload_n 0, 1) := by decide +kernel
theorem dX8_readMinutes_5 : decode cX8_readMinutes 5 = .ok (.iconst 1, 1) := by decide +kernel
theorem dX8_readMinutes_6 : decode cX8_readMinutes 6 = .ok (.bipush 99, 2) := by decide +kernel
theorem dX8_readMinutes_8 : decode cX8_readMinutes 8 = .ok (.invokevirtual 165, 3) := by decide +kernel
theorem dX8_readMinutes_11 : decode cX8_readMinutes 11 = .ok (.istore_n 1, 1) := by decide +kernel
theorem dX8_readMinutes_12 : decode cX8_readMinutes 12 = .ok (.aload_n 0, 1) := by decide +kernel
theorem dX8_readMinutes_13 : decode cX8_readMinutes 13 = .ok (.invokevirtual 168, 3) := by decide +kernel
theorem dX8_readMinutes_16 : decode cX8_readMinutes 16 = .ok (.aload_n 0, 1) := by decide +kernel
theorem dX8_readMinutes_17 : decode cX8_readMinutes 17 = .ok (.getfield 33, 3) := by decide +kernel
theorem dX8_readMinutes_20 : decode cX8_readMinutes 20 = .ok (.iconst (-1), 1) := by decide +kernel
theorem dX8_readMinutes_21 : decode cX8_readMinutes 21 = .ok (.if_icmp .ne 14, 3) := by decide +kernel
theorem dX8_readMinutes_24 : decode cX8_readMinutes 24 = .ok (.aload_n 0, 1) := by decide +kernel
theorem dX8_readMinutes_25 : decode cX8_readMinutes 25 = .ok (.getfield 13, 3) := by decide +kernel
theorem dX8_readMinutes_28 : decode cX8_readMinutes 28 = .ok (.bipush 6, 2) := by decide +kernel
theorem dX8_readMinutes_30 : decode cX8_readMinutes 30 = .ok (.dup2, 1) := by decide +kernel
theorem dX8_readMinutes_31 : decode cX8_readMinutes 31 = .ok (.iaload, 1) := by decide +kernel
theorem dX8_readMinutes_32 : decode cX8_readMinutes 32 = .ok (.iload_n 1, 1) := by decide +kernel
theorem dX8_readMinutes_33 : decode cX8_readMinutes 33 = .ok (.iadd, 1) := by decide +kernel
theorem dX8_readMinutes_34 : decode cX8_readMinutes 34 = .ok (.iastore, 1) := by decide +kernel
theorem dX8_readMinutes_35 : decode cX8_readMinutes 35 = .ok (.return_, 1) := by decide +kernel
theorem dX8_read_0 : decode cX8_read 0 = .ok (.aload_n 0, 1) := by decide +kernel
theorem dX8_read_1 : decode cX8_read 1 = .ok (.getfield 13, 3) := by decide +kernel
theorem dX8_read_4 : decode cX8_read 4 = .ok (.invokestatic 93, 3) := by decide +kernel
theorem dX8_read_7 : decode cX8_read 7 = .ok (.aload_n 0, 1) := by decide +kernel
theorem dX8_read_8 : decode cX8_read 8 = .ok (.iconst 0, 1) := by decide +kernel
theorem dX8_read_9 : decode cX8_read 9 = .ok (.putfield 139, 3) := by decide +kernel
theorem dX8_read_12 : decode cX8_read 12 = .ok (.aload_n 0, 1) := by decide +kernel
theorem dX8_read_13 : decode cX8_read 13 = .ok (.iconst (-1), 1) := by decide +kernel
theorem dX8_read_14 : decode cX8_read 14 = .ok (.putfield 33, 3) := by decide +kernel
theorem dX8_read_17 : decode cX8_read 17 = .ok (.aload_n 0, 1) := by decide +kernel
theorem dX8_read_18 : decode cX8_read 18 = .ok (.invokevirtual 155, 3) := by decide +kernel
theorem dX8_read_21 : decode cX8_read 21 = .ok (.aload_n 0, 1) := by decide +kernel
theorem dX8_read_22 : decode cX8_read 22 = .ok (.aload_n 0, 1) := by decide +kernel
theorem dX8_read_23 : decode cX8_read 23 = .ok (.getfield 142, 3) := by decide +kernel
theorem dX8_read_26 : decode cX8_read 26 = .ok (.bipush 100, 2) := by decide +kernel
theorem dX8_read_28 : decode cX8_read 28 = .ok (.if_icmp .ne 7, 3) := by decide +kernel
theorem dX8_read_31 : decode cX8_read 31 = .ok (.iconst 1, 1) := by decide +kernel
theorem dX8_read_32 : decode cX8_read 32 = .ok (.goto 4, 3) := by decide +kernel
theorem dX8_read_35 : decode cX8_read 35 = .ok (.iconst 0, 1) := by decide +kernel
theorem dX8_read_36 : decode cX8_read 36 = .ok (.invokevirtual 158, 3) := by decide +kernel
theorem dX8_read_39 : decode cX8_read 39 = .ok (.aload_n 0, 1) := by decide +kernel
theorem dX8_read_40 : decode cX8_read 40 = .ok (.invokevirtual 162, 3) := by decide +kernel
theorem dX8_read_43 : decode cX8_read 43 = .ok (.iconst 0, 1) := by decide +kernel
theorem dX8_read_44 : decode cX8_read 44 = .ok (.istore_n 1, 1) := by decide +kernel
theorem dX8_read_45 : decode cX8_read 45 = .ok (.iload_n 1, 1) := by decide +kernel
theorem dX8_read_46 : decode cX8_read 46 = .ok (.iconst 5, 1) := by decide +kernel
theorem dX8_read_47 : decode cX8_read 47 = .ok (.if_icmp .ge 35, 3) := by decide +kernel
theorem dX8_read_50 : decode cX8_read 50 = .ok (.aload_n 0, 1) := by decide +kernel
theorem dX8_read_51 : decode cX8_read 51 = .ok (.iconst 0, 1) := by decide +kernel
theorem dX8_read_52 : decode cX8_read 52 = .ok (.iconst 5, 1) := by decide +kernel
theorem dX8_read_53 : decode cX8_read 53 = .ok (.invokevirtual 165, 3) := by decide +kernel
theorem dX8_read_56 : decode cX8_read 56 = .ok (.istore_n 2, 1) := by decide +kernel
theorem dX8_read_57 : decode cX8_read 57 = .ok (.aload_n 0, 1) := by decide +kernel
theorem dX8_read_58 : decode cX8_read 58 = .ok (.getfield 13, 3) := by decide +kernel
theorem dX8_read_61 : decode cX8_read 61 = .ok (.iload_n 1, 1) := by decide +kernel
theorem dX8_read_62 : decode cX8_read 62 = .ok (.aload_n 0, 1) := by decide +kernel
theorem dX8_read_63 : decode cX8_read 63 = .ok (.getfield 33, 3) := by decide +kernel
theorem dX8_read_66 : decode cX8_read 66 = .ok (.iconst (-1), 1) := by decide +kernel
theorem dX8_read_67 : decode cX8_read 67 = .ok (.if_icmp .ne 7, 3) := by decide +kernel
theorem dX8_read_70 : decode cX8_read 70 = .ok (.iload_n 2, 1) := by decide +kernel
theorem dX8_read_71 : decode cX8_read 71 = .ok (.goto 4, 3) := by decide +kernel
theorem dX8_read_74 : decode cX8_read 74 = .ok (.iconst 0, 1) := by decide +kernel
theorem dX8_read_75 : decode cX8_read 75 = .ok (.iastore, 1) := by decide +kernel
theorem dX8_read_76 : decode cX8_read 76 = .ok (.iinc 1 1, 3) := by decide +kernel
theorem dX8_read_79 : decode cX8_read 79 = .ok (.goto (-34), 3) := by decide +kernel
theorem dX8_read_82 : decode cX8_read 82 = .ok (.aload_n 0, 1) := by decide +kernel
theorem dX8_read_83 : decode cX8_read 83 = .ok (.invokevirtual 168, 3) := by decide +kernel
theorem dX8_read_86 : decode cX8_read 86 = .ok (.iconst 1, 1) := by decide +kernel
theorem dX8_read_87 : decode cX8_read 87 = .ok (.istore_n 1, 1) := by decide +kernel
theorem dX8_read_88 : decode cX8_read 88 = .ok (.aload_n 0, 1) := by decide +kernel
theorem dX8_read_89 : decode cX8_read 89 = .ok (.getfield 33, 3) := by decide +kernel
theorem dX8_read_92 : decode cX8_read 92 = .ok (.iconst (-1), 1) := by decide +kernel
theorem dX8_read_93 : decode cX8_read 93 = .ok (.if_icmp .ne 97, 3) := by decide +kernel
theorem dX8_read_96 : decode cX8_read 96 = .ok (.aload_n 0, 1) := by decide +kernel
theorem dX8_read_97 : decode cX8_read 97 = .ok (.getfield 142, 3) := by decide +kernel
theorem dX8_read_100 : decode cX8_read 100 = .ok (.iconst (-1), 1) := by decide +kernel
theorem dX8_read_101 : decode cX8_read 101 = .ok (.if_icmp .eq 89, 3) := by decide +kernel
theorem dX8_read_104 : decode cX8_read 104 = .ok (.aload_n 0, 1) := by decide +kernel
theorem dX8_read_105 : decode cX8_read 105 = .ok (.getfield 142, 3) := by decide +kernel
theorem dX8_read_108 : decode cX8_read 108 = .ok (.tableswitch 71 101 105 #[36, 43, 50, 57, 64], 36) := by decide +kernel
theorem dX8_read_144 : decode cX8_read 144 = .ok (.aload_n 0, 1) := by decide +kernel
theorem dX8_read_145 : decode cX8_read 145 = .ok (.invokevirtual 185, 3) := by decide +kernel
theorem dX8_read_148 : decode cX8_read 148 = .ok (.goto 36, 3) := by decide +kernel
theorem dX8_read_151 : decode cX8_read 151 = .ok (.aload_n 0, 1) := by decide +kernel
theorem dX8_read_152 : decode cX8_read 152 = .ok (.invokevirtual 188, 3) := by decide +kernel
theorem dX8_read_155 : decode cX8_read 155 = .ok (.goto 29, 3) := by decide +kernel
theorem dX8_read_158 : decode cX8_read 158 = .ok (.aload_n 0, 1) := by decide +kernel
theorem dX8_read_159 : decode cX8_read 159 = .ok (.invokevirtual 191, 3) := by decide +kernel
theorem dX8_read_162 : decode cX8_read 162 = .ok (.goto 22, 3) := by decide +kernel
theorem dX8_read_165 : decode cX8_read 165 = .ok (.aload_n 0, 1) := by decide +kernel
theorem dX8_read_166 : decode cX8_read 166 = .ok (.invokevirtual 194, 3) := by decide +kernel
theorem dX8_read_169 : decode cX8_read 169 = .ok (.goto 15, 3) := by decide +kernel
theorem dX8_read_172 : decode cX8_read 172 = .ok (.aload_n 0, 1) := by decide +kernel
theorem dX8_read_173 : decode cX8_read 173 = .ok (.invokevirtual 197, 3) := by decide +kernel
theorem dX8_read_176 : decode cX8_read 176 = .ok (.goto 8, 3) := by decide +kernel
theorem dX8_read_179 : decode cX8_read 179 = .ok (.aload_n 0, 1) := by decide +kernel
theorem dX8_read_180 : decode cX8_read 180 = .ok (.iconst 0, 1) := by decide +kernel
theorem dX8_read_181 : decode cX8_read 181 = .ok (.invokevirtual 158, 3) := by decide +kernel
theorem dX8_read_184 : decode cX8_read 184 = .ok (.iinc 1 1, 3) := by decide +kernel
theorem dX8_read_187 : decode cX8_read 187 = .ok (.goto (-99), 3) := by decide +kernel
theorem dX8_read_190 : decode cX8_read 190 = .ok (.aload_n 0, 1) := by decide +kernel
theorem dX8_read_191 : decode cX8_read 191 = .ok (.getfield 33, 3) := by decide +kernel
theorem dX8_read_194 : decode cX8_read 194 = .ok (.iconst (-1), 1) := by decide +kernel
theorem dX8_read_195 : decode cX8_read 195 = .ok (.if_icmp .eq 11, 3) := by decide +kernel
theorem dX8_read_198 : decode cX8_read 198 = .ok (.bipush (-10), 2) := by decide +kernel
theorem dX8_read_200 : decode cX8_read 200 = .ok (.aload_n 0, 1) := by decide +kernel
theorem dX8_read_201 : decode cX8_read 201 = .ok (.getfield 33, 3) := by decide +kernel
theorem dX8_read_204 : decode cX8_read 204 = .ok (.isub, 1) := by decide +kernel
theorem dX8_read_205 : decode cX8_read 205 = .ok (.ireturn, 1) := by decide +kernel
theorem dX8_read_206 : decode cX8_read 206 = .ok (.iconst 0, 1) := by decide +kernel
theorem dX8_read_207 : decode cX8_read 207 = .ok (.istore_n 2, 1) := by decide +kernel
theorem dX8_read_208 : decode cX8_read 208 = .ok (.iload_n 2, 1) := by decide +kernel
theorem dX8_read_209 : decode cX8_read 209 = .ok (.sipush 171, 3) := by decide +kernel
theorem dX8_read_212 : decode cX8_read 212 = .ok (.if_icmp .ge 21, 3) := by decide +kernel
theorem dX8_read_215 : decode cX8_read 215 = .ok (.aload_n 0, 1) := by decide +kernel
theorem dX8_read_216 : decode cX8_read 216 = .ok (.getfield 7, 3) := by decide +kernel
theorem dX8_read_219 : decode cX8_read 219 = .ok (.iload_n 2, 1) := by decide +kernel
theorem dX8_read_220 : decode cX8_read 220 = .ok (.aload_n 0, 1) := by decide +kernel
theorem dX8_read_221 : decode cX8_read 221 = .ok (.getfield 13, 3) := by decide +kernel
theorem dX8_read_224 : decode cX8_read 224 = .ok (.iload_n 2, 1) := by decide +kernel
theorem dX8_read_225 : decode cX8_read 225 = .ok (.iaload, 1) := by decide +kernel
theorem dX8_read_226 : decode cX8_read 226 = .ok (.iastore, 1) := by decide +kernel
theorem dX8_read_227 : decode cX8_read 227 = .ok (.iinc 2 1, 3) := by decide +kernel
theorem dX8_read_230 : decode cX8_read 230 = .ok (.goto (-22), 3) := by decide +kernel
theorem dX8_read_233 : decode cX8_read 233 = .ok (.iload_n 1, 1) := by decide +kernel
theorem dX8_read_234 : decode cX8_read 234 = .ok (.ireturn, 1) := by decide +kernel
theorem dX8_keep_0 : decode cX8_keep 0 = .ok (.aload_n 0, 1) := by decide +kernel
theorem dX8_keep_1 : decode cX8_keep 1 = .ok (.getfield 7, 3) := by decide +kernel
theorem dX8_keep_4 : decode cX8_keep 4 = .ok (.bipush 90, 2) := by decide +kernel
theorem dX8_keep_6 : decode cX8_keep 6 = .ok (.iaload, 1) := by decide +kernel
theorem dX8_keep_7 : decode cX8_keep 7 = .ok (.bipush 8, 2) := by decide +kernel
theorem dX8_keep_9 : decode cX8_keep 9 = .ok (.if_icmp .ne 49, 3) := by decide +kernel
theorem dX8_keep_12 : decode cX8_keep 12 = .ok (.iconst 0, 1) := by decide +kernel
theorem dX8_keep_13 : decode cX8_keep 13 = .ok (.istore_n 1, 1) := by decide +kernel
theorem dX8_keep_14 : decode cX8_keep 14 = .ok (.iload_n 1, 1) := by decide +kernel
theorem dX8_keep_15 : decode cX8_keep 15 = .ok (.bipush 70, 2) := by decide +kernel
theorem dX8_keep_17 : decode cX8_keep 17 = .ok (.if_icmp .ge 30, 3) := by decide +kernel
theorem dX8_keep_20 : decode cX8_keep 20 = .ok (.aload_n 0, 1) := by decide +kernel
theorem dX8_keep_21 : decode cX8_keep 21 = .ok (.getfield 7, 3) := by decide +kernel
theorem dX8_keep_24 : decode cX8_keep 24 = .ok (.bipush 91, 2) := by decide +kernel
theorem dX8_keep_26 : decode cX8_keep 26 = .ok (.iload_n 1, 1) := by decide +kernel
theorem dX8_keep_27 : decode cX8_keep 27 = .ok (.iadd, 1) := by decide +kernel
theorem dX8_keep_28 : decode cX8_keep 28 = .ok (.aload_n 0, 1) := by decide +kernel
theorem dX8_keep_29 : decode cX8_keep 29 = .ok (.getfield 7, 3) := by decide +kernel
theorem dX8_keep_32 : decode cX8_keep 32 = .ok (.bipush 91, 2) := by decide +kernel
theorem dX8_keep_34 : decode cX8_keep 34 = .ok (.iload_n 1, 1) := by decide +kernel
theorem dX8_keep_35 : decode cX8_keep 35 = .ok (.iadd, 1) := by decide +kernel
theorem dX8_keep_36 : decode cX8_keep 36 = .ok (.bipush 10, 2) := by decide +kernel
theorem dX8_keep_38 : decode cX8_keep 38 = .ok (.iadd, 1) := by decide +kernel
theorem dX8_keep_39 : decode cX8_keep 39 = .ok (.iaload, 1) := by decide +kernel
theorem dX8_keep_40 : decode cX8_keep 40 = .ok (.iastore, 1) := by decide +kernel
theorem dX8_keep_41 : decode cX8_keep 41 = .ok (.iinc 1 1, 3) := by decide +kernel
theorem dX8_keep_44 : decode cX8_keep 44 = .ok (.goto (-30), 3) := by decide +kernel
theorem dX8_keep_47 : decode cX8_keep 47 = .ok (.aload_n 0, 1) := by decide +kernel
theorem dX8_keep_48 : decode cX8_keep 48 = .ok (.getfield 7, 3) := by decide +kernel
theorem dX8_keep_51 : decode cX8_keep 51 = .ok (.bipush 90, 2) := by decide +kernel
theorem dX8_keep_53 : decode cX8_keep 53 = .ok (.dup2, 1) := by decide +kernel
theorem dX8_keep_54 : decode cX8_keep 54 = .ok (.iaload, 1) := by decide +kernel
theorem dX8_keep_55 : decode cX8_keep 55 = .ok (.iconst 1, 1) := by decide +kernel
theorem dX8_keep_56 : decode cX8_keep 56 = .ok (.isub, 1) := by decide +kernel
theorem dX8_keep_57 : decode cX8_keep 57 = .ok (.iastore, 1) := by decide +kernel
theorem dX8_keep_58 : decode cX8_keep 58 = .ok (.bipush 91, 2) := by decide +kernel
theorem dX8_keep_60 : decode cX8_keep 60 = .ok (.bipush 10, 2) := by decide +kernel
theorem dX8_keep_62 : decode cX8_keep 62 = .ok (.aload_n 0, 1) := by decide +kernel
theorem dX8_keep_63 : decode cX8_keep 63 = .ok (.getfield 7, 3) := by decide +kernel
theorem dX8_keep_66 : decode cX8_keep 66 = .ok (.bipush 90, 2) := by decide +kernel
theorem dX8_keep_68 : decode cX8_keep 68 = .ok (.iaload, 1) := by decide +kernel
theorem dX8_keep_69 : decode cX8_keep 69 = .ok (.imul, 1) := by decide +kernel
theorem dX8_keep_70 : decode cX8_keep 70 = .ok (.iadd, 1) := by decide +kernel
theorem dX8_keep_71 : decode cX8_keep 71 = .ok (.istore_n 1, 1) := by decide +kernel
theorem dX8_keep_72 : decode cX8_keep 72 = .ok (.iconst 0, 1) := by decide +kernel
theorem dX8_keep_73 : decode cX8_keep 73 = .ok (.istore_n 2, 1) := by decide +kernel
theorem dX8_keep_74 : decode cX8_keep 74 = .ok (.iload_n 2, 1) := by decide +kernel
theorem dX8_keep_75 : decode cX8_keep 75 = .ok (.iconst 3, 1) := by decide +kernel
theorem dX8_keep_76 : decode cX8_keep 76 = .ok (.if_icmp .ge 25, 3) := by decide +kernel
theorem dX8_keep_79 : decode cX8_keep 79 = .ok (.aload_n 0, 1) := by decide +kernel
theorem dX8_keep_80 : decode cX8_keep 80 = .ok (.getfield 7, 3) := by decide +kernel
theorem dX8_keep_83 : decode cX8_keep 83 = .ok (.iload_n 1, 1) := by decide +kernel
theorem dX8_keep_84 : decode cX8_keep 84 = .ok (.iload_n 2, 1) := by decide +kernel
theorem dX8_keep_85 : decode cX8_keep 85 = .ok (.iadd, 1) := by decide +kernel
theorem dX8_keep_86 : decode cX8_keep 86 = .ok (.aload_n 0, 1) := by decide +kernel
theorem dX8_keep_87 : decode cX8_keep 87 = .ok (.getfield 7, 3) := by decide +kernel
theorem dX8_keep_90 : decode cX8_keep 90 = .ok (.iconst 5, 1) := by decide +kernel
theorem dX8_keep_91 : decode cX8_keep 91 = .ok (.iload_n 2, 1) := by decide +kernel
theorem dX8_keep_92 : decode cX8_keep 92 = .ok (.iadd, 1) := by decide +kernel
theorem dX8_keep_93 : decode cX8_keep 93 = .ok (.iaload, 1) := by decide +kernel
theorem dX8_keep_94 : decode cX8_keep 94 = .ok (.iastore, 1) := by decide +kernel
theorem dX8_keep_95 : decode cX8_keep 95 = .ok (.iinc 2 1, 3) := by decide +kernel
theorem dX8_keep_98 : decode cX8_keep 98 = .ok (.goto (-24), 3) := by decide +kernel
theorem dX8_keep_101 : decode cX8_keep 101 = .ok (.iconst 0, 1) := by decide +kernel
theorem dX8_keep_102 : decode cX8_keep 102 = .ok (.istore_n 2, 1) := by decide +kernel
theorem dX8_keep_103 : decode cX8_keep 103 = .ok (.iload_n 2, 1) := by decide +kernel
theorem dX8_keep_104 : decode cX8_keep 104 = .ok (.bipush 7, 2) := by decide +kernel
theorem dX8_keep_106 : decode cX8_keep 106 = .ok (.if_icmp .ge 28, 3) := by decide +kernel
theorem dX8_keep_109 : decode cX8_keep 109 = .ok (.aload_n 0, 1) := by decide +kernel
theorem dX8_keep_110 : decode cX8_keep 110 = .ok (.getfield 7, 3) := by decide +kernel
theorem dX8_keep_113 : decode cX8_keep 113 = .ok (.iload_n 1, 1) := by decide +kernel
theorem dX8_keep_114 : decode cX8_keep 114 = .ok (.iconst 3, 1) := by decide +kernel
theorem dX8_keep_115 : decode cX8_keep 115 = .ok (.iadd, 1) := by decide +kernel
theorem dX8_keep_116 : decode cX8_keep 116 = .ok (.iload_n 2, 1) := by decide +kernel
theorem dX8_keep_117 : decode cX8_keep 117 = .ok (.iadd, 1) := by decide +kernel
theorem dX8_keep_118 : decode cX8_keep 118 = .ok (.aload_n 0, 1) := by decide +kernel
theorem dX8_keep_119 : decode cX8_keep 119 = .ok (.getfield 7, 3) := by decide +kernel
theorem dX8_keep_122 : decode cX8_keep 122 = .ok (.iload_n 2, 1) := by decide +kernel
theorem dX8_keep_123 : decode cX8_keep 123 = .ok (.iconst 2, 1) := by decide +kernel
theorem dX8_keep_124 : decode cX8_keep 124 = .ok (.invokestatic 55, 3) := by decide +kernel
theorem dX8_keep_127 : decode cX8_keep 127 = .ok (.iastore, 1) := by decide +kernel
theorem dX8_keep_128 : decode cX8_keep 128 = .ok (.iinc 2 1, 3) := by decide +kernel
theorem dX8_keep_131 : decode cX8_keep 131 = .ok (.goto (-28), 3) := by decide +kernel
theorem dX8_keep_134 : decode cX8_keep 134 = .ok (.aload_n 0, 1) := by decide +kernel
theorem dX8_keep_135 : decode cX8_keep 135 = .ok (.getfield 7, 3) := by decide +kernel
theorem dX8_keep_138 : decode cX8_keep 138 = .ok (.bipush 90, 2) := by decide +kernel
theorem dX8_keep_140 : decode cX8_keep 140 = .ok (.dup2, 1) := by decide +kernel
theorem dX8_keep_141 : decode cX8_keep 141 = .ok (.iaload, 1) := by decide +kernel
theorem dX8_keep_142 : decode cX8_keep 142 = .ok (.iconst 1, 1) := by decide +kernel
theorem dX8_keep_143 : decode cX8_keep 143 = .ok (.iadd, 1) := by decide +kernel
theorem dX8_keep_144 : decode cX8_keep 144 = .ok (.iastore, 1) := by decide +kernel
theorem dX8_keep_145 : decode cX8_keep 145 = .ok (.return_, 1) := by decide +kernel
theorem dX8_undo_0 : decode cX8_undo 0 = .ok (.aload_n 0, 1) := by decide +kernel
theorem dX8_undo_1 : decode cX8_undo 1 = .ok (.getfield 7, 3) := by decide +kernel
theorem dX8_undo_4 : decode cX8_undo 4 = .ok (.bipush 90, 2) := by decide +kernel
theorem dX8_undo_6 : decode cX8_undo 6 = .ok (.iaload, 1) := by decide +kernel
theorem dX8_undo_7 : decode cX8_undo 7 = .ok (.ifCond .ne 8, 3) := by decide +kernel
theorem dX8_undo_10 : decode cX8_undo 10 = .ok (.aload_n 0, 1) := by decide +kernel
theorem dX8_undo_11 : decode cX8_undo 11 = .ok (.invokevirtual 200, 3) := by decide +kernel
theorem dX8_undo_14 : decode cX8_undo 14 = .ok (.ireturn, 1) := by decide +kernel
theorem dX8_undo_15 : decode cX8_undo 15 = .ok (.aload_n 0, 1) := by decide +kernel
theorem dX8_undo_16 : decode cX8_undo 16 = .ok (.getfield 7, 3) := by decide +kernel
theorem dX8_undo_19 : decode cX8_undo 19 = .ok (.bipush 90, 2) := by decide +kernel
theorem dX8_undo_21 : decode cX8_undo 21 = .ok (.dup2, 1) := by decide +kernel
end
section
theorem dX8_undo_22 : decode cX8_undo 22 = .ok (.iaload, 1) := by decide +kernel
theorem dX8_undo_23 : decode cX8_undo 23 = .ok (.iconst 1, 1) := by decide +kernel
theorem dX8_undo_24 : decode cX8_undo 24 = .ok (.isub, 1) := by decide +kernel
theorem dX8_undo_25 : decode cX8_undo 25 = .ok (.iastore, 1) := by decide +kernel
theorem dX8_undo_26 : decode cX8_undo 26 = .ok (.bipush 91, 2) := by decide +kernel
theorem dX8_undo_28 : decode cX8_undo 28 = .ok (.bipush 10, 2) := by decide +kernel
theorem dX8_undo_30 : decode cX8_undo 30 = .ok (.aload_n 0, 1) := by decide +kernel
theorem dX8_undo_31 : decode cX8_undo 31 = .ok (.getfield 7, 3) := by decide +kernel
theorem dX8_undo_34 : decode cX8_undo 34 = .ok (.bipush 90, 2) := by decide +kernel
theorem dX8_undo_36 : decode cX8_undo 36 = .ok (.iaload, 1) := by decide +kernel
theorem dX8_undo_37 : decode cX8_undo 37 = .ok (.imul, 1) := by decide +kernel
theorem dX8_undo_38 : decode cX8_undo 38 = .ok (.iadd, 1) := by decide +kernel
theorem dX8_undo_39 : decode cX8_undo 39 = .ok (.istore_n 1, 1) := by decide +kernel
theorem dX8_undo_40 : decode cX8_undo 40 = .ok (.iconst 0, 1) := by decide +kernel
theorem dX8_undo_41 : decode cX8_undo 41 = .ok (.istore_n 2, 1) := by decide +kernel
theorem dX8_undo_42 : decode cX8_undo 42 = .ok (.iload_n 2, 1) := by decide +kernel
theorem dX8_undo_43 : decode cX8_undo 43 = .ok (.iconst 3, 1) := by decide +kernel
theorem dX8_undo_44 : decode cX8_undo 44 = .ok (.if_icmp .ge 25, 3) := by decide +kernel
theorem dX8_undo_47 : decode cX8_undo 47 = .ok (.aload_n 0, 1) := by decide +kernel
theorem dX8_undo_48 : decode cX8_undo 48 = .ok (.getfield 7, 3) := by decide +kernel
theorem dX8_undo_51 : decode cX8_undo 51 = .ok (.iconst 5, 1) := by decide +kernel
theorem dX8_undo_52 : decode cX8_undo 52 = .ok (.iload_n 2, 1) := by decide +kernel
theorem dX8_undo_53 : decode cX8_undo 53 = .ok (.iadd, 1) := by decide +kernel
theorem dX8_undo_54 : decode cX8_undo 54 = .ok (.aload_n 0, 1) := by decide +kernel
theorem dX8_undo_55 : decode cX8_undo 55 = .ok (.getfield 7, 3) := by decide +kernel
theorem dX8_undo_58 : decode cX8_undo 58 = .ok (.iload_n 1, 1) := by decide +kernel
theorem dX8_undo_59 : decode cX8_undo 59 = .ok (.iload_n 2, 1) := by decide +kernel
theorem dX8_undo_60 : decode cX8_undo 60 = .ok (.iadd, 1) := by decide +kernel
theorem dX8_undo_61 : decode cX8_undo 61 = .ok (.iaload, 1) := by decide +kernel
theorem dX8_undo_62 : decode cX8_undo 62 = .ok (.iastore, 1) := by decide +kernel
theorem dX8_undo_63 : decode cX8_undo 63 = .ok (.iinc 2 1, 3) := by decide +kernel
theorem dX8_undo_66 : decode cX8_undo 66 = .ok (.goto (-24), 3) := by decide +kernel
theorem dX8_undo_69 : decode cX8_undo 69 = .ok (.iconst 0, 1) := by decide +kernel
theorem dX8_undo_70 : decode cX8_undo 70 = .ok (.istore_n 2, 1) := by decide +kernel
theorem dX8_undo_71 : decode cX8_undo 71 = .ok (.iload_n 2, 1) := by decide +kernel
theorem dX8_undo_72 : decode cX8_undo 72 = .ok (.aload_n 0, 1) := by decide +kernel
theorem dX8_undo_73 : decode cX8_undo 73 = .ok (.getfield 7, 3) := by decide +kernel
theorem dX8_undo_76 : decode cX8_undo 76 = .ok (.bipush 8, 2) := by decide +kernel
theorem dX8_undo_78 : decode cX8_undo 78 = .ok (.iaload, 1) := by decide +kernel
theorem dX8_undo_79 : decode cX8_undo 79 = .ok (.if_icmp .ge 30, 3) := by decide +kernel
theorem dX8_undo_82 : decode cX8_undo 82 = .ok (.aload_n 0, 1) := by decide +kernel
theorem dX8_undo_83 : decode cX8_undo 83 = .ok (.getfield 7, 3) := by decide +kernel
theorem dX8_undo_86 : decode cX8_undo 86 = .ok (.bipush 11, 2) := by decide +kernel
theorem dX8_undo_88 : decode cX8_undo 88 = .ok (.iconst 3, 1) := by decide +kernel
theorem dX8_undo_89 : decode cX8_undo 89 = .ok (.iload_n 2, 1) := by decide +kernel
theorem dX8_undo_90 : decode cX8_undo 90 = .ok (.imul, 1) := by decide +kernel
theorem dX8_undo_91 : decode cX8_undo 91 = .ok (.iadd, 1) := by decide +kernel
theorem dX8_undo_92 : decode cX8_undo 92 = .ok (.aload_n 0, 1) := by decide +kernel
theorem dX8_undo_93 : decode cX8_undo 93 = .ok (.getfield 7, 3) := by decide +kernel
theorem dX8_undo_96 : decode cX8_undo 96 = .ok (.iload_n 1, 1) := by decide +kernel
theorem dX8_undo_97 : decode cX8_undo 97 = .ok (.iconst 3, 1) := by decide +kernel
theorem dX8_undo_98 : decode cX8_undo 98 = .ok (.iadd, 1) := by decide +kernel
theorem dX8_undo_99 : decode cX8_undo 99 = .ok (.iload_n 2, 1) := by decide +kernel
theorem dX8_undo_100 : decode cX8_undo 100 = .ok (.iadd, 1) := by decide +kernel
theorem dX8_undo_101 : decode cX8_undo 101 = .ok (.iaload, 1) := by decide +kernel
theorem dX8_undo_102 : decode cX8_undo 102 = .ok (.iastore, 1) := by decide +kernel
theorem dX8_undo_103 : decode cX8_undo 103 = .ok (.iinc 2 1, 3) := by decide +kernel
theorem dX8_undo_106 : decode cX8_undo 106 = .ok (.goto (-35), 3) := by decide +kernel
theorem dX8_undo_109 : decode cX8_undo 109 = .ok (.aload_n 0, 1) := by decide +kernel
theorem dX8_undo_110 : decode cX8_undo 110 = .ok (.getfield 7, 3) := by decide +kernel
theorem dX8_undo_113 : decode cX8_undo 113 = .ok (.bipush 6, 2) := by decide +kernel
theorem dX8_undo_115 : decode cX8_undo 115 = .ok (.iaload, 1) := by decide +kernel
theorem dX8_undo_116 : decode cX8_undo 116 = .ok (.ireturn, 1) := by decide +kernel
theorem dX8_shows_0 : decode cX8_shows 0 = .ok (.aload_n 0, 1) := by decide +kernel
theorem dX8_shows_1 : decode cX8_shows 1 = .ok (.iload_n 1, 1) := by decide +kernel
theorem dX8_shows_2 : decode cX8_shows 2 = .ok (.invokevirtual 203, 3) := by decide +kernel
theorem dX8_shows_5 : decode cX8_shows 5 = .ok (.ifCond .eq 10, 3) := by decide +kernel
theorem dX8_shows_8 : decode cX8_shows 8 = .ok (.iload_n 2, 1) := by decide +kernel
theorem dX8_shows_9 : decode cX8_shows 9 = .ok (.invokestatic 105, 3) := by decide +kernel
theorem dX8_shows_12 : decode cX8_shows 12 = .ok (.ifCond .ne 8, 3) := by decide +kernel
theorem dX8_shows_15 : decode cX8_shows 15 = .ok (.aload_n 0, 1) := by decide +kernel
theorem dX8_shows_16 : decode cX8_shows 16 = .ok (.invokevirtual 101, 3) := by decide +kernel
theorem dX8_shows_19 : decode cX8_shows 19 = .ok (.ireturn, 1) := by decide +kernel
theorem dX8_shows_20 : decode cX8_shows 20 = .ok (.aload_n 0, 1) := by decide +kernel
theorem dX8_shows_21 : decode cX8_shows 21 = .ok (.getfield 7, 3) := by decide +kernel
theorem dX8_shows_24 : decode cX8_shows 24 = .ok (.iload_n 1, 1) := by decide +kernel
theorem dX8_shows_25 : decode cX8_shows 25 = .ok (.invokestatic 59, 3) := by decide +kernel
theorem dX8_shows_28 : decode cX8_shows 28 = .ok (.iconst (-1), 1) := by decide +kernel
theorem dX8_shows_29 : decode cX8_shows 29 = .ok (.if_icmp .ne 27, 3) := by decide +kernel
theorem dX8_shows_32 : decode cX8_shows 32 = .ok (.aload_n 0, 1) := by decide +kernel
theorem dX8_shows_33 : decode cX8_shows 33 = .ok (.getfield 7, 3) := by decide +kernel
theorem dX8_shows_36 : decode cX8_shows 36 = .ok (.iload_n 2, 1) := by decide +kernel
theorem dX8_shows_37 : decode cX8_shows 37 = .ok (.invokestatic 171, 3) := by decide +kernel
theorem dX8_shows_40 : decode cX8_shows 40 = .ok (.ifCond .eq 16, 3) := by decide +kernel
theorem dX8_shows_43 : decode cX8_shows 43 = .ok (.aload_n 0, 1) := by decide +kernel
theorem dX8_shows_44 : decode cX8_shows 44 = .ok (.getfield 7, 3) := by decide +kernel
theorem dX8_shows_47 : decode cX8_shows 47 = .ok (.bipush 6, 2) := by decide +kernel
theorem dX8_shows_49 : decode cX8_shows 49 = .ok (.iaload, 1) := by decide +kernel
theorem dX8_shows_50 : decode cX8_shows 50 = .ok (.sipush 9999, 3) := by decide +kernel
theorem dX8_shows_53 : decode cX8_shows 53 = .ok (.if_icmp .ne 8, 3) := by decide +kernel
theorem dX8_shows_56 : decode cX8_shows 56 = .ok (.aload_n 0, 1) := by decide +kernel
theorem dX8_shows_57 : decode cX8_shows 57 = .ok (.invokevirtual 200, 3) := by decide +kernel
theorem dX8_shows_60 : decode cX8_shows 60 = .ok (.ireturn, 1) := by decide +kernel
theorem dX8_shows_61 : decode cX8_shows 61 = .ok (.aload_n 0, 1) := by decide +kernel
theorem dX8_shows_62 : decode cX8_shows 62 = .ok (.invokevirtual 206, 3) := by decide +kernel
theorem dX8_shows_65 : decode cX8_shows 65 = .ok (.aload_n 0, 1) := by decide +kernel
theorem dX8_shows_66 : decode cX8_shows 66 = .ok (.getfield 7, 3) := by decide +kernel
theorem dX8_shows_69 : decode cX8_shows 69 = .ok (.iload_n 1, 1) := by decide +kernel
theorem dX8_shows_70 : decode cX8_shows 70 = .ok (.iload_n 2, 1) := by decide +kernel
theorem dX8_shows_71 : decode cX8_shows 71 = .ok (.invokestatic 182, 3) := by decide +kernel
theorem dX8_shows_74 : decode cX8_shows 74 = .ok (.ireturn, 1) := by decide +kernel
theorem dX8_moves_0 : decode cX8_moves 0 = .ok (.aload_n 0, 1) := by decide +kernel
theorem dX8_moves_1 : decode cX8_moves 1 = .ok (.iload_n 1, 1) := by decide +kernel
theorem dX8_moves_2 : decode cX8_moves 2 = .ok (.invokevirtual 203, 3) := by decide +kernel
theorem dX8_moves_5 : decode cX8_moves 5 = .ok (.ifCond .eq 10, 3) := by decide +kernel
theorem dX8_moves_8 : decode cX8_moves 8 = .ok (.iload_n 2, 1) := by decide +kernel
theorem dX8_moves_9 : decode cX8_moves 9 = .ok (.invokestatic 105, 3) := by decide +kernel
theorem dX8_moves_12 : decode cX8_moves 12 = .ok (.ifCond .ne 8, 3) := by decide +kernel
theorem dX8_moves_15 : decode cX8_moves 15 = .ok (.aload_n 0, 1) := by decide +kernel
theorem dX8_moves_16 : decode cX8_moves 16 = .ok (.invokevirtual 101, 3) := by decide +kernel
theorem dX8_moves_19 : decode cX8_moves 19 = .ok (.ireturn, 1) := by decide +kernel
theorem dX8_moves_20 : decode cX8_moves 20 = .ok (.aload_n 0, 1) := by decide +kernel
theorem dX8_moves_21 : decode cX8_moves 21 = .ok (.getfield 7, 3) := by decide +kernel
theorem dX8_moves_24 : decode cX8_moves 24 = .ok (.iload_n 1, 1) := by decide +kernel
theorem dX8_moves_25 : decode cX8_moves 25 = .ok (.invokestatic 59, 3) := by decide +kernel
theorem dX8_moves_28 : decode cX8_moves 28 = .ok (.iconst (-1), 1) := by decide +kernel
theorem dX8_moves_29 : decode cX8_moves 29 = .ok (.if_icmp .eq 27, 3) := by decide +kernel
theorem dX8_moves_32 : decode cX8_moves 32 = .ok (.aload_n 0, 1) := by decide +kernel
theorem dX8_moves_33 : decode cX8_moves 33 = .ok (.getfield 7, 3) := by decide +kernel
theorem dX8_moves_36 : decode cX8_moves 36 = .ok (.iload_n 2, 1) := by decide +kernel
theorem dX8_moves_37 : decode cX8_moves 37 = .ok (.invokestatic 171, 3) := by decide +kernel
theorem dX8_moves_40 : decode cX8_moves 40 = .ok (.ifCond .eq 16, 3) := by decide +kernel
theorem dX8_moves_43 : decode cX8_moves 43 = .ok (.aload_n 0, 1) := by decide +kernel
theorem dX8_moves_44 : decode cX8_moves 44 = .ok (.getfield 7, 3) := by decide +kernel
theorem dX8_moves_47 : decode cX8_moves 47 = .ok (.bipush 6, 2) := by decide +kernel
theorem dX8_moves_49 : decode cX8_moves 49 = .ok (.iaload, 1) := by decide +kernel
theorem dX8_moves_50 : decode cX8_moves 50 = .ok (.sipush 9999, 3) := by decide +kernel
theorem dX8_moves_53 : decode cX8_moves 53 = .ok (.if_icmp .ne 8, 3) := by decide +kernel
theorem dX8_moves_56 : decode cX8_moves 56 = .ok (.aload_n 0, 1) := by decide +kernel
theorem dX8_moves_57 : decode cX8_moves 57 = .ok (.invokevirtual 200, 3) := by decide +kernel
theorem dX8_moves_60 : decode cX8_moves 60 = .ok (.ireturn, 1) := by decide +kernel
theorem dX8_moves_61 : decode cX8_moves 61 = .ok (.aload_n 0, 1) := by decide +kernel
theorem dX8_moves_62 : decode cX8_moves 62 = .ok (.invokevirtual 206, 3) := by decide +kernel
theorem dX8_moves_65 : decode cX8_moves 65 = .ok (.aload_n 0, 1) := by decide +kernel
theorem dX8_moves_66 : decode cX8_moves 66 = .ok (.getfield 7, 3) := by decide +kernel
theorem dX8_moves_69 : decode cX8_moves 69 = .ok (.iload_n 1, 1) := by decide +kernel
theorem dX8_moves_70 : decode cX8_moves 70 = .ok (.iload_n 2, 1) := by decide +kernel
theorem dX8_moves_71 : decode cX8_moves 71 = .ok (.invokestatic 182, 3) := by decide +kernel
theorem dX8_moves_74 : decode cX8_moves 74 = .ok (.ireturn, 1) := by decide +kernel
theorem dX8_sends_0 : decode cX8_sends 0 = .ok (.aload_n 0, 1) := by decide +kernel
theorem dX8_sends_1 : decode cX8_sends 1 = .ok (.iload_n 1, 1) := by decide +kernel
theorem dX8_sends_2 : decode cX8_sends 2 = .ok (.invokevirtual 203, 3) := by decide +kernel
theorem dX8_sends_5 : decode cX8_sends 5 = .ok (.ifCond .ne 8, 3) := by decide +kernel
theorem dX8_sends_8 : decode cX8_sends 8 = .ok (.aload_n 0, 1) := by decide +kernel
theorem dX8_sends_9 : decode cX8_sends 9 = .ok (.invokevirtual 101, 3) := by decide +kernel
theorem dX8_sends_12 : decode cX8_sends 12 = .ok (.ireturn, 1) := by decide +kernel
theorem dX8_sends_13 : decode cX8_sends 13 = .ok (.aload_n 0, 1) := by decide +kernel
theorem dX8_sends_14 : decode cX8_sends 14 = .ok (.getfield 7, 3) := by decide +kernel
theorem dX8_sends_17 : decode cX8_sends 17 = .ok (.iload_n 1, 1) := by decide +kernel
theorem dX8_sends_18 : decode cX8_sends 18 = .ok (.invokestatic 59, 3) := by decide +kernel
theorem dX8_sends_21 : decode cX8_sends 21 = .ok (.iconst (-1), 1) := by decide +kernel
theorem dX8_sends_22 : decode cX8_sends 22 = .ok (.if_icmp .eq 16, 3) := by decide +kernel
theorem dX8_sends_25 : decode cX8_sends 25 = .ok (.aload_n 0, 1) := by decide +kernel
theorem dX8_sends_26 : decode cX8_sends 26 = .ok (.getfield 7, 3) := by decide +kernel
theorem dX8_sends_29 : decode cX8_sends 29 = .ok (.bipush 6, 2) := by decide +kernel
theorem dX8_sends_31 : decode cX8_sends 31 = .ok (.iaload, 1) := by decide +kernel
theorem dX8_sends_32 : decode cX8_sends 32 = .ok (.sipush 9999, 3) := by decide +kernel
theorem dX8_sends_35 : decode cX8_sends 35 = .ok (.if_icmp .ne 8, 3) := by decide +kernel
theorem dX8_sends_38 : decode cX8_sends 38 = .ok (.aload_n 0, 1) := by decide +kernel
theorem dX8_sends_39 : decode cX8_sends 39 = .ok (.invokevirtual 200, 3) := by decide +kernel
theorem dX8_sends_42 : decode cX8_sends 42 = .ok (.ireturn, 1) := by decide +kernel
theorem dX8_sends_43 : decode cX8_sends 43 = .ok (.aload_n 0, 1) := by decide +kernel
theorem dX8_sends_44 : decode cX8_sends 44 = .ok (.invokevirtual 206, 3) := by decide +kernel
theorem dX8_sends_47 : decode cX8_sends 47 = .ok (.aload_n 0, 1) := by decide +kernel
theorem dX8_sends_48 : decode cX8_sends 48 = .ok (.getfield 7, 3) := by decide +kernel
theorem dX8_sends_51 : decode cX8_sends 51 = .ok (.iload_n 1, 1) := by decide +kernel
theorem dX8_sends_52 : decode cX8_sends 52 = .ok (.iconst (-1), 1) := by decide +kernel
theorem dX8_sends_53 : decode cX8_sends 53 = .ok (.invokestatic 182, 3) := by decide +kernel
theorem dX8_sends_56 : decode cX8_sends 56 = .ok (.ireturn, 1) := by decide +kernel
theorem dX8_coat_0 : decode cX8_coat 0 = .ok (.iload_n 1, 1) := by decide +kernel
theorem dX8_coat_1 : decode cX8_coat 1 = .ok (.invokestatic 105, 3) := by decide +kernel
theorem dX8_coat_4 : decode cX8_coat 4 = .ok (.ifCond .eq 13, 3) := by decide +kernel
theorem dX8_coat_7 : decode cX8_coat 7 = .ok (.iload_n 2, 1) := by decide +kernel
theorem dX8_coat_8 : decode cX8_coat 8 = .ok (.i2l, 1) := by decide +kernel
theorem dX8_coat_9 : decode cX8_coat 9 = .ok (.lconst 0, 1) := by decide +kernel
theorem dX8_coat_10 : decode cX8_coat 10 = .ok (.lconst 1, 1) := by decide +kernel
theorem dX8_coat_11 : decode cX8_coat 11 = .ok (.invokestatic 46, 3) := by decide +kernel
theorem dX8_coat_14 : decode cX8_coat 14 = .ok (.ifCond .ne 8, 3) := by decide +kernel
theorem dX8_coat_17 : decode cX8_coat 17 = .ok (.aload_n 0, 1) := by decide +kernel
theorem dX8_coat_18 : decode cX8_coat 18 = .ok (.invokevirtual 101, 3) := by decide +kernel
theorem dX8_coat_21 : decode cX8_coat 21 = .ok (.ireturn, 1) := by decide +kernel
theorem dX8_coat_22 : decode cX8_coat 22 = .ok (.aload_n 0, 1) := by decide +kernel
theorem dX8_coat_23 : decode cX8_coat 23 = .ok (.getfield 7, 3) := by decide +kernel
theorem dX8_coat_26 : decode cX8_coat 26 = .ok (.iconst 5, 1) := by decide +kernel
theorem dX8_coat_27 : decode cX8_coat 27 = .ok (.iaload, 1) := by decide +kernel
theorem dX8_coat_28 : decode cX8_coat 28 = .ok (.iload_n 1, 1) := by decide +kernel
theorem dX8_coat_29 : decode cX8_coat 29 = .ok (.invokestatic 66, 3) := by decide +kernel
theorem dX8_coat_32 : decode cX8_coat 32 = .ok (.iload_n 2, 1) := by decide +kernel
theorem dX8_coat_33 : decode cX8_coat 33 = .ok (.iconst 1, 1) := by decide +kernel
theorem dX8_coat_34 : decode cX8_coat 34 = .ok (.if_icmp .ne 7, 3) := by decide +kernel
theorem dX8_coat_37 : decode cX8_coat 37 = .ok (.iconst 1, 1) := by decide +kernel
theorem dX8_coat_38 : decode cX8_coat 38 = .ok (.goto 4, 3) := by decide +kernel
theorem dX8_coat_41 : decode cX8_coat 41 = .ok (.iconst 0, 1) := by decide +kernel
theorem dX8_coat_42 : decode cX8_coat 42 = .ok (.if_icmp .eq 15, 3) := by decide +kernel
theorem dX8_coat_45 : decode cX8_coat 45 = .ok (.aload_n 0, 1) := by decide +kernel
theorem dX8_coat_46 : decode cX8_coat 46 = .ok (.getfield 7, 3) := by decide +kernel
theorem dX8_coat_49 : decode cX8_coat 49 = .ok (.iload_n 1, 1) := by decide +kernel
theorem dX8_coat_50 : decode cX8_coat 50 = .ok (.invokestatic 63, 3) := by decide +kernel
theorem dX8_coat_53 : decode cX8_coat 53 = .ok (.iconst (-1), 1) := by decide +kernel
theorem dX8_coat_54 : decode cX8_coat 54 = .ok (.if_icmp .eq 8, 3) := by decide +kernel
theorem dX8_coat_57 : decode cX8_coat 57 = .ok (.aload_n 0, 1) := by decide +kernel
theorem dX8_coat_58 : decode cX8_coat 58 = .ok (.invokevirtual 200, 3) := by decide +kernel
theorem dX8_coat_61 : decode cX8_coat 61 = .ok (.ireturn, 1) := by decide +kernel
theorem dX8_coat_62 : decode cX8_coat 62 = .ok (.aload_n 0, 1) := by decide +kernel
theorem dX8_coat_63 : decode cX8_coat 63 = .ok (.invokevirtual 206, 3) := by decide +kernel
theorem dX8_coat_66 : decode cX8_coat 66 = .ok (.aload_n 0, 1) := by decide +kernel
theorem dX8_coat_67 : decode cX8_coat 67 = .ok (.getfield 7, 3) := by decide +kernel
theorem dX8_coat_70 : decode cX8_coat 70 = .ok (.iconst 5, 1) := by decide +kernel
theorem dX8_coat_71 : decode cX8_coat 71 = .ok (.dup2, 1) := by decide +kernel
theorem dX8_coat_72 : decode cX8_coat 72 = .ok (.iaload, 1) := by decide +kernel
theorem dX8_coat_73 : decode cX8_coat 73 = .ok (.iconst 1, 1) := by decide +kernel
theorem dX8_coat_74 : decode cX8_coat 74 = .ok (.iload_n 1, 1) := by decide +kernel
theorem dX8_coat_75 : decode cX8_coat 75 = .ok (.ishl, 1) := by decide +kernel
theorem dX8_coat_76 : decode cX8_coat 76 = .ok (.ixor, 1) := by decide +kernel
theorem dX8_coat_77 : decode cX8_coat 77 = .ok (.iastore, 1) := by decide +kernel
theorem dX8_coat_78 : decode cX8_coat 78 = .ok (.iconst 1, 1) := by decide +kernel
theorem dX8_coat_79 : decode cX8_coat 79 = .ok (.ireturn, 1) := by decide +kernel
theorem dX8_minutes_0 : decode cX8_minutes 0 = .ok (.iload_n 1, 1) := by decide +kernel
theorem dX8_minutes_1 : decode cX8_minutes 1 = .ok (.i2l, 1) := by decide +kernel
theorem dX8_minutes_2 : decode cX8_minutes 2 = .ok (.lconst 1, 1) := by decide +kernel
theorem dX8_minutes_3 : decode cX8_minutes 3 = .ok (.ldc2_w 209, 3) := by decide +kernel
theorem dX8_minutes_6 : decode cX8_minutes 6 = .ok (.invokestatic 46, 3) := by decide +kernel
theorem dX8_minutes_9 : decode cX8_minutes 9 = .ok (.ifCond .ne 8, 3) := by decide +kernel
theorem dX8_minutes_12 : decode cX8_minutes 12 = .ok (.aload_n 0, 1) := by decide +kernel
theorem dX8_minutes_13 : decode cX8_minutes 13 = .ok (.invokevirtual 101, 3) := by decide +kernel
theorem dX8_minutes_16 : decode cX8_minutes 16 = .ok (.ireturn, 1) := by decide +kernel
theorem dX8_minutes_17 : decode cX8_minutes 17 = .ok (.aload_n 0, 1) := by decide +kernel
theorem dX8_minutes_18 : decode cX8_minutes 18 = .ok (.invokevirtual 206, 3) := by decide +kernel
theorem dX8_minutes_21 : decode cX8_minutes 21 = .ok (.aload_n 0, 1) := by decide +kernel
theorem dX8_minutes_22 : decode cX8_minutes 22 = .ok (.getfield 7, 3) := by decide +kernel
theorem dX8_minutes_25 : decode cX8_minutes 25 = .ok (.bipush 6, 2) := by decide +kernel
theorem dX8_minutes_27 : decode cX8_minutes 27 = .ok (.aload_n 0, 1) := by decide +kernel
theorem dX8_minutes_28 : decode cX8_minutes 28 = .ok (.getfield 7, 3) := by decide +kernel
theorem dX8_minutes_31 : decode cX8_minutes 31 = .ok (.bipush 6, 2) := by decide +kernel
theorem dX8_minutes_33 : decode cX8_minutes 33 = .ok (.iaload, 1) := by decide +kernel
theorem dX8_minutes_34 : decode cX8_minutes 34 = .ok (.iload_n 1, 1) := by decide +kernel
theorem dX8_minutes_35 : decode cX8_minutes 35 = .ok (.iadd, 1) := by decide +kernel
theorem dX8_minutes_36 : decode cX8_minutes 36 = .ok (.sipush 9999, 3) := by decide +kernel
theorem dX8_minutes_39 : decode cX8_minutes 39 = .ok (.if_icmp .le 9, 3) := by decide +kernel
theorem dX8_minutes_42 : decode cX8_minutes 42 = .ok (.sipush 9999, 3) := by decide +kernel
theorem dX8_minutes_45 : decode cX8_minutes 45 = .ok (.goto 12, 3) := by decide +kernel
theorem dX8_minutes_48 : decode cX8_minutes 48 = .ok (.aload_n 0, 1) := by decide +kernel
theorem dX8_minutes_49 : decode cX8_minutes 49 = .ok (.getfield 7, 3) := by decide +kernel
theorem dX8_minutes_52 : decode cX8_minutes 52 = .ok (.bipush 6, 2) := by decide +kernel
theorem dX8_minutes_54 : decode cX8_minutes 54 = .ok (.iaload, 1) := by decide +kernel
theorem dX8_minutes_55 : decode cX8_minutes 55 = .ok (.iload_n 1, 1) := by decide +kernel
theorem dX8_minutes_56 : decode cX8_minutes 56 = .ok (.iadd, 1) := by decide +kernel
theorem dX8_minutes_57 : decode cX8_minutes 57 = .ok (.iastore, 1) := by decide +kernel
theorem dX8_minutes_58 : decode cX8_minutes 58 = .ok (.aload_n 0, 1) := by decide +kernel
theorem dX8_minutes_59 : decode cX8_minutes 59 = .ok (.getfield 7, 3) := by decide +kernel
theorem dX8_minutes_62 : decode cX8_minutes 62 = .ok (.bipush 6, 2) := by decide +kernel
theorem dX8_minutes_64 : decode cX8_minutes 64 = .ok (.iaload, 1) := by decide +kernel
theorem dX8_minutes_65 : decode cX8_minutes 65 = .ok (.ireturn, 1) := by decide +kernel
theorem dX8_of_0 : decode cX8_of 0 = .ok (.aload_n 0, 1) := by decide +kernel
theorem dX8_of_1 : decode cX8_of 1 = .ok (.iload_n 1, 1) := by decide +kernel
theorem dX8_of_2 : decode cX8_of 2 = .ok (.invokevirtual 203, 3) := by decide +kernel
theorem dX8_of_5 : decode cX8_of 5 = .ok (.ifCond .eq 15, 3) := by decide +kernel
theorem dX8_of_8 : decode cX8_of 8 = .ok (.iload_n 2, 1) := by decide +kernel
theorem dX8_of_9 : decode cX8_of 9 = .ok (.i2l, 1) := by decide +kernel
theorem dX8_of_10 : decode cX8_of 10 = .ok (.lconst 0, 1) := by decide +kernel
theorem dX8_of_11 : decode cX8_of 11 = .ok (.ldc2_w 211, 3) := by decide +kernel
theorem dX8_of_14 : decode cX8_of 14 = .ok (.invokestatic 46, 3) := by decide +kernel
theorem dX8_of_17 : decode cX8_of 17 = .ok (.ifCond .ne 8, 3) := by decide +kernel
theorem dX8_of_20 : decode cX8_of 20 = .ok (.aload_n 0, 1) := by decide +kernel
theorem dX8_of_21 : decode cX8_of 21 = .ok (.invokevirtual 101, 3) := by decide +kernel
theorem dX8_of_24 : decode cX8_of 24 = .ok (.ireturn, 1) := by decide +kernel
theorem dX8_of_25 : decode cX8_of 25 = .ok (.iload_n 2, 1) := by decide +kernel
theorem dX8_of_26 : decode cX8_of 26 = .ok (.iconst 2, 1) := by decide +kernel
theorem dX8_of_27 : decode cX8_of 27 = .ok (.if_icmp .ge 15, 3) := by decide +kernel
theorem dX8_of_30 : decode cX8_of 30 = .ok (.aload_n 0, 1) := by decide +kernel
theorem dX8_of_31 : decode cX8_of 31 = .ok (.getfield 7, 3) := by decide +kernel
theorem dX8_of_34 : decode cX8_of 34 = .ok (.iload_n 1, 1) := by decide +kernel
theorem dX8_of_35 : decode cX8_of 35 = .ok (.iload_n 2, 1) := by decide +kernel
theorem dX8_of_36 : decode cX8_of 36 = .ok (.invokestatic 55, 3) := by decide +kernel
theorem dX8_of_39 : decode cX8_of 39 = .ok (.goto 11, 3) := by decide +kernel
theorem dX8_of_42 : decode cX8_of 42 = .ok (.aload_n 0, 1) := by decide +kernel
theorem dX8_of_43 : decode cX8_of 43 = .ok (.getfield 7, 3) := by decide +kernel
theorem dX8_of_46 : decode cX8_of 46 = .ok (.iload_n 1, 1) := by decide +kernel
theorem dX8_of_47 : decode cX8_of 47 = .ok (.invokestatic 59, 3) := by decide +kernel
theorem dX8_of_50 : decode cX8_of 50 = .ok (.ireturn, 1) := by decide +kernel
theorem dX8_about_0 : decode cX8_about 0 = .ok (.iload_n 1, 1) := by decide +kernel
theorem dX8_about_1 : decode cX8_about 1 = .ok (.invokestatic 105, 3) := by decide +kernel
theorem dX8_about_4 : decode cX8_about 4 = .ok (.ifCond .ne 8, 3) := by decide +kernel
theorem dX8_about_7 : decode cX8_about 7 = .ok (.aload_n 0, 1) := by decide +kernel
theorem dX8_about_8 : decode cX8_about 8 = .ok (.invokevirtual 101, 3) := by decide +kernel
theorem dX8_about_11 : decode cX8_about 11 = .ok (.ireturn, 1) := by decide +kernel
theorem dX8_about_12 : decode cX8_about 12 = .ok (.iload_n 2, 1) := by decide +kernel
theorem dX8_about_13 : decode cX8_about 13 = .ok (.tableswitch 92 0 4 #[35, 45, 54, 73, 83], 35) := by decide +kernel
theorem dX8_about_48 : decode cX8_about 48 = .ok (.aload_n 0, 1) := by decide +kernel
theorem dX8_about_49 : decode cX8_about 49 = .ok (.getfield 7, 3) := by decide +kernel
theorem dX8_about_52 : decode cX8_about 52 = .ok (.iload_n 1, 1) := by decide +kernel
theorem dX8_about_53 : decode cX8_about 53 = .ok (.bipush 6, 2) := by decide +kernel
theorem dX8_about_55 : decode cX8_about 55 = .ok (.idiv, 1) := by decide +kernel
theorem dX8_about_56 : decode cX8_about 56 = .ok (.iaload, 1) := by decide +kernel
theorem dX8_about_57 : decode cX8_about 57 = .ok (.ireturn, 1) := by decide +kernel
theorem dX8_about_58 : decode cX8_about 58 = .ok (.aload_n 0, 1) := by decide +kernel
theorem dX8_about_59 : decode cX8_about 59 = .ok (.getfield 7, 3) := by decide +kernel
theorem dX8_about_62 : decode cX8_about 62 = .ok (.iload_n 1, 1) := by decide +kernel
theorem dX8_about_63 : decode cX8_about 63 = .ok (.invokestatic 63, 3) := by decide +kernel
theorem dX8_about_66 : decode cX8_about 66 = .ok (.ireturn, 1) := by decide +kernel
theorem dX8_about_67 : decode cX8_about 67 = .ok (.aload_n 0, 1) := by decide +kernel
theorem dX8_about_68 : decode cX8_about 68 = .ok (.getfield 7, 3) := by decide +kernel
theorem dX8_about_71 : decode cX8_about 71 = .ok (.iconst 5, 1) := by decide +kernel
theorem dX8_about_72 : decode cX8_about 72 = .ok (.iaload, 1) := by decide +kernel
theorem dX8_about_73 : decode cX8_about 73 = .ok (.iload_n 1, 1) := by decide +kernel
theorem dX8_about_74 : decode cX8_about 74 = .ok (.invokestatic 66, 3) := by decide +kernel
theorem dX8_about_77 : decode cX8_about 77 = .ok (.ifCond .eq 7, 3) := by decide +kernel
theorem dX8_about_80 : decode cX8_about 80 = .ok (.iconst 1, 1) := by decide +kernel
theorem dX8_about_81 : decode cX8_about 81 = .ok (.goto 4, 3) := by decide +kernel
theorem dX8_about_84 : decode cX8_about 84 = .ok (.iconst 0, 1) := by decide +kernel
theorem dX8_about_85 : decode cX8_about 85 = .ok (.ireturn, 1) := by decide +kernel
theorem dX8_about_86 : decode cX8_about 86 = .ok (.aload_n 0, 1) := by decide +kernel
theorem dX8_about_87 : decode cX8_about 87 = .ok (.getfield 7, 3) := by decide +kernel
theorem dX8_about_90 : decode cX8_about 90 = .ok (.iload_n 1, 1) := by decide +kernel
theorem dX8_about_91 : decode cX8_about 91 = .ok (.iconst (-1), 1) := by decide +kernel
theorem dX8_about_92 : decode cX8_about 92 = .ok (.invokestatic 70, 3) := by decide +kernel
theorem dX8_about_95 : decode cX8_about 95 = .ok (.ireturn, 1) := by decide +kernel
theorem dX8_about_96 : decode cX8_about 96 = .ok (.aload_n 0, 1) := by decide +kernel
theorem dX8_about_97 : decode cX8_about 97 = .ok (.getfield 7, 3) := by decide +kernel
theorem dX8_about_100 : decode cX8_about 100 = .ok (.iload_n 1, 1) := by decide +kernel
theorem dX8_about_101 : decode cX8_about 101 = .ok (.invokestatic 213, 3) := by decide +kernel
theorem dX8_about_104 : decode cX8_about 104 = .ok (.ireturn, 1) := by decide +kernel
theorem dX8_about_105 : decode cX8_about 105 = .ok (.aload_n 0, 1) := by decide +kernel
theorem dX8_about_106 : decode cX8_about 106 = .ok (.invokevirtual 101, 3) := by decide +kernel
theorem dX8_about_109 : decode cX8_about 109 = .ok (.ireturn, 1) := by decide +kernel
theorem dX8_isOut_0 : decode cX8_isOut 0 = .ok (.aload_n 0, 1) := by decide +kernel
theorem dX8_isOut_1 : decode cX8_isOut 1 = .ok (.getfield 7, 3) := by decide +kernel
theorem dX8_isOut_4 : decode cX8_isOut 4 = .ok (.iload_n 1, 1) := by decide +kernel
theorem dX8_isOut_5 : decode cX8_isOut 5 = .ok (.invokestatic 59, 3) := by decide +kernel
theorem dX8_isOut_8 : decode cX8_isOut 8 = .ok (.iconst (-1), 1) := by decide +kernel
theorem dX8_isOut_9 : decode cX8_isOut 9 = .ok (.if_icmp .ne 7, 3) := by decide +kernel
theorem dX8_isOut_12 : decode cX8_isOut 12 = .ok (.iconst 1, 1) := by decide +kernel
theorem dX8_isOut_13 : decode cX8_isOut 13 = .ok (.goto 4, 3) := by decide +kernel
theorem dX8_isOut_16 : decode cX8_isOut 16 = .ok (.iconst 0, 1) := by decide +kernel
theorem dX8_isOut_17 : decode cX8_isOut 17 = .ok (.ireturn, 1) := by decide +kernel
theorem dX8_makes_0 : decode cX8_makes 0 = .ok (.aload_n 0, 1) := by decide +kernel
theorem dX8_makes_1 : decode cX8_makes 1 = .ok (.iload_n 1, 1) := by decide +kernel
theorem dX8_makes_2 : decode cX8_makes 2 = .ok (.invokevirtual 203, 3) := by decide +kernel
theorem dX8_makes_5 : decode cX8_makes 5 = .ok (.ifCond .eq 10, 3) := by decide +kernel
theorem dX8_makes_8 : decode cX8_makes 8 = .ok (.iload_n 2, 1) := by decide +kernel
theorem dX8_makes_9 : decode cX8_makes 9 = .ok (.invokestatic 105, 3) := by decide +kernel
theorem dX8_makes_12 : decode cX8_makes 12 = .ok (.ifCond .ne 8, 3) := by decide +kernel
theorem dX8_makes_15 : decode cX8_makes 15 = .ok (.aload_n 0, 1) := by decide +kernel
theorem dX8_makes_16 : decode cX8_makes 16 = .ok (.invokevirtual 101, 3) := by decide +kernel
theorem dX8_makes_19 : decode cX8_makes 19 = .ok (.ireturn, 1) := by decide +kernel
theorem dX8_makes_20 : decode cX8_makes 20 = .ok (.aload_n 0, 1) := by decide +kernel
theorem dX8_makes_21 : decode cX8_makes 21 = .ok (.iload_n 1, 1) := by decide +kernel
theorem dX8_makes_22 : decode cX8_makes 22 = .ok (.invokevirtual 216, 3) := by decide +kernel
theorem dX8_makes_25 : decode cX8_makes 25 = .ok (.ifCond .eq 15, 3) := by decide +kernel
theorem dX8_makes_28 : decode cX8_makes 28 = .ok (.aload_n 0, 1) := by decide +kernel
theorem dX8_makes_29 : decode cX8_makes 29 = .ok (.getfield 7, 3) := by decide +kernel
theorem dX8_makes_32 : decode cX8_makes 32 = .ok (.iload_n 1, 1) := by decide +kernel
theorem dX8_makes_33 : decode cX8_makes 33 = .ok (.iload_n 2, 1) := by decide +kernel
theorem dX8_makes_34 : decode cX8_makes 34 = .ok (.invokestatic 82, 3) := by decide +kernel
theorem dX8_makes_37 : decode cX8_makes 37 = .ok (.goto 7, 3) := by decide +kernel
theorem dX8_makes_40 : decode cX8_makes 40 = .ok (.aload_n 0, 1) := by decide +kernel
theorem dX8_makes_41 : decode cX8_makes 41 = .ok (.invokevirtual 200, 3) := by decide +kernel
theorem dX8_makes_44 : decode cX8_makes 44 = .ok (.ireturn, 1) := by decide +kernel
theorem dX8_nextOrder_0 : decode cX8_nextOrder 0 = .ok (.iload_n 1, 1) := by decide +kernel
theorem dX8_nextOrder_1 : decode cX8_nextOrder 1 = .ok (.iconst 2, 1) := by decide +kernel
theorem dX8_nextOrder_2 : decode cX8_nextOrder 2 = .ok (.isub, 1) := by decide +kernel
theorem dX8_nextOrder_3 : decode cX8_nextOrder 3 = .ok (.istore_n 2, 1) := by decide +kernel
theorem dX8_nextOrder_4 : decode cX8_nextOrder 4 = .ok (.iload_n 2, 1) := by decide +kernel
theorem dX8_nextOrder_5 : decode cX8_nextOrder 5 = .ok (.ifCond .lt 26, 3) := by decide +kernel
theorem dX8_nextOrder_8 : decode cX8_nextOrder 8 = .ok (.aload_n 0, 1) := by decide +kernel
theorem dX8_nextOrder_9 : decode cX8_nextOrder 9 = .ok (.getfield 37, 3) := by decide +kernel
theorem dX8_nextOrder_12 : decode cX8_nextOrder 12 = .ok (.iload_n 2, 1) := by decide +kernel
theorem dX8_nextOrder_13 : decode cX8_nextOrder 13 = .ok (.iaload, 1) := by decide +kernel
theorem dX8_nextOrder_14 : decode cX8_nextOrder 14 = .ok (.aload_n 0, 1) := by decide +kernel
theorem dX8_nextOrder_15 : decode cX8_nextOrder 15 = .ok (.getfield 37, 3) := by decide +kernel
theorem dX8_nextOrder_18 : decode cX8_nextOrder 18 = .ok (.iload_n 2, 1) := by decide +kernel
theorem dX8_nextOrder_19 : decode cX8_nextOrder 19 = .ok (.iconst 1, 1) := by decide +kernel
theorem dX8_nextOrder_20 : decode cX8_nextOrder 20 = .ok (.iadd, 1) := by decide +kernel
theorem dX8_nextOrder_21 : decode cX8_nextOrder 21 = .ok (.iaload, 1) := by decide +kernel
theorem dX8_nextOrder_22 : decode cX8_nextOrder 22 = .ok (.if_icmp .le 9, 3) := by decide +kernel
theorem dX8_nextOrder_25 : decode cX8_nextOrder 25 = .ok (.iinc 2 (-1), 3) := by decide +kernel
theorem dX8_nextOrder_28 : decode cX8_nextOrder 28 = .ok (.goto (-24), 3) := by decide +kernel
theorem dX8_nextOrder_31 : decode cX8_nextOrder 31 = .ok (.iload_n 2, 1) := by decide +kernel
theorem dX8_nextOrder_32 : decode cX8_nextOrder 32 = .ok (.ifCond .ge 5, 3) := by decide +kernel
theorem dX8_nextOrder_35 : decode cX8_nextOrder 35 = .ok (.iconst 0, 1) := by decide +kernel
theorem dX8_nextOrder_36 : decode cX8_nextOrder 36 = .ok (.ireturn, 1) := by decide +kernel
theorem dX8_nextOrder_37 : decode cX8_nextOrder 37 = .ok (.iload_n 1, 1) := by decide +kernel
theorem dX8_nextOrder_38 : decode cX8_nextOrder 38 = .ok (.iconst 1, 1) := by decide +kernel
theorem dX8_nextOrder_39 : decode cX8_nextOrder 39 = .ok (.isub, 1) := by decide +kernel
theorem dX8_nextOrder_40 : decode cX8_nextOrder 40 = .ok (.istore_n 3, 1) := by decide +kernel
theorem dX8_nextOrder_41 : decode cX8_nextOrder 41 = .ok (.aload_n 0, 1) := by decide +kernel
theorem dX8_nextOrder_42 : decode cX8_nextOrder 42 = .ok (.getfield 37, 3) := by decide +kernel
theorem dX8_nextOrder_45 : decode cX8_nextOrder 45 = .ok (.iload_n 3, 1) := by decide +kernel
theorem dX8_nextOrder_46 : decode cX8_nextOrder 46 = .ok (.iaload, 1) := by decide +kernel
theorem dX8_nextOrder_47 : decode cX8_nextOrder 47 = .ok (.aload_n 0, 1) := by decide +kernel
theorem dX8_nextOrder_48 : decode cX8_nextOrder 48 = .ok (.getfield 37, 3) := by decide +kernel
theorem dX8_nextOrder_51 : decode cX8_nextOrder 51 = .ok (.iload_n 2, 1) := by decide +kernel
theorem dX8_nextOrder_52 : decode cX8_nextOrder 52 = .ok (.iaload, 1) := by decide +kernel
theorem dX8_nextOrder_53 : decode cX8_nextOrder 53 = .ok (.if_icmp .ge 9, 3) := by decide +kernel
theorem dX8_nextOrder_56 : decode cX8_nextOrder 56 = .ok (.iinc 3 (-1), 3) := by decide +kernel
theorem dX8_nextOrder_59 : decode cX8_nextOrder 59 = .ok (.goto (-18), 3) := by decide +kernel
theorem dX8_nextOrder_62 : decode cX8_nextOrder 62 = .ok (.aload_n 0, 1) := by decide +kernel
theorem dX8_nextOrder_63 : decode cX8_nextOrder 63 = .ok (.getfield 37, 3) := by decide +kernel
theorem dX8_nextOrder_66 : decode cX8_nextOrder 66 = .ok (.iload_n 2, 1) := by decide +kernel
theorem dX8_nextOrder_67 : decode cX8_nextOrder 67 = .ok (.iaload, 1) := by decide +kernel
theorem dX8_nextOrder_68 : decode cX8_nextOrder 68 = .ok (.istore 4, 2) := by decide +kernel
theorem dX8_nextOrder_70 : decode cX8_nextOrder 70 = .ok (.aload_n 0, 1) := by decide +kernel
theorem dX8_nextOrder_71 : decode cX8_nextOrder 71 = .ok (.getfield 37, 3) := by decide +kernel
theorem dX8_nextOrder_74 : decode cX8_nextOrder 74 = .ok (.iload_n 2, 1) := by decide +kernel
theorem dX8_nextOrder_75 : decode cX8_nextOrder 75 = .ok (.aload_n 0, 1) := by decide +kernel
theorem dX8_nextOrder_76 : decode cX8_nextOrder 76 = .ok (.getfield 37, 3) := by decide +kernel
theorem dX8_nextOrder_79 : decode cX8_nextOrder 79 = .ok (.iload_n 3, 1) := by decide +kernel
theorem dX8_nextOrder_80 : decode cX8_nextOrder 80 = .ok (.iaload, 1) := by decide +kernel
theorem dX8_nextOrder_81 : decode cX8_nextOrder 81 = .ok (.iastore, 1) := by decide +kernel
theorem dX8_nextOrder_82 : decode cX8_nextOrder 82 = .ok (.aload_n 0, 1) := by decide +kernel
theorem dX8_nextOrder_83 : decode cX8_nextOrder 83 = .ok (.getfield 37, 3) := by decide +kernel
theorem dX8_nextOrder_86 : decode cX8_nextOrder 86 = .ok (.iload_n 3, 1) := by decide +kernel
theorem dX8_nextOrder_87 : decode cX8_nextOrder 87 = .ok (.iload 4, 2) := by decide +kernel
theorem dX8_nextOrder_89 : decode cX8_nextOrder 89 = .ok (.iastore, 1) := by decide +kernel
theorem dX8_nextOrder_90 : decode cX8_nextOrder 90 = .ok (.iload_n 2, 1) := by decide +kernel
theorem dX8_nextOrder_91 : decode cX8_nextOrder 91 = .ok (.iconst 1, 1) := by decide +kernel
theorem dX8_nextOrder_92 : decode cX8_nextOrder 92 = .ok (.iadd, 1) := by decide +kernel
theorem dX8_nextOrder_93 : decode cX8_nextOrder 93 = .ok (.istore 5, 2) := by decide +kernel
theorem dX8_nextOrder_95 : decode cX8_nextOrder 95 = .ok (.iload_n 1, 1) := by decide +kernel
theorem dX8_nextOrder_96 : decode cX8_nextOrder 96 = .ok (.iconst 1, 1) := by decide +kernel
theorem dX8_nextOrder_97 : decode cX8_nextOrder 97 = .ok (.isub, 1) := by decide +kernel
theorem dX8_nextOrder_98 : decode cX8_nextOrder 98 = .ok (.istore 6, 2) := by decide +kernel
theorem dX8_nextOrder_100 : decode cX8_nextOrder 100 = .ok (.iload 6, 2) := by decide +kernel
theorem dX8_nextOrder_102 : decode cX8_nextOrder 102 = .ok (.iload 5, 2) := by decide +kernel
theorem dX8_nextOrder_104 : decode cX8_nextOrder 104 = .ok (.if_icmp .le 44, 3) := by decide +kernel
theorem dX8_nextOrder_107 : decode cX8_nextOrder 107 = .ok (.aload_n 0, 1) := by decide +kernel
theorem dX8_nextOrder_108 : decode cX8_nextOrder 108 = .ok (.getfield 37, 3) := by decide +kernel
theorem dX8_nextOrder_111 : decode cX8_nextOrder 111 = .ok (.iload 5, 2) := by decide +kernel
theorem dX8_nextOrder_113 : decode cX8_nextOrder 113 = .ok (.iaload, 1) := by decide +kernel
theorem dX8_nextOrder_114 : decode cX8_nextOrder 114 = .ok (.istore 4, 2) := by decide +kernel
theorem dX8_nextOrder_116 : decode cX8_nextOrder 116 = .ok (.aload_n 0, 1) := by decide +kernel
theorem dX8_nextOrder_117 : decode cX8_nextOrder 117 = .ok (.getfield 37, 3) := by decide +kernel
theorem dX8_nextOrder_120 : decode cX8_nextOrder 120 = .ok (.iload 5, 2) := by decide +kernel
theorem dX8_nextOrder_122 : decode cX8_nextOrder 122 = .ok (.aload_n 0, 1) := by decide +kernel
theorem dX8_nextOrder_123 : decode cX8_nextOrder 123 = .ok (.getfield 37, 3) := by decide +kernel
theorem dX8_nextOrder_126 : decode cX8_nextOrder 126 = .ok (.iload 6, 2) := by decide +kernel
theorem dX8_nextOrder_128 : decode cX8_nextOrder 128 = .ok (.iaload, 1) := by decide +kernel
theorem dX8_nextOrder_129 : decode cX8_nextOrder 129 = .ok (.iastore, 1) := by decide +kernel
theorem dX8_nextOrder_130 : decode cX8_nextOrder 130 = .ok (.aload_n 0, 1) := by decide +kernel
theorem dX8_nextOrder_131 : decode cX8_nextOrder 131 = .ok (.getfield 37, 3) := by decide +kernel
theorem dX8_nextOrder_134 : decode cX8_nextOrder 134 = .ok (.iload 6, 2) := by decide +kernel
theorem dX8_nextOrder_136 : decode cX8_nextOrder 136 = .ok (.iload 4, 2) := by decide +kernel
theorem dX8_nextOrder_138 : decode cX8_nextOrder 138 = .ok (.iastore, 1) := by decide +kernel
theorem dX8_nextOrder_139 : decode cX8_nextOrder 139 = .ok (.iinc 5 1, 3) := by decide +kernel
theorem dX8_nextOrder_142 : decode cX8_nextOrder 142 = .ok (.iinc 6 (-1), 3) := by decide +kernel
theorem dX8_nextOrder_145 : decode cX8_nextOrder 145 = .ok (.goto (-45), 3) := by decide +kernel
theorem dX8_nextOrder_148 : decode cX8_nextOrder 148 = .ok (.iconst 1, 1) := by decide +kernel
theorem dX8_nextOrder_149 : decode cX8_nextOrder 149 = .ok (.ireturn, 1) := by decide +kernel
theorem dX8_layTried_0 : decode cX8_layTried 0 = .ok (.iconst 0, 1) := by decide +kernel
theorem dX8_layTried_1 : decode cX8_layTried 1 = .ok (.istore_n 1, 1) := by decide +kernel
theorem dX8_layTried_2 : decode cX8_layTried 2 = .ok (.iconst 0, 1) := by decide +kernel
theorem dX8_layTried_3 : decode cX8_layTried 3 = .ok (.istore_n 2, 1) := by decide +kernel
theorem dX8_layTried_4 : decode cX8_layTried 4 = .ok (.iload_n 2, 1) := by decide +kernel
theorem dX8_layTried_5 : decode cX8_layTried 5 = .ok (.aload_n 0, 1) := by decide +kernel
theorem dX8_layTried_6 : decode cX8_layTried 6 = .ok (.getfield 7, 3) := by decide +kernel
theorem dX8_layTried_9 : decode cX8_layTried 9 = .ok (.bipush 8, 2) := by decide +kernel
theorem dX8_layTried_11 : decode cX8_layTried 11 = .ok (.iaload, 1) := by decide +kernel
theorem dX8_layTried_12 : decode cX8_layTried 12 = .ok (.if_icmp .ge 108, 3) := by decide +kernel
theorem dX8_layTried_15 : decode cX8_layTried 15 = .ok (.aload_n 0, 1) := by decide +kernel
theorem dX8_layTried_16 : decode cX8_layTried 16 = .ok (.iload_n 2, 1) := by decide +kernel
theorem dX8_layTried_17 : decode cX8_layTried 17 = .ok (.invokevirtual 216, 3) := by decide +kernel
theorem dX8_layTried_20 : decode cX8_layTried 20 = .ok (.ifCond .eq 26, 3) := by decide +kernel
theorem dX8_layTried_23 : decode cX8_layTried 23 = .ok (.aload_n 0, 1) := by decide +kernel
theorem dX8_layTried_24 : decode cX8_layTried 24 = .ok (.getfield 7, 3) := by decide +kernel
theorem dX8_layTried_27 : decode cX8_layTried 27 = .ok (.aload_n 0, 1) := by decide +kernel
theorem dX8_layTried_28 : decode cX8_layTried 28 = .ok (.getfield 7, 3) := by decide +kernel
theorem dX8_layTried_31 : decode cX8_layTried 31 = .ok (.iload_n 2, 1) := by decide +kernel
theorem dX8_layTried_32 : decode cX8_layTried 32 = .ok (.iconst 1, 1) := by decide +kernel
theorem dX8_layTried_33 : decode cX8_layTried 33 = .ok (.invokestatic 55, 3) := by decide +kernel
theorem dX8_layTried_36 : decode cX8_layTried 36 = .ok (.invokestatic 171, 3) := by decide +kernel
theorem dX8_layTried_39 : decode cX8_layTried 39 = .ok (.ifCond .eq 7, 3) := by decide +kernel
theorem dX8_layTried_42 : decode cX8_layTried 42 = .ok (.iconst 1, 1) := by decide +kernel
theorem dX8_layTried_43 : decode cX8_layTried 43 = .ok (.goto 4, 3) := by decide +kernel
theorem dX8_layTried_46 : decode cX8_layTried 46 = .ok (.iconst 0, 1) := by decide +kernel
theorem dX8_layTried_47 : decode cX8_layTried 47 = .ok (.istore_n 3, 1) := by decide +kernel
theorem dX8_layTried_48 : decode cX8_layTried 48 = .ok (.iconst 0, 1) := by decide +kernel
theorem dX8_layTried_49 : decode cX8_layTried 49 = .ok (.istore 4, 2) := by decide +kernel
theorem dX8_layTried_51 : decode cX8_layTried 51 = .ok (.iload 4, 2) := by decide +kernel
theorem dX8_layTried_53 : decode cX8_layTried 53 = .ok (.iload_n 1, 1) := by decide +kernel
theorem dX8_layTried_54 : decode cX8_layTried 54 = .ok (.if_icmp .ge 46, 3) := by decide +kernel
theorem dX8_layTried_57 : decode cX8_layTried 57 = .ok (.iload_n 3, 1) := by decide +kernel
theorem dX8_layTried_58 : decode cX8_layTried 58 = .ok (.ifCond .eq 34, 3) := by decide +kernel
theorem dX8_layTried_61 : decode cX8_layTried 61 = .ok (.aload_n 0, 1) := by decide +kernel
theorem dX8_layTried_62 : decode cX8_layTried 62 = .ok (.getfield 7, 3) := by decide +kernel
theorem dX8_layTried_65 : decode cX8_layTried 65 = .ok (.aload_n 0, 1) := by decide +kernel
theorem dX8_layTried_66 : decode cX8_layTried 66 = .ok (.getfield 37, 3) := by decide +kernel
theorem dX8_layTried_69 : decode cX8_layTried 69 = .ok (.iload 4, 2) := by decide +kernel
theorem dX8_layTried_71 : decode cX8_layTried 71 = .ok (.iaload, 1) := by decide +kernel
theorem dX8_layTried_72 : decode cX8_layTried 72 = .ok (.iconst 1, 1) := by decide +kernel
theorem dX8_layTried_73 : decode cX8_layTried 73 = .ok (.invokestatic 55, 3) := by decide +kernel
theorem dX8_layTried_76 : decode cX8_layTried 76 = .ok (.aload_n 0, 1) := by decide +kernel
theorem dX8_layTried_77 : decode cX8_layTried 77 = .ok (.getfield 7, 3) := by decide +kernel
theorem dX8_layTried_80 : decode cX8_layTried 80 = .ok (.iload_n 2, 1) := by decide +kernel
theorem dX8_layTried_81 : decode cX8_layTried 81 = .ok (.iconst 1, 1) := by decide +kernel
theorem dX8_layTried_82 : decode cX8_layTried 82 = .ok (.invokestatic 55, 3) := by decide +kernel
theorem dX8_layTried_85 : decode cX8_layTried 85 = .ok (.if_icmp .eq 7, 3) := by decide +kernel
theorem dX8_layTried_88 : decode cX8_layTried 88 = .ok (.iconst 1, 1) := by decide +kernel
theorem dX8_layTried_89 : decode cX8_layTried 89 = .ok (.goto 4, 3) := by decide +kernel
theorem dX8_layTried_92 : decode cX8_layTried 92 = .ok (.iconst 0, 1) := by decide +kernel
theorem dX8_layTried_93 : decode cX8_layTried 93 = .ok (.istore_n 3, 1) := by decide +kernel
theorem dX8_layTried_94 : decode cX8_layTried 94 = .ok (.iinc 4 1, 3) := by decide +kernel
theorem dX8_layTried_97 : decode cX8_layTried 97 = .ok (.goto (-46), 3) := by decide +kernel
theorem dX8_layTried_100 : decode cX8_layTried 100 = .ok (.iload_n 3, 1) := by decide +kernel
theorem dX8_layTried_101 : decode cX8_layTried 101 = .ok (.ifCond .eq 13, 3) := by decide +kernel
theorem dX8_layTried_104 : decode cX8_layTried 104 = .ok (.aload_n 0, 1) := by decide +kernel
theorem dX8_layTried_105 : decode cX8_layTried 105 = .ok (.getfield 37, 3) := by decide +kernel
theorem dX8_layTried_108 : decode cX8_layTried 108 = .ok (.iload_n 1, 1) := by decide +kernel
theorem dX8_layTried_109 : decode cX8_layTried 109 = .ok (.iload_n 2, 1) := by decide +kernel
theorem dX8_layTried_110 : decode cX8_layTried 110 = .ok (.iastore, 1) := by decide +kernel
theorem dX8_layTried_111 : decode cX8_layTried 111 = .ok (.iinc 1 1, 3) := by decide +kernel
theorem dX8_layTried_114 : decode cX8_layTried 114 = .ok (.iinc 2 1, 3) := by decide +kernel
theorem dX8_layTried_117 : decode cX8_layTried 117 = .ok (.goto (-113), 3) := by decide +kernel
theorem dX8_layTried_120 : decode cX8_layTried 120 = .ok (.iload_n 1, 1) := by decide +kernel
theorem dX8_layTried_121 : decode cX8_layTried 121 = .ok (.ireturn, 1) := by decide +kernel
theorem dX8_order_0 : decode cX8_order 0 = .ok (.iload_n 1, 1) := by decide +kernel
theorem dX8_order_1 : decode cX8_order 1 = .ok (.iconst (-1), 1) := by decide +kernel
theorem dX8_order_2 : decode cX8_order 2 = .ok (.if_icmp .ge 10, 3) := by decide +kernel
theorem dX8_order_5 : decode cX8_order 5 = .ok (.aload_n 0, 1) := by decide +kernel
theorem dX8_order_6 : decode cX8_order 6 = .ok (.bipush (-10), 2) := by decide +kernel
theorem dX8_order_8 : decode cX8_order 8 = .ok (.invokevirtual 219, 3) := by decide +kernel
theorem dX8_order_11 : decode cX8_order 11 = .ok (.ireturn, 1) := by decide +kernel
theorem dX8_order_12 : decode cX8_order 12 = .ok (.aload_n 0, 1) := by decide +kernel
theorem dX8_order_13 : decode cX8_order 13 = .ok (.invokevirtual 222, 3) := by decide +kernel
theorem dX8_order_16 : decode cX8_order 16 = .ok (.istore_n 2, 1) := by decide +kernel
theorem dX8_order_17 : decode cX8_order 17 = .ok (.iload_n 1, 1) := by decide +kernel
theorem dX8_order_18 : decode cX8_order 18 = .ok (.iload_n 2, 1) := by decide +kernel
theorem dX8_order_19 : decode cX8_order 19 = .ok (.if_icmp .lt 6, 3) := by decide +kernel
theorem dX8_order_22 : decode cX8_order 22 = .ok (.bipush (-5), 2) := by decide +kernel
theorem dX8_order_24 : decode cX8_order 24 = .ok (.ireturn, 1) := by decide +kernel
theorem dX8_order_25 : decode cX8_order 25 = .ok (.sipush 9999, 3) := by decide +kernel
theorem dX8_order_28 : decode cX8_order 28 = .ok (.istore_n 3, 1) := by decide +kernel
theorem dX8_order_29 : decode cX8_order 29 = .ok (.iconst 1, 1) := by decide +kernel
theorem dX8_order_30 : decode cX8_order 30 = .ok (.istore 4, 2) := by decide +kernel
theorem dX8_order_32 : decode cX8_order 32 = .ok (.iload 4, 2) := by decide +kernel
theorem dX8_order_34 : decode cX8_order 34 = .ok (.ifCond .eq 107, 3) := by decide +kernel
theorem dX8_order_37 : decode cX8_order 37 = .ok (.aload_n 0, 1) := by decide +kernel
theorem dX8_order_38 : decode cX8_order 38 = .ok (.invokevirtual 225, 3) := by decide +kernel
theorem dX8_order_41 : decode cX8_order 41 = .ok (.iconst 0, 1) := by decide +kernel
theorem dX8_order_42 : decode cX8_order 42 = .ok (.istore 5, 2) := by decide +kernel
theorem dX8_order_44 : decode cX8_order 44 = .ok (.iconst 0, 1) := by decide +kernel
theorem dX8_order_45 : decode cX8_order 45 = .ok (.istore 6, 2) := by decide +kernel
theorem dX8_order_47 : decode cX8_order 47 = .ok (.iload 6, 2) := by decide +kernel
theorem dX8_order_49 : decode cX8_order 49 = .ok (.iload_n 2, 1) := by decide +kernel
theorem dX8_order_50 : decode cX8_order 50 = .ok (.if_icmp .ge 43, 3) := by decide +kernel
theorem dX8_order_53 : decode cX8_order 53 = .ok (.iload 5, 2) := by decide +kernel
theorem dX8_order_55 : decode cX8_order 55 = .ok (.aload_n 0, 1) := by decide +kernel
theorem dX8_order_56 : decode cX8_order 56 = .ok (.getfield 13, 3) := by decide +kernel
theorem dX8_order_59 : decode cX8_order 59 = .ok (.aload_n 0, 1) := by decide +kernel
theorem dX8_order_60 : decode cX8_order 60 = .ok (.getfield 37, 3) := by decide +kernel
theorem dX8_order_63 : decode cX8_order 63 = .ok (.iload 6, 2) := by decide +kernel
theorem dX8_order_65 : decode cX8_order 65 = .ok (.iaload, 1) := by decide +kernel
theorem dX8_order_66 : decode cX8_order 66 = .ok (.aload_n 0, 1) := by decide +kernel
theorem dX8_order_67 : decode cX8_order 67 = .ok (.getfield 7, 3) := by decide +kernel
theorem dX8_order_70 : decode cX8_order 70 = .ok (.aload_n 0, 1) := by decide +kernel
theorem dX8_order_71 : decode cX8_order 71 = .ok (.getfield 37, 3) := by decide +kernel
theorem dX8_order_74 : decode cX8_order 74 = .ok (.iload 6, 2) := by decide +kernel
theorem dX8_order_76 : decode cX8_order 76 = .ok (.iaload, 1) := by decide +kernel
theorem dX8_order_77 : decode cX8_order 77 = .ok (.iconst 1, 1) := by decide +kernel
theorem dX8_order_78 : decode cX8_order 78 = .ok (.invokestatic 55, 3) := by decide +kernel
theorem dX8_order_81 : decode cX8_order 81 = .ok (.invokestatic 182, 3) := by decide +kernel
theorem dX8_order_84 : decode cX8_order 84 = .ok (.iadd, 1) := by decide +kernel
theorem dX8_order_85 : decode cX8_order 85 = .ok (.istore 5, 2) := by decide +kernel
theorem dX8_order_87 : decode cX8_order 87 = .ok (.iinc 6 1, 3) := by decide +kernel
theorem dX8_order_90 : decode cX8_order 90 = .ok (.goto (-43), 3) := by decide +kernel
theorem dX8_order_93 : decode cX8_order 93 = .ok (.iload 5, 2) := by decide +kernel
theorem dX8_order_95 : decode cX8_order 95 = .ok (.iload_n 3, 1) := by decide +kernel
theorem dX8_order_96 : decode cX8_order 96 = .ok (.if_icmp .ge 35, 3) := by decide +kernel
theorem dX8_order_99 : decode cX8_order 99 = .ok (.iload 5, 2) := by decide +kernel
theorem dX8_order_101 : decode cX8_order 101 = .ok (.istore_n 3, 1) := by decide +kernel
theorem dX8_order_102 : decode cX8_order 102 = .ok (.iconst 0, 1) := by decide +kernel
theorem dX8_order_103 : decode cX8_order 103 = .ok (.istore 6, 2) := by decide +kernel
theorem dX8_order_105 : decode cX8_order 105 = .ok (.iload 6, 2) := by decide +kernel
theorem dX8_order_107 : decode cX8_order 107 = .ok (.iload_n 2, 1) := by decide +kernel
theorem dX8_order_108 : decode cX8_order 108 = .ok (.if_icmp .ge 23, 3) := by decide +kernel
theorem dX8_order_111 : decode cX8_order 111 = .ok (.aload_n 0, 1) := by decide +kernel
theorem dX8_order_112 : decode cX8_order 112 = .ok (.getfield 40, 3) := by decide +kernel
theorem dX8_order_115 : decode cX8_order 115 = .ok (.iload 6, 2) := by decide +kernel
theorem dX8_order_117 : decode cX8_order 117 = .ok (.aload_n 0, 1) := by decide +kernel
theorem dX8_order_118 : decode cX8_order 118 = .ok (.getfield 37, 3) := by decide +kernel
theorem dX8_order_121 : decode cX8_order 121 = .ok (.iload 6, 2) := by decide +kernel
theorem dX8_order_123 : decode cX8_order 123 = .ok (.iaload, 1) := by decide +kernel
theorem dX8_order_124 : decode cX8_order 124 = .ok (.iastore, 1) := by decide +kernel
theorem dX8_order_125 : decode cX8_order 125 = .ok (.iinc 6 1, 3) := by decide +kernel
theorem dX8_order_128 : decode cX8_order 128 = .ok (.goto (-23), 3) := by decide +kernel
theorem dX8_order_131 : decode cX8_order 131 = .ok (.aload_n 0, 1) := by decide +kernel
theorem dX8_order_132 : decode cX8_order 132 = .ok (.iload_n 2, 1) := by decide +kernel
theorem dX8_order_133 : decode cX8_order 133 = .ok (.invokevirtual 228, 3) := by decide +kernel
theorem dX8_order_136 : decode cX8_order 136 = .ok (.istore 4, 2) := by decide +kernel
theorem dX8_order_138 : decode cX8_order 138 = .ok (.goto (-106), 3) := by decide +kernel
theorem dX8_order_141 : decode cX8_order 141 = .ok (.iload_n 1, 1) := by decide +kernel
theorem dX8_order_142 : decode cX8_order 142 = .ok (.iconst (-1), 1) := by decide +kernel
theorem dX8_order_143 : decode cX8_order 143 = .ok (.if_icmp .ne 7, 3) := by decide +kernel
theorem dX8_order_146 : decode cX8_order 146 = .ok (.iload_n 3, 1) := by decide +kernel
theorem dX8_order_147 : decode cX8_order 147 = .ok (.goto 9, 3) := by decide +kernel
theorem dX8_order_150 : decode cX8_order 150 = .ok (.aload_n 0, 1) := by decide +kernel
theorem dX8_order_151 : decode cX8_order 151 = .ok (.getfield 40, 3) := by decide +kernel
theorem dX8_order_154 : decode cX8_order 154 = .ok (.iload_n 1, 1) := by decide +kernel
theorem dX8_order_155 : decode cX8_order 155 = .ok (.iaload, 1) := by decide +kernel
theorem dX8_order_156 : decode cX8_order 156 = .ok (.ireturn, 1) := by decide +kernel
theorem dX8_best_0 : decode cX8_best 0 = .ok (.aload_n 0, 1) := by decide +kernel
theorem dX8_best_1 : decode cX8_best 1 = .ok (.iload_n 1, 1) := by decide +kernel
theorem dX8_best_2 : decode cX8_best 2 = .ok (.invokevirtual 203, 3) := by decide +kernel
theorem dX8_best_5 : decode cX8_best 5 = .ok (.ifCond .eq 13, 3) := by decide +kernel
theorem dX8_best_8 : decode cX8_best 8 = .ok (.iload_n 2, 1) := by decide +kernel
theorem dX8_best_9 : decode cX8_best 9 = .ok (.i2l, 1) := by decide +kernel
theorem dX8_best_10 : decode cX8_best 10 = .ok (.lconst 0, 1) := by decide +kernel
theorem dX8_best_11 : decode cX8_best 11 = .ok (.lconst 1, 1) := by decide +kernel
theorem dX8_best_12 : decode cX8_best 12 = .ok (.invokestatic 46, 3) := by decide +kernel
theorem dX8_best_15 : decode cX8_best 15 = .ok (.ifCond .ne 11, 3) := by decide +kernel
theorem dX8_best_18 : decode cX8_best 18 = .ok (.aload_n 0, 1) := by decide +kernel
theorem dX8_best_19 : decode cX8_best 19 = .ok (.sipush (-1001), 3) := by decide +kernel
theorem dX8_best_22 : decode cX8_best 22 = .ok (.invokevirtual 219, 3) := by decide +kernel
theorem dX8_best_25 : decode cX8_best 25 = .ok (.ireturn, 1) := by decide +kernel
theorem dX8_best_26 : decode cX8_best 26 = .ok (.aload_n 0, 1) := by decide +kernel
theorem dX8_best_27 : decode cX8_best 27 = .ok (.iload_n 1, 1) := by decide +kernel
theorem dX8_best_28 : decode cX8_best 28 = .ok (.invokevirtual 216, 3) := by decide +kernel
theorem dX8_best_31 : decode cX8_best 31 = .ok (.ifCond .ne 17, 3) := by decide +kernel
theorem dX8_best_34 : decode cX8_best 34 = .ok (.aload_n 0, 1) := by decide +kernel
theorem dX8_best_35 : decode cX8_best 35 = .ok (.getfield 27, 3) := by decide +kernel
theorem dX8_best_38 : decode cX8_best 38 = .ok (.iconst 1, 1) := by decide +kernel
theorem dX8_best_39 : decode cX8_best 39 = .ok (.dup2, 1) := by decide +kernel
theorem dX8_best_40 : decode cX8_best 40 = .ok (.iaload, 1) := by decide +kernel
theorem dX8_best_41 : decode cX8_best 41 = .ok (.iconst 1, 1) := by decide +kernel
theorem dX8_best_42 : decode cX8_best 42 = .ok (.iadd, 1) := by decide +kernel
theorem dX8_best_43 : decode cX8_best 43 = .ok (.iastore, 1) := by decide +kernel
theorem dX8_best_44 : decode cX8_best 44 = .ok (.sipush (-1002), 3) := by decide +kernel
theorem dX8_best_47 : decode cX8_best 47 = .ok (.ireturn, 1) := by decide +kernel
theorem dX8_best_48 : decode cX8_best 48 = .ok (.sipush (-1000), 3) := by decide +kernel
theorem dX8_best_51 : decode cX8_best 51 = .ok (.istore_n 3, 1) := by decide +kernel
theorem dX8_best_52 : decode cX8_best 52 = .ok (.iconst (-1), 1) := by decide +kernel
theorem dX8_best_53 : decode cX8_best 53 = .ok (.istore 4, 2) := by decide +kernel
theorem dX8_best_55 : decode cX8_best 55 = .ok (.iconst 0, 1) := by decide +kernel
theorem dX8_best_56 : decode cX8_best 56 = .ok (.istore 5, 2) := by decide +kernel
theorem dX8_best_58 : decode cX8_best 58 = .ok (.iload 5, 2) := by decide +kernel
theorem dX8_best_60 : decode cX8_best 60 = .ok (.bipush 30, 2) := by decide +kernel
theorem dX8_best_62 : decode cX8_best 62 = .ok (.if_icmp .ge 56, 3) := by decide +kernel
theorem dX8_best_65 : decode cX8_best 65 = .ok (.aload_n 0, 1) := by decide +kernel
theorem dX8_best_66 : decode cX8_best 66 = .ok (.getfield 7, 3) := by decide +kernel
theorem dX8_best_69 : decode cX8_best 69 = .ok (.iload 5, 2) := by decide +kernel
theorem dX8_best_71 : decode cX8_best 71 = .ok (.invokestatic 213, 3) := by decide +kernel
theorem dX8_best_74 : decode cX8_best 74 = .ok (.aload_n 0, 1) := by decide +kernel
theorem dX8_best_75 : decode cX8_best 75 = .ok (.getfield 7, 3) := by decide +kernel
theorem dX8_best_78 : decode cX8_best 78 = .ok (.iload_n 1, 1) := by decide +kernel
theorem dX8_best_79 : decode cX8_best 79 = .ok (.iload 5, 2) := by decide +kernel
theorem dX8_best_81 : decode cX8_best 81 = .ok (.invokestatic 82, 3) := by decide +kernel
theorem dX8_best_84 : decode cX8_best 84 = .ok (.isub, 1) := by decide +kernel
theorem dX8_best_85 : decode cX8_best 85 = .ok (.istore 6, 2) := by decide +kernel
theorem dX8_best_87 : decode cX8_best 87 = .ok (.aload_n 0, 1) := by decide +kernel
theorem dX8_best_88 : decode cX8_best 88 = .ok (.getfield 7, 3) := by decide +kernel
theorem dX8_best_91 : decode cX8_best 91 = .ok (.iload 5, 2) := by decide +kernel
theorem dX8_best_93 : decode cX8_best 93 = .ok (.invokestatic 171, 3) := by decide +kernel
theorem dX8_best_96 : decode cX8_best 96 = .ok (.ifCond .eq 16, 3) := by decide +kernel
theorem dX8_best_99 : decode cX8_best 99 = .ok (.iload 6, 2) := by decide +kernel
theorem dX8_best_101 : decode cX8_best 101 = .ok (.iload_n 3, 1) := by decide +kernel
theorem dX8_best_102 : decode cX8_best 102 = .ok (.if_icmp .le 10, 3) := by decide +kernel
theorem dX8_best_105 : decode cX8_best 105 = .ok (.iload 6, 2) := by decide +kernel
theorem dX8_best_107 : decode cX8_best 107 = .ok (.istore_n 3, 1) := by decide +kernel
theorem dX8_best_108 : decode cX8_best 108 = .ok (.iload 5, 2) := by decide +kernel
theorem dX8_best_110 : decode cX8_best 110 = .ok (.istore 4, 2) := by decide +kernel
theorem dX8_best_112 : decode cX8_best 112 = .ok (.iinc 5 1, 3) := by decide +kernel
theorem dX8_best_115 : decode cX8_best 115 = .ok (.goto (-57), 3) := by decide +kernel
theorem dX8_best_118 : decode cX8_best 118 = .ok (.iload_n 2, 1) := by decide +kernel
theorem dX8_best_119 : decode cX8_best 119 = .ok (.ifCond .ne 8, 3) := by decide +kernel
theorem dX8_best_122 : decode cX8_best 122 = .ok (.iload 4, 2) := by decide +kernel
theorem dX8_best_124 : decode cX8_best 124 = .ok (.goto 4, 3) := by decide +kernel
theorem dX8_best_127 : decode cX8_best 127 = .ok (.iload_n 3, 1) := by decide +kernel
theorem dX8_best_128 : decode cX8_best 128 = .ok (.ireturn, 1) := by decide +kernel
theorem dX8_beside_0 : decode cX8_beside 0 = .ok (.aload_n 0, 1) := by decide +kernel
theorem dX8_beside_1 : decode cX8_beside 1 = .ok (.iload_n 1, 1) := by decide +kernel
theorem dX8_beside_2 : decode cX8_beside 2 = .ok (.invokevirtual 203, 3) := by decide +kernel
theorem dX8_beside_5 : decode cX8_beside 5 = .ok (.ifCond .eq 26, 3) := by decide +kernel
theorem dX8_beside_8 : decode cX8_beside 8 = .ok (.aload_n 0, 1) := by decide +kernel
theorem dX8_beside_9 : decode cX8_beside 9 = .ok (.iload_n 2, 1) := by decide +kernel
theorem dX8_beside_10 : decode cX8_beside 10 = .ok (.invokevirtual 203, 3) := by decide +kernel
theorem dX8_beside_13 : decode cX8_beside 13 = .ok (.ifCond .eq 18, 3) := by decide +kernel
theorem dX8_beside_16 : decode cX8_beside 16 = .ok (.iload_n 1, 1) := by decide +kernel
theorem dX8_beside_17 : decode cX8_beside 17 = .ok (.iload_n 2, 1) := by decide +kernel
theorem dX8_beside_18 : decode cX8_beside 18 = .ok (.if_icmp .eq 13, 3) := by decide +kernel
theorem dX8_beside_21 : decode cX8_beside 21 = .ok (.iload_n 3, 1) := by decide +kernel
theorem dX8_beside_22 : decode cX8_beside 22 = .ok (.i2l, 1) := by decide +kernel
theorem dX8_beside_23 : decode cX8_beside 23 = .ok (.lconst 0, 1) := by decide +kernel
theorem dX8_beside_24 : decode cX8_beside 24 = .ok (.lconst 1, 1) := by decide +kernel
theorem dX8_beside_25 : decode cX8_beside 25 = .ok (.invokestatic 46, 3) := by decide +kernel
theorem dX8_beside_28 : decode cX8_beside 28 = .ok (.ifCond .ne 8, 3) := by decide +kernel
theorem dX8_beside_31 : decode cX8_beside 31 = .ok (.aload_n 0, 1) := by decide +kernel
theorem dX8_beside_32 : decode cX8_beside 32 = .ok (.invokevirtual 101, 3) := by decide +kernel
theorem dX8_beside_35 : decode cX8_beside 35 = .ok (.ireturn, 1) := by decide +kernel
theorem dX8_beside_36 : decode cX8_beside 36 = .ok (.aload_n 0, 1) := by decide +kernel
theorem dX8_beside_37 : decode cX8_beside 37 = .ok (.iload_n 1, 1) := by decide +kernel
theorem dX8_beside_38 : decode cX8_beside 38 = .ok (.invokevirtual 216, 3) := by decide +kernel
theorem dX8_beside_41 : decode cX8_beside 41 = .ok (.ifCond .eq 11, 3) := by decide +kernel
theorem dX8_beside_44 : decode cX8_beside 44 = .ok (.aload_n 0, 1) := by decide +kernel
theorem dX8_beside_45 : decode cX8_beside 45 = .ok (.iload_n 2, 1) := by decide +kernel
theorem dX8_beside_46 : decode cX8_beside 46 = .ok (.invokevirtual 216, 3) := by decide +kernel
theorem dX8_beside_49 : decode cX8_beside 49 = .ok (.ifCond .ne 8, 3) := by decide +kernel
theorem dX8_beside_52 : decode cX8_beside 52 = .ok (.aload_n 0, 1) := by decide +kernel
theorem dX8_beside_53 : decode cX8_beside 53 = .ok (.invokevirtual 200, 3) := by decide +kernel
theorem dX8_beside_56 : decode cX8_beside 56 = .ok (.ireturn, 1) := by decide +kernel
theorem dX8_beside_57 : decode cX8_beside 57 = .ok (.iconst (-1), 1) := by decide +kernel
theorem dX8_beside_58 : decode cX8_beside 58 = .ok (.istore 4, 2) := by decide +kernel
theorem dX8_beside_60 : decode cX8_beside 60 = .ok (.iconst (-1), 1) := by decide +kernel
theorem dX8_beside_61 : decode cX8_beside 61 = .ok (.istore 5, 2) := by decide +kernel
theorem dX8_beside_63 : decode cX8_beside 63 = .ok (.iconst 0, 1) := by decide +kernel
theorem dX8_beside_64 : decode cX8_beside 64 = .ok (.istore 6, 2) := by decide +kernel
theorem dX8_beside_66 : decode cX8_beside 66 = .ok (.iload 6, 2) := by decide +kernel
theorem dX8_beside_68 : decode cX8_beside 68 = .ok (.bipush 30, 2) := by decide +kernel
theorem dX8_beside_70 : decode cX8_beside 70 = .ok (.if_icmp .ge 140, 3) := by decide +kernel
theorem dX8_beside_73 : decode cX8_beside 73 = .ok (.iload 6, 2) := by decide +kernel
theorem dX8_beside_75 : decode cX8_beside 75 = .ok (.iconst 1, 1) := by decide +kernel
theorem dX8_beside_76 : decode cX8_beside 76 = .ok (.isub, 1) := by decide +kernel
theorem dX8_beside_77 : decode cX8_beside 77 = .ok (.istore 7, 2) := by decide +kernel
theorem dX8_beside_79 : decode cX8_beside 79 = .ok (.iload 7, 2) := by decide +kernel
theorem dX8_beside_81 : decode cX8_beside 81 = .ok (.iload 6, 2) := by decide +kernel
theorem dX8_beside_83 : decode cX8_beside 83 = .ok (.iconst 2, 1) := by decide +kernel
theorem dX8_beside_84 : decode cX8_beside 84 = .ok (.iadd, 1) := by decide +kernel
theorem dX8_beside_85 : decode cX8_beside 85 = .ok (.if_icmp .ge 119, 3) := by decide +kernel
theorem dX8_beside_88 : decode cX8_beside 88 = .ok (.iload 7, 2) := by decide +kernel
theorem dX8_beside_90 : decode cX8_beside 90 = .ok (.iload 6, 2) := by decide +kernel
theorem dX8_beside_92 : decode cX8_beside 92 = .ok (.if_icmp .eq 106, 3) := by decide +kernel
theorem dX8_beside_95 : decode cX8_beside 95 = .ok (.iload 7, 2) := by decide +kernel
theorem dX8_beside_97 : decode cX8_beside 97 = .ok (.invokestatic 105, 3) := by decide +kernel
theorem dX8_beside_100 : decode cX8_beside 100 = .ok (.ifCond .eq 98, 3) := by decide +kernel
theorem dX8_beside_103 : decode cX8_beside 103 = .ok (.iload 7, 2) := by decide +kernel
theorem dX8_beside_105 : decode cX8_beside 105 = .ok (.bipush 6, 2) := by decide +kernel
theorem dX8_beside_107 : decode cX8_beside 107 = .ok (.idiv, 1) := by decide +kernel
theorem dX8_beside_108 : decode cX8_beside 108 = .ok (.iload 6, 2) := by decide +kernel
theorem dX8_beside_110 : decode cX8_beside 110 = .ok (.bipush 6, 2) := by decide +kernel
theorem dX8_beside_112 : decode cX8_beside 112 = .ok (.idiv, 1) := by decide +kernel
theorem dX8_beside_113 : decode cX8_beside 113 = .ok (.if_icmp .ne 85, 3) := by decide +kernel
theorem dX8_beside_116 : decode cX8_beside 116 = .ok (.aload_n 0, 1) := by decide +kernel
theorem dX8_beside_117 : decode cX8_beside 117 = .ok (.getfield 7, 3) := by decide +kernel
theorem dX8_beside_120 : decode cX8_beside 120 = .ok (.iload 6, 2) := by decide +kernel
theorem dX8_beside_122 : decode cX8_beside 122 = .ok (.invokestatic 171, 3) := by decide +kernel
theorem dX8_beside_125 : decode cX8_beside 125 = .ok (.ifCond .eq 73, 3) := by decide +kernel
theorem dX8_beside_128 : decode cX8_beside 128 = .ok (.aload_n 0, 1) := by decide +kernel
theorem dX8_beside_129 : decode cX8_beside 129 = .ok (.getfield 7, 3) := by decide +kernel
theorem dX8_beside_132 : decode cX8_beside 132 = .ok (.iload 7, 2) := by decide +kernel
theorem dX8_beside_134 : decode cX8_beside 134 = .ok (.invokestatic 171, 3) := by decide +kernel
theorem dX8_beside_137 : decode cX8_beside 137 = .ok (.ifCond .eq 61, 3) := by decide +kernel
theorem dX8_beside_140 : decode cX8_beside 140 = .ok (.aload_n 0, 1) := by decide +kernel
theorem dX8_beside_141 : decode cX8_beside 141 = .ok (.invokevirtual 225, 3) := by decide +kernel
theorem dX8_beside_144 : decode cX8_beside 144 = .ok (.aload_n 0, 1) := by decide +kernel
theorem dX8_beside_145 : decode cX8_beside 145 = .ok (.getfield 13, 3) := by decide +kernel
theorem dX8_beside_148 : decode cX8_beside 148 = .ok (.iload_n 1, 1) := by decide +kernel
theorem dX8_beside_149 : decode cX8_beside 149 = .ok (.iload 6, 2) := by decide +kernel
theorem dX8_beside_151 : decode cX8_beside 151 = .ok (.invokestatic 182, 3) := by decide +kernel
theorem dX8_beside_154 : decode cX8_beside 154 = .ok (.istore 8, 2) := by decide +kernel
theorem dX8_beside_156 : decode cX8_beside 156 = .ok (.iload 8, 2) := by decide +kernel
theorem dX8_beside_158 : decode cX8_beside 158 = .ok (.aload_n 0, 1) := by decide +kernel
theorem dX8_beside_159 : decode cX8_beside 159 = .ok (.getfield 13, 3) := by decide +kernel
theorem dX8_beside_162 : decode cX8_beside 162 = .ok (.iload_n 2, 1) := by decide +kernel
theorem dX8_beside_163 : decode cX8_beside 163 = .ok (.iload 7, 2) := by decide +kernel
theorem dX8_beside_165 : decode cX8_beside 165 = .ok (.invokestatic 182, 3) := by decide +kernel
theorem dX8_beside_168 : decode cX8_beside 168 = .ok (.iadd, 1) := by decide +kernel
theorem dX8_beside_169 : decode cX8_beside 169 = .ok (.istore 8, 2) := by decide +kernel
theorem dX8_beside_171 : decode cX8_beside 171 = .ok (.iload 4, 2) := by decide +kernel
theorem dX8_beside_173 : decode cX8_beside 173 = .ok (.iconst (-1), 1) := by decide +kernel
theorem dX8_beside_174 : decode cX8_beside 174 = .ok (.if_icmp .eq 10, 3) := by decide +kernel
theorem dX8_beside_177 : decode cX8_beside 177 = .ok (.iload 8, 2) := by decide +kernel
theorem dX8_beside_179 : decode cX8_beside 179 = .ok (.iload 4, 2) := by decide +kernel
theorem dX8_beside_181 : decode cX8_beside 181 = .ok (.if_icmp .ge 17, 3) := by decide +kernel
theorem dX8_beside_184 : decode cX8_beside 184 = .ok (.iload 8, 2) := by decide +kernel
theorem dX8_beside_186 : decode cX8_beside 186 = .ok (.istore 4, 2) := by decide +kernel
theorem dX8_beside_188 : decode cX8_beside 188 = .ok (.bipush 100, 2) := by decide +kernel
theorem dX8_beside_190 : decode cX8_beside 190 = .ok (.iload 6, 2) := by decide +kernel
theorem dX8_beside_192 : decode cX8_beside 192 = .ok (.imul, 1) := by decide +kernel
theorem dX8_beside_193 : decode cX8_beside 193 = .ok (.iload 7, 2) := by decide +kernel
theorem dX8_beside_195 : decode cX8_beside 195 = .ok (.iadd, 1) := by decide +kernel
theorem dX8_beside_196 : decode cX8_beside 196 = .ok (.istore 5, 2) := by decide +kernel
theorem dX8_beside_198 : decode cX8_beside 198 = .ok (.iinc 7 1, 3) := by decide +kernel
theorem dX8_beside_201 : decode cX8_beside 201 = .ok (.goto (-122), 3) := by decide +kernel
theorem dX8_beside_204 : decode cX8_beside 204 = .ok (.iinc 6 1, 3) := by decide +kernel
theorem dX8_beside_207 : decode cX8_beside 207 = .ok (.goto (-141), 3) := by decide +kernel
theorem dX8_beside_210 : decode cX8_beside 210 = .ok (.iload_n 3, 1) := by decide +kernel
theorem dX8_beside_211 : decode cX8_beside 211 = .ok (.ifCond .ne 8, 3) := by decide +kernel
theorem dX8_beside_214 : decode cX8_beside 214 = .ok (.iload 4, 2) := by decide +kernel
theorem dX8_beside_216 : decode cX8_beside 216 = .ok (.goto 5, 3) := by decide +kernel
theorem dX8_beside_219 : decode cX8_beside 219 = .ok (.iload 5, 2) := by decide +kernel
theorem dX8_beside_221 : decode cX8_beside 221 = .ok (.ireturn, 1) := by decide +kernel
theorem dX8_wrong_0 : decode cX8_wrong 0 = .ok (.iconst 0, 1) := by decide +kernel
theorem dX8_wrong_1 : decode cX8_wrong 1 = .ok (.istore_n 1, 1) := by decide +kernel
theorem dX8_wrong_2 : decode cX8_wrong 2 = .ok (.iconst 0, 1) := by decide +kernel
theorem dX8_wrong_3 : decode cX8_wrong 3 = .ok (.istore_n 2, 1) := by decide +kernel
theorem dX8_wrong_4 : decode cX8_wrong 4 = .ok (.iload_n 2, 1) := by decide +kernel
theorem dX8_wrong_5 : decode cX8_wrong 5 = .ok (.aload_n 0, 1) := by decide +kernel
theorem dX8_wrong_6 : decode cX8_wrong 6 = .ok (.getfield 7, 3) := by decide +kernel
theorem dX8_wrong_9 : decode cX8_wrong 9 = .ok (.bipush 8, 2) := by decide +kernel
theorem dX8_wrong_11 : decode cX8_wrong 11 = .ok (.iaload, 1) := by decide +kernel
theorem dX8_wrong_12 : decode cX8_wrong 12 = .ok (.if_icmp .ge 47, 3) := by decide +kernel
theorem dX8_wrong_15 : decode cX8_wrong 15 = .ok (.iload_n 1, 1) := by decide +kernel
theorem dX8_wrong_16 : decode cX8_wrong 16 = .ok (.aload_n 0, 1) := by decide +kernel
theorem dX8_wrong_17 : decode cX8_wrong 17 = .ok (.iload_n 2, 1) := by decide +kernel
theorem dX8_wrong_18 : decode cX8_wrong 18 = .ok (.invokevirtual 216, 3) := by decide +kernel
theorem dX8_wrong_21 : decode cX8_wrong 21 = .ok (.ifCond .ne 29, 3) := by decide +kernel
theorem dX8_wrong_24 : decode cX8_wrong 24 = .ok (.aload_n 0, 1) := by decide +kernel
theorem dX8_wrong_25 : decode cX8_wrong 25 = .ok (.getfield 7, 3) := by decide +kernel
theorem dX8_wrong_28 : decode cX8_wrong 28 = .ok (.iload_n 2, 1) := by decide +kernel
theorem dX8_wrong_29 : decode cX8_wrong 29 = .ok (.invokestatic 59, 3) := by decide +kernel
theorem dX8_wrong_32 : decode cX8_wrong 32 = .ok (.aload_n 0, 1) := by decide +kernel
theorem dX8_wrong_33 : decode cX8_wrong 33 = .ok (.getfield 7, 3) := by decide +kernel
theorem dX8_wrong_36 : decode cX8_wrong 36 = .ok (.iload_n 2, 1) := by decide +kernel
theorem dX8_wrong_37 : decode cX8_wrong 37 = .ok (.iconst 1, 1) := by decide +kernel
theorem dX8_wrong_38 : decode cX8_wrong 38 = .ok (.invokestatic 55, 3) := by decide +kernel
theorem dX8_wrong_41 : decode cX8_wrong 41 = .ok (.if_icmp .eq 9, 3) := by decide +kernel
theorem dX8_wrong_44 : decode cX8_wrong 44 = .ok (.iconst 1, 1) := by decide +kernel
theorem dX8_wrong_45 : decode cX8_wrong 45 = .ok (.iload_n 2, 1) := by decide +kernel
theorem dX8_wrong_46 : decode cX8_wrong 46 = .ok (.ishl, 1) := by decide +kernel
theorem dX8_wrong_47 : decode cX8_wrong 47 = .ok (.goto 4, 3) := by decide +kernel
theorem dX8_wrong_50 : decode cX8_wrong 50 = .ok (.iconst 0, 1) := by decide +kernel
theorem dX8_wrong_51 : decode cX8_wrong 51 = .ok (.ior, 1) := by decide +kernel
theorem dX8_wrong_52 : decode cX8_wrong 52 = .ok (.istore_n 1, 1) := by decide +kernel
theorem dX8_wrong_53 : decode cX8_wrong 53 = .ok (.iinc 2 1, 3) := by decide +kernel
theorem dX8_wrong_56 : decode cX8_wrong 56 = .ok (.goto (-52), 3) := by decide +kernel
theorem dX8_wrong_59 : decode cX8_wrong 59 = .ok (.iload_n 1, 1) := by decide +kernel
theorem dX8_wrong_60 : decode cX8_wrong 60 = .ok (.ireturn, 1) := by decide +kernel
theorem dX8_isBound_0 : decode cX8_isBound 0 = .ok (.aload_n 0, 1) := by decide +kernel
theorem dX8_isBound_1 : decode cX8_isBound 1 = .ok (.iload_n 1, 1) := by decide +kernel
theorem dX8_isBound_2 : decode cX8_isBound 2 = .ok (.invokevirtual 216, 3) := by decide +kernel
theorem dX8_isBound_5 : decode cX8_isBound 5 = .ok (.ifCond .ne 7, 3) := by decide +kernel
theorem dX8_isBound_8 : decode cX8_isBound 8 = .ok (.iconst 1, 1) := by decide +kernel
theorem dX8_isBound_9 : decode cX8_isBound 9 = .ok (.goto 4, 3) := by decide +kernel
theorem dX8_isBound_12 : decode cX8_isBound 12 = .ok (.iconst 0, 1) := by decide +kernel
theorem dX8_isBound_13 : decode cX8_isBound 13 = .ok (.istore_n 2, 1) := by decide +kernel
theorem dX8_isBound_14 : decode cX8_isBound 14 = .ok (.iconst 0, 1) := by decide +kernel
theorem dX8_isBound_15 : decode cX8_isBound 15 = .ok (.istore_n 3, 1) := by decide +kernel
theorem dX8_isBound_16 : decode cX8_isBound 16 = .ok (.iload_n 3, 1) := by decide +kernel
theorem dX8_isBound_17 : decode cX8_isBound 17 = .ok (.iload_n 1, 1) := by decide +kernel
theorem dX8_isBound_18 : decode cX8_isBound 18 = .ok (.if_icmp .ge 48, 3) := by decide +kernel
theorem dX8_isBound_21 : decode cX8_isBound 21 = .ok (.iload_n 2, 1) := by decide +kernel
theorem dX8_isBound_22 : decode cX8_isBound 22 = .ok (.ifCond .eq 36, 3) := by decide +kernel
theorem dX8_isBound_25 : decode cX8_isBound 25 = .ok (.aload_n 0, 1) := by decide +kernel
theorem dX8_isBound_26 : decode cX8_isBound 26 = .ok (.iload_n 3, 1) := by decide +kernel
theorem dX8_isBound_27 : decode cX8_isBound 27 = .ok (.invokevirtual 216, 3) := by decide +kernel
theorem dX8_isBound_30 : decode cX8_isBound 30 = .ok (.ifCond .ne 24, 3) := by decide +kernel
theorem dX8_isBound_33 : decode cX8_isBound 33 = .ok (.aload_n 0, 1) := by decide +kernel
theorem dX8_isBound_34 : decode cX8_isBound 34 = .ok (.getfield 7, 3) := by decide +kernel
theorem dX8_isBound_37 : decode cX8_isBound 37 = .ok (.iload_n 3, 1) := by decide +kernel
theorem dX8_isBound_38 : decode cX8_isBound 38 = .ok (.iconst 1, 1) := by decide +kernel
theorem dX8_isBound_39 : decode cX8_isBound 39 = .ok (.invokestatic 55, 3) := by decide +kernel
theorem dX8_isBound_42 : decode cX8_isBound 42 = .ok (.aload_n 0, 1) := by decide +kernel
theorem dX8_isBound_43 : decode cX8_isBound 43 = .ok (.getfield 7, 3) := by decide +kernel
theorem dX8_isBound_46 : decode cX8_isBound 46 = .ok (.iload_n 1, 1) := by decide +kernel
theorem dX8_isBound_47 : decode cX8_isBound 47 = .ok (.iconst 1, 1) := by decide +kernel
theorem dX8_isBound_48 : decode cX8_isBound 48 = .ok (.invokestatic 55, 3) := by decide +kernel
theorem dX8_isBound_51 : decode cX8_isBound 51 = .ok (.if_icmp .eq 7, 3) := by decide +kernel
theorem dX8_isBound_54 : decode cX8_isBound 54 = .ok (.iconst 1, 1) := by decide +kernel
theorem dX8_isBound_55 : decode cX8_isBound 55 = .ok (.goto 4, 3) := by decide +kernel
theorem dX8_isBound_58 : decode cX8_isBound 58 = .ok (.iconst 0, 1) := by decide +kernel
theorem dX8_isBound_59 : decode cX8_isBound 59 = .ok (.istore_n 2, 1) := by decide +kernel
theorem dX8_isBound_60 : decode cX8_isBound 60 = .ok (.iinc 3 1, 3) := by decide +kernel
theorem dX8_isBound_63 : decode cX8_isBound 63 = .ok (.goto (-47), 3) := by decide +kernel
theorem dX8_isBound_66 : decode cX8_isBound 66 = .ok (.iload_n 2, 1) := by decide +kernel
theorem dX8_isBound_67 : decode cX8_isBound 67 = .ok (.ireturn, 1) := by decide +kernel
theorem dX8_inStubOf_0 : decode cX8_inStubOf 0 = .ok (.aload_n 0, 1) := by decide +kernel
theorem dX8_inStubOf_1 : decode cX8_inStubOf 1 = .ok (.getfield 7, 3) := by decide +kernel
theorem dX8_inStubOf_4 : decode cX8_inStubOf 4 = .ok (.aload_n 0, 1) := by decide +kernel
theorem dX8_inStubOf_5 : decode cX8_inStubOf 5 = .ok (.getfield 7, 3) := by decide +kernel
theorem dX8_inStubOf_8 : decode cX8_inStubOf 8 = .ok (.iload_n 1, 1) := by decide +kernel
theorem dX8_inStubOf_9 : decode cX8_inStubOf 9 = .ok (.iconst 1, 1) := by decide +kernel
theorem dX8_inStubOf_10 : decode cX8_inStubOf 10 = .ok (.invokestatic 55, 3) := by decide +kernel
theorem dX8_inStubOf_13 : decode cX8_inStubOf 13 = .ok (.invokestatic 63, 3) := by decide +kernel
theorem dX8_inStubOf_16 : decode cX8_inStubOf 16 = .ok (.istore_n 2, 1) := by decide +kernel
theorem dX8_inStubOf_17 : decode cX8_inStubOf 17 = .ok (.iload_n 2, 1) := by decide +kernel
theorem dX8_inStubOf_18 : decode cX8_inStubOf 18 = .ok (.iconst (-1), 1) := by decide +kernel
theorem dX8_inStubOf_19 : decode cX8_inStubOf 19 = .ok (.if_icmp .eq 15, 3) := by decide +kernel
theorem dX8_inStubOf_22 : decode cX8_inStubOf 22 = .ok (.aload_n 0, 1) := by decide +kernel
theorem dX8_inStubOf_23 : decode cX8_inStubOf 23 = .ok (.iload_n 2, 1) := by decide +kernel
theorem dX8_inStubOf_24 : decode cX8_inStubOf 24 = .ok (.invokevirtual 231, 3) := by decide +kernel
theorem dX8_inStubOf_27 : decode cX8_inStubOf 27 = .ok (.ifCond .eq 7, 3) := by decide +kernel
theorem dX8_inStubOf_30 : decode cX8_inStubOf 30 = .ok (.iload_n 2, 1) := by decide +kernel
theorem dX8_inStubOf_31 : decode cX8_inStubOf 31 = .ok (.goto 4, 3) := by decide +kernel
theorem dX8_inStubOf_34 : decode cX8_inStubOf 34 = .ok (.iconst (-1), 1) := by decide +kernel
theorem dX8_inStubOf_35 : decode cX8_inStubOf 35 = .ok (.ireturn, 1) := by decide +kernel
theorem dX8_swaps_0 : decode cX8_swaps 0 = .ok (.iconst 0, 1) := by decide +kernel
theorem dX8_swaps_1 : decode cX8_swaps 1 = .ok (.istore_n 1, 1) := by decide +kernel
theorem dX8_swaps_2 : decode cX8_swaps 2 = .ok (.iconst 0, 1) := by decide +kernel
theorem dX8_swaps_3 : decode cX8_swaps 3 = .ok (.istore_n 2, 1) := by decide +kernel
theorem dX8_swaps_4 : decode cX8_swaps 4 = .ok (.iconst 0, 1) := by decide +kernel
theorem dX8_swaps_5 : decode cX8_swaps 5 = .ok (.istore_n 3, 1) := by decide +kernel
theorem dX8_swaps_6 : decode cX8_swaps 6 = .ok (.iload_n 3, 1) := by decide +kernel
theorem dX8_swaps_7 : decode cX8_swaps 7 = .ok (.aload_n 0, 1) := by decide +kernel
theorem dX8_swaps_8 : decode cX8_swaps 8 = .ok (.getfield 7, 3) := by decide +kernel
theorem dX8_swaps_11 : decode cX8_swaps 11 = .ok (.bipush 8, 2) := by decide +kernel
theorem dX8_swaps_13 : decode cX8_swaps 13 = .ok (.iaload, 1) := by decide +kernel
theorem dX8_swaps_14 : decode cX8_swaps 14 = .ok (.if_icmp .ge 91, 3) := by decide +kernel
theorem dX8_swaps_17 : decode cX8_swaps 17 = .ok (.aload_n 0, 1) := by decide +kernel
theorem dX8_swaps_18 : decode cX8_swaps 18 = .ok (.iload_n 3, 1) := by decide +kernel
theorem dX8_swaps_19 : decode cX8_swaps 19 = .ok (.invokevirtual 231, 3) := by decide +kernel
theorem dX8_swaps_22 : decode cX8_swaps 22 = .ok (.ifCond .eq 77, 3) := by decide +kernel
theorem dX8_swaps_25 : decode cX8_swaps 25 = .ok (.aload_n 0, 1) := by decide +kernel
theorem dX8_swaps_26 : decode cX8_swaps 26 = .ok (.getfield 7, 3) := by decide +kernel
theorem dX8_swaps_29 : decode cX8_swaps 29 = .ok (.iload_n 3, 1) := by decide +kernel
theorem dX8_swaps_30 : decode cX8_swaps 30 = .ok (.invokestatic 59, 3) := by decide +kernel
theorem dX8_swaps_33 : decode cX8_swaps 33 = .ok (.aload_n 0, 1) := by decide +kernel
theorem dX8_swaps_34 : decode cX8_swaps 34 = .ok (.getfield 7, 3) := by decide +kernel
theorem dX8_swaps_37 : decode cX8_swaps 37 = .ok (.iload_n 3, 1) := by decide +kernel
theorem dX8_swaps_38 : decode cX8_swaps 38 = .ok (.iconst 1, 1) := by decide +kernel
theorem dX8_swaps_39 : decode cX8_swaps 39 = .ok (.invokestatic 55, 3) := by decide +kernel
theorem dX8_swaps_42 : decode cX8_swaps 42 = .ok (.if_icmp .eq 57, 3) := by decide +kernel
theorem dX8_swaps_45 : decode cX8_swaps 45 = .ok (.iinc 1 1, 3) := by decide +kernel
theorem dX8_swaps_48 : decode cX8_swaps 48 = .ok (.aload_n 0, 1) := by decide +kernel
theorem dX8_swaps_49 : decode cX8_swaps 49 = .ok (.iload_n 3, 1) := by decide +kernel
theorem dX8_swaps_50 : decode cX8_swaps 50 = .ok (.invokevirtual 234, 3) := by decide +kernel
theorem dX8_swaps_53 : decode cX8_swaps 53 = .ok (.istore 4, 2) := by decide +kernel
theorem dX8_swaps_55 : decode cX8_swaps 55 = .ok (.iconst 0, 1) := by decide +kernel
theorem dX8_swaps_56 : decode cX8_swaps 56 = .ok (.istore 5, 2) := by decide +kernel
theorem dX8_swaps_58 : decode cX8_swaps 58 = .ok (.iload 5, 2) := by decide +kernel
theorem dX8_swaps_60 : decode cX8_swaps 60 = .ok (.bipush 7, 2) := by decide +kernel
theorem dX8_swaps_62 : decode cX8_swaps 62 = .ok (.if_icmp .ge 23, 3) := by decide +kernel
theorem dX8_swaps_65 : decode cX8_swaps 65 = .ok (.iload 4, 2) := by decide +kernel
theorem dX8_swaps_67 : decode cX8_swaps 67 = .ok (.iload_n 3, 1) := by decide +kernel
theorem dX8_swaps_68 : decode cX8_swaps 68 = .ok (.if_icmp .le 17, 3) := by decide +kernel
theorem dX8_swaps_71 : decode cX8_swaps 71 = .ok (.aload_n 0, 1) := by decide +kernel
theorem dX8_swaps_72 : decode cX8_swaps 72 = .ok (.iload 4, 2) := by decide +kernel
theorem dX8_swaps_74 : decode cX8_swaps 74 = .ok (.invokevirtual 234, 3) := by decide +kernel
theorem dX8_swaps_77 : decode cX8_swaps 77 = .ok (.istore 4, 2) := by decide +kernel
theorem dX8_swaps_79 : decode cX8_swaps 79 = .ok (.iinc 5 1, 3) := by decide +kernel
theorem dX8_swaps_82 : decode cX8_swaps 82 = .ok (.goto (-24), 3) := by decide +kernel
theorem dX8_swaps_85 : decode cX8_swaps 85 = .ok (.iload_n 2, 1) := by decide +kernel
theorem dX8_swaps_86 : decode cX8_swaps 86 = .ok (.iload 4, 2) := by decide +kernel
theorem dX8_swaps_88 : decode cX8_swaps 88 = .ok (.iload_n 3, 1) := by decide +kernel
theorem dX8_swaps_89 : decode cX8_swaps 89 = .ok (.if_icmp .ne 7, 3) := by decide +kernel
theorem dX8_swaps_92 : decode cX8_swaps 92 = .ok (.iconst 1, 1) := by decide +kernel
theorem dX8_swaps_93 : decode cX8_swaps 93 = .ok (.goto 4, 3) := by decide +kernel
theorem dX8_swaps_96 : decode cX8_swaps 96 = .ok (.iconst 0, 1) := by decide +kernel
theorem dX8_swaps_97 : decode cX8_swaps 97 = .ok (.iadd, 1) := by decide +kernel
theorem dX8_swaps_98 : decode cX8_swaps 98 = .ok (.istore_n 2, 1) := by decide +kernel
theorem dX8_swaps_99 : decode cX8_swaps 99 = .ok (.iinc 3 1, 3) := by decide +kernel
theorem dX8_swaps_102 : decode cX8_swaps 102 = .ok (.goto (-96), 3) := by decide +kernel
theorem dX8_swaps_105 : decode cX8_swaps 105 = .ok (.iload_n 1, 1) := by decide +kernel
theorem dX8_swaps_106 : decode cX8_swaps 106 = .ok (.iload_n 2, 1) := by decide +kernel
theorem dX8_swaps_107 : decode cX8_swaps 107 = .ok (.isub, 1) := by decide +kernel
theorem dX8_swaps_108 : decode cX8_swaps 108 = .ok (.ireturn, 1) := by decide +kernel
theorem dX8_comesRow_0 : decode cX8_comesRow 0 = .ok (.iload_n 1, 1) := by decide +kernel
theorem dX8_comesRow_1 : decode cX8_comesRow 1 = .ok (.iconst 1, 1) := by decide +kernel
theorem dX8_comesRow_2 : decode cX8_comesRow 2 = .ok (.iadd, 1) := by decide +kernel
theorem dX8_comesRow_3 : decode cX8_comesRow 3 = .ok (.iload_n 2, 1) := by decide +kernel
theorem dX8_comesRow_4 : decode cX8_comesRow 4 = .ok (.aload_n 0, 1) := by decide +kernel
theorem dX8_comesRow_5 : decode cX8_comesRow 5 = .ok (.iload_n 1, 1) := by decide +kernel
theorem dX8_comesRow_6 : decode cX8_comesRow 6 = .ok (.iaload, 1) := by decide +kernel
theorem dX8_comesRow_7 : decode cX8_comesRow 7 = .ok (.imul, 1) := by decide +kernel
theorem dX8_comesRow_8 : decode cX8_comesRow 8 = .ok (.iadd, 1) := by decide +kernel
theorem dX8_comesRow_9 : decode cX8_comesRow 9 = .ok (.istore 7, 2) := by decide +kernel
theorem dX8_comesRow_11 : decode cX8_comesRow 11 = .ok (.aload_n 0, 1) := by decide +kernel
theorem dX8_comesRow_12 : decode cX8_comesRow 12 = .ok (.iload 7, 2) := by decide +kernel
theorem dX8_comesRow_14 : decode cX8_comesRow 14 = .ok (.iload_n 3, 1) := by decide +kernel
theorem dX8_comesRow_15 : decode cX8_comesRow 15 = .ok (.iastore, 1) := by decide +kernel
theorem dX8_comesRow_16 : decode cX8_comesRow 16 = .ok (.aload_n 0, 1) := by decide +kernel
theorem dX8_comesRow_17 : decode cX8_comesRow 17 = .ok (.iload 7, 2) := by decide +kernel
theorem dX8_comesRow_19 : decode cX8_comesRow 19 = .ok (.iconst 1, 1) := by decide +kernel
theorem dX8_comesRow_20 : decode cX8_comesRow 20 = .ok (.iadd, 1) := by decide +kernel
theorem dX8_comesRow_21 : decode cX8_comesRow 21 = .ok (.iload 4, 2) := by decide +kernel
theorem dX8_comesRow_23 : decode cX8_comesRow 23 = .ok (.iastore, 1) := by decide +kernel
theorem dX8_comesRow_24 : decode cX8_comesRow 24 = .ok (.aload_n 0, 1) := by decide +kernel
theorem dX8_comesRow_25 : decode cX8_comesRow 25 = .ok (.iload 7, 2) := by decide +kernel
theorem dX8_comesRow_27 : decode cX8_comesRow 27 = .ok (.iconst 2, 1) := by decide +kernel
theorem dX8_comesRow_28 : decode cX8_comesRow 28 = .ok (.iadd, 1) := by decide +kernel
theorem dX8_comesRow_29 : decode cX8_comesRow 29 = .ok (.iload 5, 2) := by decide +kernel
theorem dX8_comesRow_31 : decode cX8_comesRow 31 = .ok (.iastore, 1) := by decide +kernel
theorem dX8_comesRow_32 : decode cX8_comesRow 32 = .ok (.iload_n 2, 1) := by decide +kernel
theorem dX8_comesRow_33 : decode cX8_comesRow 33 = .ok (.iconst 4, 1) := by decide +kernel
theorem dX8_comesRow_34 : decode cX8_comesRow 34 = .ok (.if_icmp .ne 11, 3) := by decide +kernel
theorem dX8_comesRow_37 : decode cX8_comesRow 37 = .ok (.aload_n 0, 1) := by decide +kernel
theorem dX8_comesRow_38 : decode cX8_comesRow 38 = .ok (.iload 7, 2) := by decide +kernel
theorem dX8_comesRow_40 : decode cX8_comesRow 40 = .ok (.iconst 3, 1) := by decide +kernel
theorem dX8_comesRow_41 : decode cX8_comesRow 41 = .ok (.iadd, 1) := by decide +kernel
theorem dX8_comesRow_42 : decode cX8_comesRow 42 = .ok (.iload 6, 2) := by decide +kernel
theorem dX8_comesRow_44 : decode cX8_comesRow 44 = .ok (.iastore, 1) := by decide +kernel
theorem dX8_comesRow_45 : decode cX8_comesRow 45 = .ok (.aload_n 0, 1) := by decide +kernel
theorem dX8_comesRow_46 : decode cX8_comesRow 46 = .ok (.iload_n 1, 1) := by decide +kernel
theorem dX8_comesRow_47 : decode cX8_comesRow 47 = .ok (.dup2, 1) := by decide +kernel
theorem dX8_comesRow_48 : decode cX8_comesRow 48 = .ok (.iaload, 1) := by decide +kernel
theorem dX8_comesRow_49 : decode cX8_comesRow 49 = .ok (.iconst 1, 1) := by decide +kernel
theorem dX8_comesRow_50 : decode cX8_comesRow 50 = .ok (.iadd, 1) := by decide +kernel
theorem dX8_comesRow_51 : decode cX8_comesRow 51 = .ok (.iastore, 1) := by decide +kernel
theorem dX8_comesRow_52 : decode cX8_comesRow 52 = .ok (.return_, 1) := by decide +kernel
theorem dX8_told_0 : decode cX8_told 0 = .ok (.aload_n 0, 1) := by decide +kernel
theorem dX8_told_1 : decode cX8_told 1 = .ok (.getfield 7, 3) := by decide +kernel
theorem dX8_told_4 : decode cX8_told 4 = .ok (.iload_n 1, 1) := by decide +kernel
theorem dX8_told_5 : decode cX8_told 5 = .ok (.iconst 1, 1) := by decide +kernel
theorem dX8_told_6 : decode cX8_told 6 = .ok (.iadd, 1) := by decide +kernel
theorem dX8_told_7 : decode cX8_told 7 = .ok (.iload_n 2, 1) := by decide +kernel
theorem dX8_told_8 : decode cX8_told 8 = .ok (.iload_n 3, 1) := by decide +kernel
theorem dX8_told_9 : decode cX8_told 9 = .ok (.imul, 1) := by decide +kernel
theorem dX8_told_10 : decode cX8_told 10 = .ok (.iadd, 1) := by decide +kernel
theorem dX8_told_11 : decode cX8_told 11 = .ok (.iload 4, 2) := by decide +kernel
theorem dX8_told_13 : decode cX8_told 13 = .ok (.iadd, 1) := by decide +kernel
theorem dX8_told_14 : decode cX8_told 14 = .ok (.iaload, 1) := by decide +kernel
theorem dX8_told_15 : decode cX8_told 15 = .ok (.ireturn, 1) := by decide +kernel
theorem dX8_seen_0 : decode cX8_seen 0 = .ok (.aload_n 0, 1) := by decide +kernel
theorem dX8_seen_1 : decode cX8_seen 1 = .ok (.iload_n 1, 1) := by decide +kernel
theorem dX8_seen_2 : decode cX8_seen 2 = .ok (.invokevirtual 203, 3) := by decide +kernel
theorem dX8_seen_5 : decode cX8_seen 5 = .ok (.ifCond .eq 27, 3) := by decide +kernel
theorem dX8_seen_8 : decode cX8_seen 8 = .ok (.iload_n 2, 1) := by decide +kernel
theorem dX8_seen_9 : decode cX8_seen 9 = .ok (.i2l, 1) := by decide +kernel
theorem dX8_seen_10 : decode cX8_seen 10 = .ok (.lconst 0, 1) := by decide +kernel
theorem dX8_seen_11 : decode cX8_seen 11 = .ok (.ldc2_w 209, 3) := by decide +kernel
theorem dX8_seen_14 : decode cX8_seen 14 = .ok (.invokestatic 46, 3) := by decide +kernel
theorem dX8_seen_17 : decode cX8_seen 17 = .ok (.ifCond .eq 15, 3) := by decide +kernel
theorem dX8_seen_20 : decode cX8_seen 20 = .ok (.iload_n 3, 1) := by decide +kernel
theorem dX8_seen_21 : decode cX8_seen 21 = .ok (.i2l, 1) := by decide +kernel
theorem dX8_seen_22 : decode cX8_seen 22 = .ok (.lconst 0, 1) := by decide +kernel
theorem dX8_seen_23 : decode cX8_seen 23 = .ok (.ldc2_w 237, 3) := by decide +kernel
theorem dX8_seen_26 : decode cX8_seen 26 = .ok (.invokestatic 46, 3) := by decide +kernel
theorem dX8_seen_29 : decode cX8_seen 29 = .ok (.ifCond .ne 8, 3) := by decide +kernel
theorem dX8_seen_32 : decode cX8_seen 32 = .ok (.aload_n 0, 1) := by decide +kernel
theorem dX8_seen_33 : decode cX8_seen 33 = .ok (.invokevirtual 101, 3) := by decide +kernel
theorem dX8_seen_36 : decode cX8_seen 36 = .ok (.ireturn, 1) := by decide +kernel
theorem dX8_seen_37 : decode cX8_seen 37 = .ok (.aload_n 0, 1) := by decide +kernel
theorem dX8_seen_38 : decode cX8_seen 38 = .ok (.getfield 7, 3) := by decide +kernel
theorem dX8_seen_41 : decode cX8_seen 41 = .ok (.bipush 30, 2) := by decide +kernel
theorem dX8_seen_43 : decode cX8_seen 43 = .ok (.iaload, 1) := by decide +kernel
theorem dX8_seen_44 : decode cX8_seen 44 = .ok (.iconst 5, 1) := by decide +kernel
theorem dX8_seen_45 : decode cX8_seen 45 = .ok (.if_icmp .ne 8, 3) := by decide +kernel
theorem dX8_seen_48 : decode cX8_seen 48 = .ok (.aload_n 0, 1) := by decide +kernel
theorem dX8_seen_49 : decode cX8_seen 49 = .ok (.invokevirtual 109, 3) := by decide +kernel
theorem dX8_seen_52 : decode cX8_seen 52 = .ok (.ireturn, 1) := by decide +kernel
theorem dX8_seen_53 : decode cX8_seen 53 = .ok (.aload_n 0, 1) := by decide +kernel
theorem dX8_seen_54 : decode cX8_seen 54 = .ok (.getfield 7, 3) := by decide +kernel
theorem dX8_seen_57 : decode cX8_seen 57 = .ok (.bipush 30, 2) := by decide +kernel
theorem dX8_seen_59 : decode cX8_seen 59 = .ok (.iconst 3, 1) := by decide +kernel
theorem dX8_seen_60 : decode cX8_seen 60 = .ok (.iload_n 1, 1) := by decide +kernel
theorem dX8_seen_61 : decode cX8_seen 61 = .ok (.iload_n 2, 1) := by decide +kernel
theorem dX8_seen_62 : decode cX8_seen 62 = .ok (.iload_n 3, 1) := by decide +kernel
theorem dX8_seen_63 : decode cX8_seen 63 = .ok (.iconst 0, 1) := by decide +kernel
theorem dX8_seen_64 : decode cX8_seen 64 = .ok (.invokestatic 239, 3) := by decide +kernel
theorem dX8_seen_67 : decode cX8_seen 67 = .ok (.aload_n 0, 1) := by decide +kernel
theorem dX8_seen_68 : decode cX8_seen 68 = .ok (.getfield 7, 3) := by decide +kernel
theorem dX8_seen_71 : decode cX8_seen 71 = .ok (.bipush 30, 2) := by decide +kernel
theorem dX8_seen_73 : decode cX8_seen 73 = .ok (.iaload, 1) := by decide +kernel
theorem dX8_seen_74 : decode cX8_seen 74 = .ok (.ireturn, 1) := by decide +kernel
theorem dX8_passes_0 : decode cX8_passes 0 = .ok (.aload_n 0, 1) := by decide +kernel
theorem dX8_passes_1 : decode cX8_passes 1 = .ok (.getfield 7, 3) := by decide +kernel
theorem dX8_passes_4 : decode cX8_passes 4 = .ok (.iload_n 1, 1) := by decide +kernel
theorem dX8_passes_5 : decode cX8_passes 5 = .ok (.iconst (-1), 1) := by decide +kernel
theorem dX8_passes_6 : decode cX8_passes 6 = .ok (.invokestatic 70, 3) := by decide +kernel
theorem dX8_passes_9 : decode cX8_passes 9 = .ok (.ireturn, 1) := by decide +kernel
theorem dX8_mayBe_0 : decode cX8_mayBe 0 = .ok (.aload_n 0, 1) := by decide +kernel
theorem dX8_mayBe_1 : decode cX8_mayBe 1 = .ok (.getfield 7, 3) := by decide +kernel
theorem dX8_mayBe_4 : decode cX8_mayBe 4 = .ok (.iload_n 2, 1) := by decide +kernel
theorem dX8_mayBe_5 : decode cX8_mayBe 5 = .ok (.invokestatic 171, 3) := by decide +kernel
theorem dX8_mayBe_8 : decode cX8_mayBe 8 = .ok (.istore_n 3, 1) := by decide +kernel
theorem dX8_mayBe_9 : decode cX8_mayBe 9 = .ok (.iconst 0, 1) := by decide +kernel
theorem dX8_mayBe_10 : decode cX8_mayBe 10 = .ok (.istore 4, 2) := by decide +kernel
theorem dX8_mayBe_12 : decode cX8_mayBe 12 = .ok (.iload 4, 2) := by decide +kernel
theorem dX8_mayBe_14 : decode cX8_mayBe 14 = .ok (.aload_n 0, 1) := by decide +kernel
theorem dX8_mayBe_15 : decode cX8_mayBe 15 = .ok (.getfield 7, 3) := by decide +kernel
theorem dX8_mayBe_18 : decode cX8_mayBe 18 = .ok (.bipush 30, 2) := by decide +kernel
theorem dX8_mayBe_20 : decode cX8_mayBe 20 = .ok (.iaload, 1) := by decide +kernel
theorem dX8_mayBe_21 : decode cX8_mayBe 21 = .ok (.if_icmp .ge 73, 3) := by decide +kernel
theorem dX8_mayBe_24 : decode cX8_mayBe 24 = .ok (.iload_n 3, 1) := by decide +kernel
theorem dX8_mayBe_25 : decode cX8_mayBe 25 = .ok (.ifCond .eq 61, 3) := by decide +kernel
theorem dX8_mayBe_28 : decode cX8_mayBe 28 = .ok (.aload_n 0, 1) := by decide +kernel
theorem dX8_mayBe_29 : decode cX8_mayBe 29 = .ok (.bipush 30, 2) := by decide +kernel
theorem dX8_mayBe_31 : decode cX8_mayBe 31 = .ok (.iconst 3, 1) := by decide +kernel
theorem dX8_mayBe_32 : decode cX8_mayBe 32 = .ok (.iload 4, 2) := by decide +kernel
theorem dX8_mayBe_34 : decode cX8_mayBe 34 = .ok (.iconst 0, 1) := by decide +kernel
theorem dX8_mayBe_35 : decode cX8_mayBe 35 = .ok (.invokevirtual 243, 3) := by decide +kernel
theorem dX8_mayBe_38 : decode cX8_mayBe 38 = .ok (.iload_n 1, 1) := by decide +kernel
theorem dX8_mayBe_39 : decode cX8_mayBe 39 = .ok (.if_icmp .ne 43, 3) := by decide +kernel
theorem dX8_mayBe_42 : decode cX8_mayBe 42 = .ok (.aload_n 0, 1) := by decide +kernel
theorem dX8_mayBe_43 : decode cX8_mayBe 43 = .ok (.getfield 7, 3) := by decide +kernel
theorem dX8_mayBe_46 : decode cX8_mayBe 46 = .ok (.iload_n 1, 1) := by decide +kernel
theorem dX8_mayBe_47 : decode cX8_mayBe 47 = .ok (.iconst 0, 1) := by decide +kernel
theorem dX8_mayBe_48 : decode cX8_mayBe 48 = .ok (.invokestatic 55, 3) := by decide +kernel
theorem dX8_mayBe_51 : decode cX8_mayBe 51 = .ok (.aload_n 0, 1) := by decide +kernel
theorem dX8_mayBe_52 : decode cX8_mayBe 52 = .ok (.iload_n 2, 1) := by decide +kernel
theorem dX8_mayBe_53 : decode cX8_mayBe 53 = .ok (.invokevirtual 247, 3) := by decide +kernel
theorem dX8_mayBe_56 : decode cX8_mayBe 56 = .ok (.aload_n 0, 1) := by decide +kernel
theorem dX8_mayBe_57 : decode cX8_mayBe 57 = .ok (.bipush 30, 2) := by decide +kernel
theorem dX8_mayBe_59 : decode cX8_mayBe 59 = .ok (.iconst 3, 1) := by decide +kernel
theorem dX8_mayBe_60 : decode cX8_mayBe 60 = .ok (.iload 4, 2) := by decide +kernel
theorem dX8_mayBe_62 : decode cX8_mayBe 62 = .ok (.iconst 1, 1) := by decide +kernel
theorem dX8_mayBe_63 : decode cX8_mayBe 63 = .ok (.invokevirtual 243, 3) := by decide +kernel
theorem dX8_mayBe_66 : decode cX8_mayBe 66 = .ok (.invokestatic 73, 3) := by decide +kernel
theorem dX8_mayBe_69 : decode cX8_mayBe 69 = .ok (.aload_n 0, 1) := by decide +kernel
theorem dX8_mayBe_70 : decode cX8_mayBe 70 = .ok (.bipush 30, 2) := by decide +kernel
theorem dX8_mayBe_72 : decode cX8_mayBe 72 = .ok (.iconst 3, 1) := by decide +kernel
theorem dX8_mayBe_73 : decode cX8_mayBe 73 = .ok (.iload 4, 2) := by decide +kernel
theorem dX8_mayBe_75 : decode cX8_mayBe 75 = .ok (.iconst 2, 1) := by decide +kernel
theorem dX8_mayBe_76 : decode cX8_mayBe 76 = .ok (.invokevirtual 243, 3) := by decide +kernel
theorem dX8_mayBe_79 : decode cX8_mayBe 79 = .ok (.if_icmp .ne 7, 3) := by decide +kernel
theorem dX8_mayBe_82 : decode cX8_mayBe 82 = .ok (.iconst 1, 1) := by decide +kernel
theorem dX8_mayBe_83 : decode cX8_mayBe 83 = .ok (.goto 4, 3) := by decide +kernel
theorem dX8_mayBe_86 : decode cX8_mayBe 86 = .ok (.iconst 0, 1) := by decide +kernel
theorem dX8_mayBe_87 : decode cX8_mayBe 87 = .ok (.istore_n 3, 1) := by decide +kernel
theorem dX8_mayBe_88 : decode cX8_mayBe 88 = .ok (.iinc 4 1, 3) := by decide +kernel
theorem dX8_mayBe_91 : decode cX8_mayBe 91 = .ok (.goto (-79), 3) := by decide +kernel
theorem dX8_mayBe_94 : decode cX8_mayBe 94 = .ok (.iload_n 3, 1) := by decide +kernel
theorem dX8_mayBe_95 : decode cX8_mayBe 95 = .ok (.ireturn, 1) := by decide +kernel
theorem dX8_where_0 : decode cX8_where 0 = .ok (.aload_n 0, 1) := by decide +kernel
theorem dX8_where_1 : decode cX8_where 1 = .ok (.iload_n 1, 1) := by decide +kernel
theorem dX8_where_2 : decode cX8_where 2 = .ok (.invokevirtual 203, 3) := by decide +kernel
theorem dX8_where_5 : decode cX8_where 5 = .ok (.ifCond .eq 8, 3) := by decide +kernel
theorem dX8_where_8 : decode cX8_where 8 = .ok (.iload_n 2, 1) := by decide +kernel
theorem dX8_where_9 : decode cX8_where 9 = .ok (.iconst (-1), 1) := by decide +kernel
theorem dX8_where_10 : decode cX8_where 10 = .ok (.if_icmp .ge 10, 3) := by decide +kernel
theorem dX8_where_13 : decode cX8_where 13 = .ok (.aload_n 0, 1) := by decide +kernel
theorem dX8_where_14 : decode cX8_where 14 = .ok (.bipush (-10), 2) := by decide +kernel
theorem dX8_where_16 : decode cX8_where 16 = .ok (.invokevirtual 219, 3) := by decide +kernel
theorem dX8_where_19 : decode cX8_where 19 = .ok (.ireturn, 1) := by decide +kernel
theorem dX8_where_20 : decode cX8_where 20 = .ok (.iconst 0, 1) := by decide +kernel
theorem dX8_where_21 : decode cX8_where 21 = .ok (.istore_n 3, 1) := by decide +kernel
theorem dX8_where_22 : decode cX8_where 22 = .ok (.bipush (-5), 2) := by decide +kernel
theorem dX8_where_24 : decode cX8_where 24 = .ok (.istore 4, 2) := by decide +kernel
theorem dX8_where_26 : decode cX8_where 26 = .ok (.iconst 0, 1) := by decide +kernel
theorem dX8_where_27 : decode cX8_where 27 = .ok (.istore 5, 2) := by decide +kernel
theorem dX8_where_29 : decode cX8_where 29 = .ok (.iload 5, 2) := by decide +kernel
theorem dX8_where_31 : decode cX8_where 31 = .ok (.bipush 30, 2) := by decide +kernel
theorem dX8_where_33 : decode cX8_where 33 = .ok (.if_icmp .ge 36, 3) := by decide +kernel
theorem dX8_where_36 : decode cX8_where 36 = .ok (.aload_n 0, 1) := by decide +kernel
theorem dX8_where_37 : decode cX8_where 37 = .ok (.iload_n 1, 1) := by decide +kernel
theorem dX8_where_38 : decode cX8_where 38 = .ok (.iload 5, 2) := by decide +kernel
theorem dX8_where_40 : decode cX8_where 40 = .ok (.invokevirtual 250, 3) := by decide +kernel
theorem dX8_where_43 : decode cX8_where 43 = .ok (.ifCond .eq 20, 3) := by decide +kernel
theorem dX8_where_46 : decode cX8_where 46 = .ok (.iload_n 3, 1) := by decide +kernel
theorem dX8_where_47 : decode cX8_where 47 = .ok (.iload_n 2, 1) := by decide +kernel
theorem dX8_where_48 : decode cX8_where 48 = .ok (.if_icmp .ne 8, 3) := by decide +kernel
theorem dX8_where_51 : decode cX8_where 51 = .ok (.iload 5, 2) := by decide +kernel
theorem dX8_where_53 : decode cX8_where 53 = .ok (.goto 5, 3) := by decide +kernel
theorem dX8_where_56 : decode cX8_where 56 = .ok (.iload 4, 2) := by decide +kernel
theorem dX8_where_58 : decode cX8_where 58 = .ok (.istore 4, 2) := by decide +kernel
theorem dX8_where_60 : decode cX8_where 60 = .ok (.iinc 3 1, 3) := by decide +kernel
theorem dX8_where_63 : decode cX8_where 63 = .ok (.iinc 5 1, 3) := by decide +kernel
theorem dX8_where_66 : decode cX8_where 66 = .ok (.goto (-37), 3) := by decide +kernel
theorem dX8_where_69 : decode cX8_where 69 = .ok (.iload_n 2, 1) := by decide +kernel
theorem dX8_where_70 : decode cX8_where 70 = .ok (.iconst (-1), 1) := by decide +kernel
theorem dX8_where_71 : decode cX8_where 71 = .ok (.if_icmp .ne 7, 3) := by decide +kernel
theorem dX8_where_74 : decode cX8_where 74 = .ok (.iload_n 3, 1) := by decide +kernel
theorem dX8_where_75 : decode cX8_where 75 = .ok (.goto 5, 3) := by decide +kernel
theorem dX8_where_78 : decode cX8_where 78 = .ok (.iload 4, 2) := by decide +kernel
theorem dX8_where_80 : decode cX8_where 80 = .ok (.ireturn, 1) := by decide +kernel
theorem dX8_clearAlike_0 : decode cX8_clearAlike 0 = .ok (.iconst 0, 1) := by decide +kernel
theorem dX8_clearAlike_1 : decode cX8_clearAlike 1 = .ok (.istore_n 1, 1) := by decide +kernel
theorem dX8_clearAlike_2 : decode cX8_clearAlike 2 = .ok (.iload_n 1, 1) := by decide +kernel
theorem dX8_clearAlike_3 : decode cX8_clearAlike 3 = .ok (.bipush 41, 2) := by decide +kernel
theorem dX8_clearAlike_5 : decode cX8_clearAlike 5 = .ok (.if_icmp .ge 16, 3) := by decide +kernel
theorem dX8_clearAlike_8 : decode cX8_clearAlike 8 = .ok (.aload_n 0, 1) := by decide +kernel
theorem dX8_clearAlike_9 : decode cX8_clearAlike 9 = .ok (.getfield 43, 3) := by decide +kernel
theorem dX8_clearAlike_12 : decode cX8_clearAlike 12 = .ok (.iload_n 1, 1) := by decide +kernel
theorem dX8_clearAlike_13 : decode cX8_clearAlike 13 = .ok (.iconst 0, 1) := by decide +kernel
theorem dX8_clearAlike_14 : decode cX8_clearAlike 14 = .ok (.iastore, 1) := by decide +kernel
theorem dX8_clearAlike_15 : decode cX8_clearAlike 15 = .ok (.iinc 1 1, 3) := by decide +kernel
theorem dX8_clearAlike_18 : decode cX8_clearAlike 18 = .ok (.goto (-16), 3) := by decide +kernel
theorem dX8_clearAlike_21 : decode cX8_clearAlike 21 = .ok (.return_, 1) := by decide +kernel
theorem dX8_mostAlike_0 : decode cX8_mostAlike 0 = .ok (.iconst 0, 1) := by decide +kernel
theorem dX8_mostAlike_1 : decode cX8_mostAlike 1 = .ok (.istore_n 1, 1) := by decide +kernel
theorem dX8_mostAlike_2 : decode cX8_mostAlike 2 = .ok (.iconst 0, 1) := by decide +kernel
theorem dX8_mostAlike_3 : decode cX8_mostAlike 3 = .ok (.istore_n 2, 1) := by decide +kernel
theorem dX8_mostAlike_4 : decode cX8_mostAlike 4 = .ok (.iload_n 2, 1) := by decide +kernel
theorem dX8_mostAlike_5 : decode cX8_mostAlike 5 = .ok (.bipush 41, 2) := by decide +kernel
theorem dX8_mostAlike_7 : decode cX8_mostAlike 7 = .ok (.if_icmp .ge 30, 3) := by decide +kernel
theorem dX8_mostAlike_10 : decode cX8_mostAlike 10 = .ok (.aload_n 0, 1) := by decide +kernel
theorem dX8_mostAlike_11 : decode cX8_mostAlike 11 = .ok (.getfield 43, 3) := by decide +kernel
theorem dX8_mostAlike_14 : decode cX8_mostAlike 14 = .ok (.iload_n 2, 1) := by decide +kernel
theorem dX8_mostAlike_15 : decode cX8_mostAlike 15 = .ok (.iaload, 1) := by decide +kernel
theorem dX8_mostAlike_16 : decode cX8_mostAlike 16 = .ok (.iload_n 1, 1) := by decide +kernel
theorem dX8_mostAlike_17 : decode cX8_mostAlike 17 = .ok (.if_icmp .le 12, 3) := by decide +kernel
theorem dX8_mostAlike_20 : decode cX8_mostAlike 20 = .ok (.aload_n 0, 1) := by decide +kernel
theorem dX8_mostAlike_21 : decode cX8_mostAlike 21 = .ok (.getfield 43, 3) := by decide +kernel
theorem dX8_mostAlike_24 : decode cX8_mostAlike 24 = .ok (.iload_n 2, 1) := by decide +kernel
theorem dX8_mostAlike_25 : decode cX8_mostAlike 25 = .ok (.iaload, 1) := by decide +kernel
theorem dX8_mostAlike_26 : decode cX8_mostAlike 26 = .ok (.goto 4, 3) := by decide +kernel
theorem dX8_mostAlike_29 : decode cX8_mostAlike 29 = .ok (.iload_n 1, 1) := by decide +kernel
theorem dX8_mostAlike_30 : decode cX8_mostAlike 30 = .ok (.istore_n 1, 1) := by decide +kernel
theorem dX8_mostAlike_31 : decode cX8_mostAlike 31 = .ok (.iinc 2 1, 3) := by decide +kernel
theorem dX8_mostAlike_34 : decode cX8_mostAlike 34 = .ok (.goto (-30), 3) := by decide +kernel
theorem dX8_mostAlike_37 : decode cX8_mostAlike 37 = .ok (.iload_n 1, 1) := by decide +kernel
theorem dX8_mostAlike_38 : decode cX8_mostAlike 38 = .ok (.ireturn, 1) := by decide +kernel
theorem dX8_tell_0 : decode cX8_tell 0 = .ok (.aload_n 0, 1) := by decide +kernel
theorem dX8_tell_1 : decode cX8_tell 1 = .ok (.iload_n 1, 1) := by decide +kernel
theorem dX8_tell_2 : decode cX8_tell 2 = .ok (.invokevirtual 203, 3) := by decide +kernel
theorem dX8_tell_5 : decode cX8_tell 5 = .ok (.ifCond .ne 8, 3) := by decide +kernel
theorem dX8_tell_8 : decode cX8_tell 8 = .ok (.aload_n 0, 1) := by decide +kernel
theorem dX8_tell_9 : decode cX8_tell 9 = .ok (.invokevirtual 101, 3) := by decide +kernel
theorem dX8_tell_12 : decode cX8_tell 12 = .ok (.ireturn, 1) := by decide +kernel
theorem dX8_tell_13 : decode cX8_tell 13 = .ok (.iconst (-1), 1) := by decide +kernel
theorem dX8_tell_14 : decode cX8_tell 14 = .ok (.istore_n 2, 1) := by decide +kernel
theorem dX8_tell_15 : decode cX8_tell 15 = .ok (.bipush 99, 2) := by decide +kernel
theorem dX8_tell_17 : decode cX8_tell 17 = .ok (.istore_n 3, 1) := by decide +kernel
theorem dX8_tell_18 : decode cX8_tell 18 = .ok (.iconst 0, 1) := by decide +kernel
theorem dX8_tell_19 : decode cX8_tell 19 = .ok (.istore 4, 2) := by decide +kernel
theorem dX8_tell_21 : decode cX8_tell 21 = .ok (.iload 4, 2) := by decide +kernel
theorem dX8_tell_23 : decode cX8_tell 23 = .ok (.bipush 20, 2) := by decide +kernel
theorem dX8_tell_25 : decode cX8_tell 25 = .ok (.if_icmp .ge 91, 3) := by decide +kernel
theorem dX8_tell_28 : decode cX8_tell 28 = .ok (.aload_n 0, 1) := by decide +kernel
theorem dX8_tell_29 : decode cX8_tell 29 = .ok (.invokevirtual 253, 3) := by decide +kernel
theorem dX8_tell_32 : decode cX8_tell 32 = .ok (.iconst 0, 1) := by decide +kernel
theorem dX8_tell_33 : decode cX8_tell 33 = .ok (.istore 5, 2) := by decide +kernel
theorem dX8_tell_35 : decode cX8_tell 35 = .ok (.iload 5, 2) := by decide +kernel
theorem dX8_tell_37 : decode cX8_tell 37 = .ok (.bipush 30, 2) := by decide +kernel
theorem dX8_tell_39 : decode cX8_tell 39 = .ok (.if_icmp .ge 48, 3) := by decide +kernel
theorem dX8_tell_42 : decode cX8_tell 42 = .ok (.aload_n 0, 1) := by decide +kernel
theorem dX8_tell_43 : decode cX8_tell 43 = .ok (.iload_n 1, 1) := by decide +kernel
theorem dX8_tell_44 : decode cX8_tell 44 = .ok (.iload 5, 2) := by decide +kernel
theorem dX8_tell_46 : decode cX8_tell 46 = .ok (.invokevirtual 250, 3) := by decide +kernel
theorem dX8_tell_49 : decode cX8_tell 49 = .ok (.ifCond .eq 32, 3) := by decide +kernel
theorem dX8_tell_52 : decode cX8_tell 52 = .ok (.aload_n 0, 1) := by decide +kernel
theorem dX8_tell_53 : decode cX8_tell 53 = .ok (.getfield 43, 3) := by decide +kernel
theorem dX8_tell_56 : decode cX8_tell 56 = .ok (.aload_n 0, 1) := by decide +kernel
theorem dX8_tell_57 : decode cX8_tell 57 = .ok (.getfield 7, 3) := by decide +kernel
theorem dX8_tell_60 : decode cX8_tell 60 = .ok (.iload_n 1, 1) := by decide +kernel
theorem dX8_tell_61 : decode cX8_tell 61 = .ok (.iconst 0, 1) := by decide +kernel
theorem dX8_tell_62 : decode cX8_tell 62 = .ok (.invokestatic 55, 3) := by decide +kernel
theorem dX8_tell_65 : decode cX8_tell 65 = .ok (.aload_n 0, 1) := by decide +kernel
theorem dX8_tell_66 : decode cX8_tell 66 = .ok (.iload 5, 2) := by decide +kernel
theorem dX8_tell_68 : decode cX8_tell 68 = .ok (.invokevirtual 247, 3) := by decide +kernel
theorem dX8_tell_71 : decode cX8_tell 71 = .ok (.iload 4, 2) := by decide +kernel
theorem dX8_tell_73 : decode cX8_tell 73 = .ok (.invokestatic 73, 3) := by decide +kernel
theorem dX8_tell_76 : decode cX8_tell 76 = .ok (.dup2, 1) := by decide +kernel
theorem dX8_tell_77 : decode cX8_tell 77 = .ok (.iaload, 1) := by decide +kernel
theorem dX8_tell_78 : decode cX8_tell 78 = .ok (.iconst 1, 1) := by decide +kernel
theorem dX8_tell_79 : decode cX8_tell 79 = .ok (.iadd, 1) := by decide +kernel
theorem dX8_tell_80 : decode cX8_tell 80 = .ok (.iastore, 1) := by decide +kernel
theorem dX8_tell_81 : decode cX8_tell 81 = .ok (.iinc 5 1, 3) := by decide +kernel
theorem dX8_tell_84 : decode cX8_tell 84 = .ok (.goto (-49), 3) := by decide +kernel
theorem dX8_tell_87 : decode cX8_tell 87 = .ok (.aload_n 0, 1) := by decide +kernel
theorem dX8_tell_88 : decode cX8_tell 88 = .ok (.invokevirtual 256, 3) := by decide +kernel
theorem dX8_tell_91 : decode cX8_tell 91 = .ok (.ifCond .le 19, 3) := by decide +kernel
theorem dX8_tell_94 : decode cX8_tell 94 = .ok (.aload_n 0, 1) := by decide +kernel
theorem dX8_tell_95 : decode cX8_tell 95 = .ok (.invokevirtual 256, 3) := by decide +kernel
theorem dX8_tell_98 : decode cX8_tell 98 = .ok (.iload_n 3, 1) := by decide +kernel
theorem dX8_tell_99 : decode cX8_tell 99 = .ok (.if_icmp .ge 11, 3) := by decide +kernel
theorem dX8_tell_102 : decode cX8_tell 102 = .ok (.aload_n 0, 1) := by decide +kernel
theorem dX8_tell_103 : decode cX8_tell 103 = .ok (.invokevirtual 256, 3) := by decide +kernel
theorem dX8_tell_106 : decode cX8_tell 106 = .ok (.istore_n 3, 1) := by decide +kernel
theorem dX8_tell_107 : decode cX8_tell 107 = .ok (.iload 4, 2) := by decide +kernel
theorem dX8_tell_109 : decode cX8_tell 109 = .ok (.istore_n 2, 1) := by decide +kernel
theorem dX8_tell_110 : decode cX8_tell 110 = .ok (.iinc 4 1, 3) := by decide +kernel
theorem dX8_tell_113 : decode cX8_tell 113 = .ok (.goto (-92), 3) := by decide +kernel
theorem dX8_tell_116 : decode cX8_tell 116 = .ok (.iload_n 2, 1) := by decide +kernel
theorem dX8_tell_117 : decode cX8_tell 117 = .ok (.ireturn, 1) := by decide +kernel
theorem dX8_note_0 : decode cX8_note 0 = .ok (.iload_n 1, 1) := by decide +kernel
theorem dX8_note_1 : decode cX8_note 1 = .ok (.i2l, 1) := by decide +kernel
theorem dX8_note_2 : decode cX8_note 2 = .ok (.lconst 0, 1) := by decide +kernel
theorem dX8_note_3 : decode cX8_note 3 = .ok (.ldc2_w 97, 3) := by decide +kernel
theorem dX8_note_6 : decode cX8_note 6 = .ok (.invokestatic 46, 3) := by decide +kernel
theorem dX8_note_9 : decode cX8_note 9 = .ok (.ifCond .eq 27, 3) := by decide +kernel
theorem dX8_note_12 : decode cX8_note 12 = .ok (.iload_n 2, 1) := by decide +kernel
theorem dX8_note_13 : decode cX8_note 13 = .ok (.i2l, 1) := by decide +kernel
theorem dX8_note_14 : decode cX8_note 14 = .ok (.lconst 0, 1) := by decide +kernel
theorem dX8_note_15 : decode cX8_note 15 = .ok (.ldc2_w 99, 3) := by decide +kernel
theorem dX8_note_18 : decode cX8_note 18 = .ok (.invokestatic 46, 3) := by decide +kernel
theorem dX8_note_21 : decode cX8_note 21 = .ok (.ifCond .eq 15, 3) := by decide +kernel
theorem dX8_note_24 : decode cX8_note 24 = .ok (.iload_n 3, 1) := by decide +kernel
theorem dX8_note_25 : decode cX8_note 25 = .ok (.i2l, 1) := by decide +kernel
theorem dX8_note_26 : decode cX8_note 26 = .ok (.lconst 0, 1) := by decide +kernel
theorem dX8_note_27 : decode cX8_note 27 = .ok (.ldc2_w 259, 3) := by decide +kernel
theorem dX8_note_30 : decode cX8_note 30 = .ok (.invokestatic 46, 3) := by decide +kernel
theorem dX8_note_33 : decode cX8_note 33 = .ok (.ifCond .ne 8, 3) := by decide +kernel
theorem dX8_note_36 : decode cX8_note 36 = .ok (.aload_n 0, 1) := by decide +kernel
theorem dX8_note_37 : decode cX8_note 37 = .ok (.invokevirtual 101, 3) := by decide +kernel
theorem dX8_note_40 : decode cX8_note 40 = .ok (.ireturn, 1) := by decide +kernel
theorem dX8_note_41 : decode cX8_note 41 = .ok (.aload_n 0, 1) := by decide +kernel
theorem dX8_note_42 : decode cX8_note 42 = .ok (.getfield 7, 3) := by decide +kernel
theorem dX8_note_45 : decode cX8_note 45 = .ok (.bipush 46, 2) := by decide +kernel
theorem dX8_note_47 : decode cX8_note 47 = .ok (.iaload, 1) := by decide +kernel
theorem dX8_note_48 : decode cX8_note 48 = .ok (.bipush 6, 2) := by decide +kernel
theorem dX8_note_50 : decode cX8_note 50 = .ok (.if_icmp .ne 8, 3) := by decide +kernel
theorem dX8_note_53 : decode cX8_note 53 = .ok (.aload_n 0, 1) := by decide +kernel
theorem dX8_note_54 : decode cX8_note 54 = .ok (.invokevirtual 109, 3) := by decide +kernel
theorem dX8_note_57 : decode cX8_note 57 = .ok (.ireturn, 1) := by decide +kernel
theorem dX8_note_58 : decode cX8_note 58 = .ok (.aload_n 0, 1) := by decide +kernel
theorem dX8_note_59 : decode cX8_note 59 = .ok (.getfield 7, 3) := by decide +kernel
theorem dX8_note_62 : decode cX8_note 62 = .ok (.bipush 46, 2) := by decide +kernel
theorem dX8_note_64 : decode cX8_note 64 = .ok (.iconst 3, 1) := by decide +kernel
theorem dX8_note_65 : decode cX8_note 65 = .ok (.iload_n 1, 1) := by decide +kernel
theorem dX8_note_66 : decode cX8_note 66 = .ok (.iload_n 2, 1) := by decide +kernel
theorem dX8_note_67 : decode cX8_note 67 = .ok (.iload_n 3, 1) := by decide +kernel
theorem dX8_note_68 : decode cX8_note 68 = .ok (.iconst 0, 1) := by decide +kernel
theorem dX8_note_69 : decode cX8_note 69 = .ok (.invokestatic 239, 3) := by decide +kernel
theorem dX8_note_72 : decode cX8_note 72 = .ok (.aload_n 0, 1) := by decide +kernel
theorem dX8_note_73 : decode cX8_note 73 = .ok (.getfield 7, 3) := by decide +kernel
theorem dX8_note_76 : decode cX8_note 76 = .ok (.bipush 46, 2) := by decide +kernel
theorem dX8_note_78 : decode cX8_note 78 = .ok (.iaload, 1) := by decide +kernel
theorem dX8_note_79 : decode cX8_note 79 = .ok (.ireturn, 1) := by decide +kernel
theorem dX8_mark_0 : decode cX8_mark 0 = .ok (.aload_n 0, 1) := by decide +kernel
theorem dX8_mark_1 : decode cX8_mark 1 = .ok (.iload_n 1, 1) := by decide +kernel
theorem dX8_mark_2 : decode cX8_mark 2 = .ok (.invokevirtual 203, 3) := by decide +kernel
theorem dX8_mark_5 : decode cX8_mark 5 = .ok (.ifCond .eq 40, 3) := by decide +kernel
theorem dX8_mark_8 : decode cX8_mark 8 = .ok (.iload_n 2, 1) := by decide +kernel
theorem dX8_mark_9 : decode cX8_mark 9 = .ok (.i2l, 1) := by decide +kernel
theorem dX8_mark_10 : decode cX8_mark 10 = .ok (.lconst 0, 1) := by decide +kernel
theorem dX8_mark_11 : decode cX8_mark 11 = .ok (.ldc2_w 99, 3) := by decide +kernel
theorem dX8_mark_14 : decode cX8_mark 14 = .ok (.invokestatic 46, 3) := by decide +kernel
theorem dX8_mark_17 : decode cX8_mark 17 = .ok (.ifCond .eq 28, 3) := by decide +kernel
theorem dX8_mark_20 : decode cX8_mark 20 = .ok (.iload_n 3, 1) := by decide +kernel
theorem dX8_mark_21 : decode cX8_mark 21 = .ok (.i2l, 1) := by decide +kernel
theorem dX8_mark_22 : decode cX8_mark 22 = .ok (.lconst 0, 1) := by decide +kernel
theorem dX8_mark_23 : decode cX8_mark 23 = .ok (.ldc2_w 209, 3) := by decide +kernel
theorem dX8_mark_26 : decode cX8_mark 26 = .ok (.invokestatic 46, 3) := by decide +kernel
theorem dX8_mark_29 : decode cX8_mark 29 = .ok (.ifCond .eq 16, 3) := by decide +kernel
theorem dX8_mark_32 : decode cX8_mark 32 = .ok (.iload 4, 2) := by decide +kernel
theorem dX8_mark_34 : decode cX8_mark 34 = .ok (.i2l, 1) := by decide +kernel
theorem dX8_mark_35 : decode cX8_mark 35 = .ok (.lconst 0, 1) := by decide +kernel
theorem dX8_mark_36 : decode cX8_mark 36 = .ok (.ldc2_w 237, 3) := by decide +kernel
theorem dX8_mark_39 : decode cX8_mark 39 = .ok (.invokestatic 46, 3) := by decide +kernel
theorem dX8_mark_42 : decode cX8_mark 42 = .ok (.ifCond .ne 8, 3) := by decide +kernel
theorem dX8_mark_45 : decode cX8_mark 45 = .ok (.aload_n 0, 1) := by decide +kernel
theorem dX8_mark_46 : decode cX8_mark 46 = .ok (.invokevirtual 101, 3) := by decide +kernel
end
section
theorem dX8_mark_49 : decode cX8_mark 49 = .ok (.ireturn, 1) := by decide +kernel
theorem dX8_mark_50 : decode cX8_mark 50 = .ok (.aload_n 0, 1) := by decide +kernel
theorem dX8_mark_51 : decode cX8_mark 51 = .ok (.getfield 7, 3) := by decide +kernel
theorem dX8_mark_54 : decode cX8_mark 54 = .ok (.bipush 65, 2) := by decide +kernel
theorem dX8_mark_56 : decode cX8_mark 56 = .ok (.iaload, 1) := by decide +kernel
theorem dX8_mark_57 : decode cX8_mark 57 = .ok (.bipush 6, 2) := by decide +kernel
theorem dX8_mark_59 : decode cX8_mark 59 = .ok (.if_icmp .ne 8, 3) := by decide +kernel
theorem dX8_mark_62 : decode cX8_mark 62 = .ok (.aload_n 0, 1) := by decide +kernel
theorem dX8_mark_63 : decode cX8_mark 63 = .ok (.invokevirtual 109, 3) := by decide +kernel
theorem dX8_mark_66 : decode cX8_mark 66 = .ok (.ireturn, 1) := by decide +kernel
theorem dX8_mark_67 : decode cX8_mark 67 = .ok (.aload_n 0, 1) := by decide +kernel
theorem dX8_mark_68 : decode cX8_mark 68 = .ok (.getfield 7, 3) := by decide +kernel
theorem dX8_mark_71 : decode cX8_mark 71 = .ok (.bipush 65, 2) := by decide +kernel
theorem dX8_mark_73 : decode cX8_mark 73 = .ok (.iconst 4, 1) := by decide +kernel
theorem dX8_mark_74 : decode cX8_mark 74 = .ok (.iload_n 1, 1) := by decide +kernel
theorem dX8_mark_75 : decode cX8_mark 75 = .ok (.iload_n 2, 1) := by decide +kernel
theorem dX8_mark_76 : decode cX8_mark 76 = .ok (.iload_n 3, 1) := by decide +kernel
theorem dX8_mark_77 : decode cX8_mark 77 = .ok (.iload 4, 2) := by decide +kernel
theorem dX8_mark_79 : decode cX8_mark 79 = .ok (.invokestatic 239, 3) := by decide +kernel
theorem dX8_mark_82 : decode cX8_mark 82 = .ok (.aload_n 0, 1) := by decide +kernel
theorem dX8_mark_83 : decode cX8_mark 83 = .ok (.getfield 7, 3) := by decide +kernel
theorem dX8_mark_86 : decode cX8_mark 86 = .ok (.bipush 65, 2) := by decide +kernel
theorem dX8_mark_88 : decode cX8_mark 88 = .ok (.iaload, 1) := by decide +kernel
theorem dX8_mark_89 : decode cX8_mark 89 = .ok (.ireturn, 1) := by decide +kernel
theorem dX8_forget_0 : decode cX8_forget 0 = .ok (.iload_n 1, 1) := by decide +kernel
theorem dX8_forget_1 : decode cX8_forget 1 = .ok (.i2l, 1) := by decide +kernel
theorem dX8_forget_2 : decode cX8_forget 2 = .ok (.lconst 0, 1) := by decide +kernel
theorem dX8_forget_3 : decode cX8_forget 3 = .ok (.ldc2_w 211, 3) := by decide +kernel
theorem dX8_forget_6 : decode cX8_forget 6 = .ok (.invokestatic 46, 3) := by decide +kernel
theorem dX8_forget_9 : decode cX8_forget 9 = .ok (.ifCond .ne 8, 3) := by decide +kernel
theorem dX8_forget_12 : decode cX8_forget 12 = .ok (.aload_n 0, 1) := by decide +kernel
theorem dX8_forget_13 : decode cX8_forget 13 = .ok (.invokevirtual 101, 3) := by decide +kernel
theorem dX8_forget_16 : decode cX8_forget 16 = .ok (.ireturn, 1) := by decide +kernel
theorem dX8_forget_17 : decode cX8_forget 17 = .ok (.iload_n 1, 1) := by decide +kernel
theorem dX8_forget_18 : decode cX8_forget 18 = .ok (.ifCond .ne 8, 3) := by decide +kernel
theorem dX8_forget_21 : decode cX8_forget 21 = .ok (.bipush 30, 2) := by decide +kernel
theorem dX8_forget_23 : decode cX8_forget 23 = .ok (.goto 15, 3) := by decide +kernel
theorem dX8_forget_26 : decode cX8_forget 26 = .ok (.iload_n 1, 1) := by decide +kernel
theorem dX8_forget_27 : decode cX8_forget 27 = .ok (.iconst 1, 1) := by decide +kernel
theorem dX8_forget_28 : decode cX8_forget 28 = .ok (.if_icmp .ne 8, 3) := by decide +kernel
theorem dX8_forget_31 : decode cX8_forget 31 = .ok (.bipush 46, 2) := by decide +kernel
theorem dX8_forget_33 : decode cX8_forget 33 = .ok (.goto 5, 3) := by decide +kernel
theorem dX8_forget_36 : decode cX8_forget 36 = .ok (.bipush 65, 2) := by decide +kernel
theorem dX8_forget_38 : decode cX8_forget 38 = .ok (.istore_n 2, 1) := by decide +kernel
theorem dX8_forget_39 : decode cX8_forget 39 = .ok (.aload_n 0, 1) := by decide +kernel
theorem dX8_forget_40 : decode cX8_forget 40 = .ok (.getfield 7, 3) := by decide +kernel
theorem dX8_forget_43 : decode cX8_forget 43 = .ok (.iload_n 2, 1) := by decide +kernel
theorem dX8_forget_44 : decode cX8_forget 44 = .ok (.iaload, 1) := by decide +kernel
theorem dX8_forget_45 : decode cX8_forget 45 = .ok (.istore_n 3, 1) := by decide +kernel
theorem dX8_forget_46 : decode cX8_forget 46 = .ok (.aload_n 0, 1) := by decide +kernel
theorem dX8_forget_47 : decode cX8_forget 47 = .ok (.getfield 7, 3) := by decide +kernel
theorem dX8_forget_50 : decode cX8_forget 50 = .ok (.iload_n 2, 1) := by decide +kernel
theorem dX8_forget_51 : decode cX8_forget 51 = .ok (.iconst 0, 1) := by decide +kernel
theorem dX8_forget_52 : decode cX8_forget 52 = .ok (.iastore, 1) := by decide +kernel
theorem dX8_forget_53 : decode cX8_forget 53 = .ok (.iload_n 3, 1) := by decide +kernel
theorem dX8_forget_54 : decode cX8_forget 54 = .ok (.ireturn, 1) := by decide +kernel
theorem dX8_isBits_0 : decode cX8_isBits 0 = .ok (.iconst 0, 1) := by decide +kernel
theorem dX8_isBits_1 : decode cX8_isBits 1 = .ok (.istore_n 2, 1) := by decide +kernel
theorem dX8_isBits_2 : decode cX8_isBits 2 = .ok (.iconst 0, 1) := by decide +kernel
theorem dX8_isBits_3 : decode cX8_isBits 3 = .ok (.istore_n 3, 1) := by decide +kernel
theorem dX8_isBits_4 : decode cX8_isBits 4 = .ok (.iload_n 3, 1) := by decide +kernel
theorem dX8_isBits_5 : decode cX8_isBits 5 = .ok (.bipush 6, 2) := by decide +kernel
theorem dX8_isBits_7 : decode cX8_isBits 7 = .ok (.if_icmp .ge 101, 3) := by decide +kernel
theorem dX8_isBits_10 : decode cX8_isBits 10 = .ok (.iconst 1, 1) := by decide +kernel
theorem dX8_isBits_11 : decode cX8_isBits 11 = .ok (.istore 4, 2) := by decide +kernel
theorem dX8_isBits_13 : decode cX8_isBits 13 = .ok (.iconst 0, 1) := by decide +kernel
theorem dX8_isBits_14 : decode cX8_isBits 14 = .ok (.istore 5, 2) := by decide +kernel
theorem dX8_isBits_16 : decode cX8_isBits 16 = .ok (.iload 5, 2) := by decide +kernel
theorem dX8_isBits_18 : decode cX8_isBits 18 = .ok (.aload_n 0, 1) := by decide +kernel
theorem dX8_isBits_19 : decode cX8_isBits 19 = .ok (.getfield 7, 3) := by decide +kernel
theorem dX8_isBits_22 : decode cX8_isBits 22 = .ok (.bipush 46, 2) := by decide +kernel
theorem dX8_isBits_24 : decode cX8_isBits 24 = .ok (.iaload, 1) := by decide +kernel
theorem dX8_isBits_25 : decode cX8_isBits 25 = .ok (.if_icmp .ge 62, 3) := by decide +kernel
theorem dX8_isBits_28 : decode cX8_isBits 28 = .ok (.iload 4, 2) := by decide +kernel
theorem dX8_isBits_30 : decode cX8_isBits 30 = .ok (.ifCond .eq 48, 3) := by decide +kernel
theorem dX8_isBits_33 : decode cX8_isBits 33 = .ok (.aload_n 0, 1) := by decide +kernel
theorem dX8_isBits_34 : decode cX8_isBits 34 = .ok (.bipush 46, 2) := by decide +kernel
theorem dX8_isBits_36 : decode cX8_isBits 36 = .ok (.iconst 3, 1) := by decide +kernel
theorem dX8_isBits_37 : decode cX8_isBits 37 = .ok (.iload 5, 2) := by decide +kernel
theorem dX8_isBits_39 : decode cX8_isBits 39 = .ok (.iconst 0, 1) := by decide +kernel
theorem dX8_isBits_40 : decode cX8_isBits 40 = .ok (.invokevirtual 243, 3) := by decide +kernel
theorem dX8_isBits_43 : decode cX8_isBits 43 = .ok (.iload_n 1, 1) := by decide +kernel
theorem dX8_isBits_44 : decode cX8_isBits 44 = .ok (.if_icmp .ne 30, 3) := by decide +kernel
theorem dX8_isBits_47 : decode cX8_isBits 47 = .ok (.iload_n 3, 1) := by decide +kernel
theorem dX8_isBits_48 : decode cX8_isBits 48 = .ok (.aload_n 0, 1) := by decide +kernel
theorem dX8_isBits_49 : decode cX8_isBits 49 = .ok (.bipush 46, 2) := by decide +kernel
theorem dX8_isBits_51 : decode cX8_isBits 51 = .ok (.iconst 3, 1) := by decide +kernel
theorem dX8_isBits_52 : decode cX8_isBits 52 = .ok (.iload 5, 2) := by decide +kernel
theorem dX8_isBits_54 : decode cX8_isBits 54 = .ok (.iconst 1, 1) := by decide +kernel
theorem dX8_isBits_55 : decode cX8_isBits 55 = .ok (.invokevirtual 243, 3) := by decide +kernel
theorem dX8_isBits_58 : decode cX8_isBits 58 = .ok (.invokestatic 77, 3) := by decide +kernel
theorem dX8_isBits_61 : decode cX8_isBits 61 = .ok (.aload_n 0, 1) := by decide +kernel
theorem dX8_isBits_62 : decode cX8_isBits 62 = .ok (.bipush 46, 2) := by decide +kernel
theorem dX8_isBits_64 : decode cX8_isBits 64 = .ok (.iconst 3, 1) := by decide +kernel
theorem dX8_isBits_65 : decode cX8_isBits 65 = .ok (.iload 5, 2) := by decide +kernel
theorem dX8_isBits_67 : decode cX8_isBits 67 = .ok (.iconst 2, 1) := by decide +kernel
theorem dX8_isBits_68 : decode cX8_isBits 68 = .ok (.invokevirtual 243, 3) := by decide +kernel
theorem dX8_isBits_71 : decode cX8_isBits 71 = .ok (.if_icmp .ne 7, 3) := by decide +kernel
theorem dX8_isBits_74 : decode cX8_isBits 74 = .ok (.iconst 1, 1) := by decide +kernel
theorem dX8_isBits_75 : decode cX8_isBits 75 = .ok (.goto 4, 3) := by decide +kernel
theorem dX8_isBits_78 : decode cX8_isBits 78 = .ok (.iconst 0, 1) := by decide +kernel
theorem dX8_isBits_79 : decode cX8_isBits 79 = .ok (.istore 4, 2) := by decide +kernel
theorem dX8_isBits_81 : decode cX8_isBits 81 = .ok (.iinc 5 1, 3) := by decide +kernel
theorem dX8_isBits_84 : decode cX8_isBits 84 = .ok (.goto (-68), 3) := by decide +kernel
theorem dX8_isBits_87 : decode cX8_isBits 87 = .ok (.iload_n 2, 1) := by decide +kernel
theorem dX8_isBits_88 : decode cX8_isBits 88 = .ok (.iload 4, 2) := by decide +kernel
theorem dX8_isBits_90 : decode cX8_isBits 90 = .ok (.ifCond .eq 9, 3) := by decide +kernel
theorem dX8_isBits_93 : decode cX8_isBits 93 = .ok (.iconst 1, 1) := by decide +kernel
theorem dX8_isBits_94 : decode cX8_isBits 94 = .ok (.iload_n 3, 1) := by decide +kernel
theorem dX8_isBits_95 : decode cX8_isBits 95 = .ok (.ishl, 1) := by decide +kernel
theorem dX8_isBits_96 : decode cX8_isBits 96 = .ok (.goto 4, 3) := by decide +kernel
theorem dX8_isBits_99 : decode cX8_isBits 99 = .ok (.iconst 0, 1) := by decide +kernel
theorem dX8_isBits_100 : decode cX8_isBits 100 = .ok (.ior, 1) := by decide +kernel
theorem dX8_isBits_101 : decode cX8_isBits 101 = .ok (.istore_n 2, 1) := by decide +kernel
theorem dX8_isBits_102 : decode cX8_isBits 102 = .ok (.iinc 3 1, 3) := by decide +kernel
theorem dX8_isBits_105 : decode cX8_isBits 105 = .ok (.goto (-101), 3) := by decide +kernel
theorem dX8_isBits_108 : decode cX8_isBits 108 = .ok (.iload_n 2, 1) := by decide +kernel
theorem dX8_isBits_109 : decode cX8_isBits 109 = .ok (.ireturn, 1) := by decide +kernel
theorem dX8_is_0 : decode cX8_is 0 = .ok (.iload_n 1, 1) := by decide +kernel
theorem dX8_is_1 : decode cX8_is 1 = .ok (.i2l, 1) := by decide +kernel
theorem dX8_is_2 : decode cX8_is 2 = .ok (.lconst 0, 1) := by decide +kernel
theorem dX8_is_3 : decode cX8_is 3 = .ok (.ldc2_w 97, 3) := by decide +kernel
theorem dX8_is_6 : decode cX8_is 6 = .ok (.invokestatic 46, 3) := by decide +kernel
theorem dX8_is_9 : decode cX8_is 9 = .ok (.ifCond .eq 11, 3) := by decide +kernel
theorem dX8_is_12 : decode cX8_is 12 = .ok (.aload_n 0, 1) := by decide +kernel
theorem dX8_is_13 : decode cX8_is 13 = .ok (.iload_n 1, 1) := by decide +kernel
theorem dX8_is_14 : decode cX8_is 14 = .ok (.invokevirtual 261, 3) := by decide +kernel
theorem dX8_is_17 : decode cX8_is 17 = .ok (.goto 7, 3) := by decide +kernel
theorem dX8_is_20 : decode cX8_is 20 = .ok (.aload_n 0, 1) := by decide +kernel
theorem dX8_is_21 : decode cX8_is 21 = .ok (.invokevirtual 101, 3) := by decide +kernel
theorem dX8_is_24 : decode cX8_is 24 = .ok (.ireturn, 1) := by decide +kernel
theorem dX8_look_0 : decode cX8_look 0 = .ok (.iload_n 1, 1) := by decide +kernel
theorem dX8_look_1 : decode cX8_look 1 = .ok (.i2l, 1) := by decide +kernel
theorem dX8_look_2 : decode cX8_look 2 = .ok (.lconst 0, 1) := by decide +kernel
theorem dX8_look_3 : decode cX8_look 3 = .ok (.ldc2_w 97, 3) := by decide +kernel
theorem dX8_look_6 : decode cX8_look 6 = .ok (.invokestatic 46, 3) := by decide +kernel
theorem dX8_look_9 : decode cX8_look 9 = .ok (.ifCond .ne 8, 3) := by decide +kernel
theorem dX8_look_12 : decode cX8_look 12 = .ok (.aload_n 0, 1) := by decide +kernel
theorem dX8_look_13 : decode cX8_look 13 = .ok (.invokevirtual 101, 3) := by decide +kernel
theorem dX8_look_16 : decode cX8_look 16 = .ok (.ireturn, 1) := by decide +kernel
theorem dX8_look_17 : decode cX8_look 17 = .ok (.aload_n 0, 1) := by decide +kernel
theorem dX8_look_18 : decode cX8_look 18 = .ok (.iload_n 1, 1) := by decide +kernel
theorem dX8_look_19 : decode cX8_look 19 = .ok (.invokevirtual 261, 3) := by decide +kernel
theorem dX8_look_22 : decode cX8_look 22 = .ok (.istore_n 2, 1) := by decide +kernel
theorem dX8_look_23 : decode cX8_look 23 = .ok (.iconst (-1), 1) := by decide +kernel
theorem dX8_look_24 : decode cX8_look 24 = .ok (.istore_n 3, 1) := by decide +kernel
theorem dX8_look_25 : decode cX8_look 25 = .ok (.bipush 9, 2) := by decide +kernel
theorem dX8_look_27 : decode cX8_look 27 = .ok (.istore 4, 2) := by decide +kernel
theorem dX8_look_29 : decode cX8_look 29 = .ok (.iconst 0, 1) := by decide +kernel
theorem dX8_look_30 : decode cX8_look 30 = .ok (.istore 5, 2) := by decide +kernel
theorem dX8_look_32 : decode cX8_look 32 = .ok (.iload 5, 2) := by decide +kernel
theorem dX8_look_34 : decode cX8_look 34 = .ok (.bipush 6, 2) := by decide +kernel
theorem dX8_look_36 : decode cX8_look 36 = .ok (.if_icmp .ge 76, 3) := by decide +kernel
theorem dX8_look_39 : decode cX8_look 39 = .ok (.iload_n 2, 1) := by decide +kernel
theorem dX8_look_40 : decode cX8_look 40 = .ok (.ifCond .eq 72, 3) := by decide +kernel
theorem dX8_look_43 : decode cX8_look 43 = .ok (.aload_n 0, 1) := by decide +kernel
theorem dX8_look_44 : decode cX8_look 44 = .ok (.invokevirtual 253, 3) := by decide +kernel
theorem dX8_look_47 : decode cX8_look 47 = .ok (.iconst 0, 1) := by decide +kernel
theorem dX8_look_48 : decode cX8_look 48 = .ok (.istore 6, 2) := by decide +kernel
theorem dX8_look_50 : decode cX8_look 50 = .ok (.iload 6, 2) := by decide +kernel
theorem dX8_look_52 : decode cX8_look 52 = .ok (.bipush 6, 2) := by decide +kernel
theorem dX8_look_54 : decode cX8_look 54 = .ok (.if_icmp .ge 34, 3) := by decide +kernel
theorem dX8_look_57 : decode cX8_look 57 = .ok (.iload_n 2, 1) := by decide +kernel
theorem dX8_look_58 : decode cX8_look 58 = .ok (.iload 6, 2) := by decide +kernel
theorem dX8_look_60 : decode cX8_look 60 = .ok (.invokestatic 66, 3) := by decide +kernel
theorem dX8_look_63 : decode cX8_look 63 = .ok (.ifCond .eq 19, 3) := by decide +kernel
theorem dX8_look_66 : decode cX8_look 66 = .ok (.aload_n 0, 1) := by decide +kernel
theorem dX8_look_67 : decode cX8_look 67 = .ok (.getfield 43, 3) := by decide +kernel
theorem dX8_look_70 : decode cX8_look 70 = .ok (.iload 6, 2) := by decide +kernel
theorem dX8_look_72 : decode cX8_look 72 = .ok (.iload 5, 2) := by decide +kernel
theorem dX8_look_74 : decode cX8_look 74 = .ok (.invokestatic 77, 3) := by decide +kernel
theorem dX8_look_77 : decode cX8_look 77 = .ok (.dup2, 1) := by decide +kernel
theorem dX8_look_78 : decode cX8_look 78 = .ok (.iaload, 1) := by decide +kernel
theorem dX8_look_79 : decode cX8_look 79 = .ok (.iconst 1, 1) := by decide +kernel
theorem dX8_look_80 : decode cX8_look 80 = .ok (.iadd, 1) := by decide +kernel
theorem dX8_look_81 : decode cX8_look 81 = .ok (.iastore, 1) := by decide +kernel
theorem dX8_look_82 : decode cX8_look 82 = .ok (.iinc 6 1, 3) := by decide +kernel
theorem dX8_look_85 : decode cX8_look 85 = .ok (.goto (-35), 3) := by decide +kernel
theorem dX8_look_88 : decode cX8_look 88 = .ok (.aload_n 0, 1) := by decide +kernel
theorem dX8_look_89 : decode cX8_look 89 = .ok (.invokevirtual 256, 3) := by decide +kernel
theorem dX8_look_92 : decode cX8_look 92 = .ok (.iload 4, 2) := by decide +kernel
theorem dX8_look_94 : decode cX8_look 94 = .ok (.if_icmp .ge 12, 3) := by decide +kernel
theorem dX8_look_97 : decode cX8_look 97 = .ok (.aload_n 0, 1) := by decide +kernel
theorem dX8_look_98 : decode cX8_look 98 = .ok (.invokevirtual 256, 3) := by decide +kernel
theorem dX8_look_101 : decode cX8_look 101 = .ok (.istore 4, 2) := by decide +kernel
theorem dX8_look_103 : decode cX8_look 103 = .ok (.iload 5, 2) := by decide +kernel
theorem dX8_look_105 : decode cX8_look 105 = .ok (.istore_n 3, 1) := by decide +kernel
theorem dX8_look_106 : decode cX8_look 106 = .ok (.iinc 5 1, 3) := by decide +kernel
theorem dX8_look_109 : decode cX8_look 109 = .ok (.goto (-77), 3) := by decide +kernel
theorem dX8_look_112 : decode cX8_look 112 = .ok (.iload_n 3, 1) := by decide +kernel
theorem dX8_look_113 : decode cX8_look 113 = .ok (.ireturn, 1) := by decide +kernel
theorem dX8_whatBits_0 : decode cX8_whatBits 0 = .ok (.iconst 0, 1) := by decide +kernel
theorem dX8_whatBits_1 : decode cX8_whatBits 1 = .ok (.istore_n 2, 1) := by decide +kernel
theorem dX8_whatBits_2 : decode cX8_whatBits 2 = .ok (.iconst 0, 1) := by decide +kernel
theorem dX8_whatBits_3 : decode cX8_whatBits 3 = .ok (.istore_n 3, 1) := by decide +kernel
theorem dX8_whatBits_4 : decode cX8_whatBits 4 = .ok (.iload_n 3, 1) := by decide +kernel
theorem dX8_whatBits_5 : decode cX8_whatBits 5 = .ok (.bipush 6, 2) := by decide +kernel
theorem dX8_whatBits_7 : decode cX8_whatBits 7 = .ok (.if_icmp .ge 111, 3) := by decide +kernel
theorem dX8_whatBits_10 : decode cX8_whatBits 10 = .ok (.iconst 1, 1) := by decide +kernel
theorem dX8_whatBits_11 : decode cX8_whatBits 11 = .ok (.istore 4, 2) := by decide +kernel
theorem dX8_whatBits_13 : decode cX8_whatBits 13 = .ok (.iconst 0, 1) := by decide +kernel
theorem dX8_whatBits_14 : decode cX8_whatBits 14 = .ok (.istore 5, 2) := by decide +kernel
theorem dX8_whatBits_16 : decode cX8_whatBits 16 = .ok (.iload 5, 2) := by decide +kernel
theorem dX8_whatBits_18 : decode cX8_whatBits 18 = .ok (.aload_n 0, 1) := by decide +kernel
theorem dX8_whatBits_19 : decode cX8_whatBits 19 = .ok (.getfield 7, 3) := by decide +kernel
theorem dX8_whatBits_22 : decode cX8_whatBits 22 = .ok (.bipush 65, 2) := by decide +kernel
theorem dX8_whatBits_24 : decode cX8_whatBits 24 = .ok (.iaload, 1) := by decide +kernel
theorem dX8_whatBits_25 : decode cX8_whatBits 25 = .ok (.if_icmp .ge 72, 3) := by decide +kernel
theorem dX8_whatBits_28 : decode cX8_whatBits 28 = .ok (.iload 4, 2) := by decide +kernel
theorem dX8_whatBits_30 : decode cX8_whatBits 30 = .ok (.ifCond .eq 58, 3) := by decide +kernel
theorem dX8_whatBits_33 : decode cX8_whatBits 33 = .ok (.aload_n 0, 1) := by decide +kernel
theorem dX8_whatBits_34 : decode cX8_whatBits 34 = .ok (.bipush 65, 2) := by decide +kernel
theorem dX8_whatBits_36 : decode cX8_whatBits 36 = .ok (.iconst 4, 1) := by decide +kernel
theorem dX8_whatBits_37 : decode cX8_whatBits 37 = .ok (.iload 5, 2) := by decide +kernel
theorem dX8_whatBits_39 : decode cX8_whatBits 39 = .ok (.iconst 0, 1) := by decide +kernel
theorem dX8_whatBits_40 : decode cX8_whatBits 40 = .ok (.invokevirtual 243, 3) := by decide +kernel
theorem dX8_whatBits_43 : decode cX8_whatBits 43 = .ok (.iload_n 1, 1) := by decide +kernel
theorem dX8_whatBits_44 : decode cX8_whatBits 44 = .ok (.if_icmp .ne 40, 3) := by decide +kernel
theorem dX8_whatBits_47 : decode cX8_whatBits 47 = .ok (.iload_n 3, 1) := by decide +kernel
theorem dX8_whatBits_48 : decode cX8_whatBits 48 = .ok (.aload_n 0, 1) := by decide +kernel
theorem dX8_whatBits_49 : decode cX8_whatBits 49 = .ok (.bipush 65, 2) := by decide +kernel
theorem dX8_whatBits_51 : decode cX8_whatBits 51 = .ok (.iconst 4, 1) := by decide +kernel
theorem dX8_whatBits_52 : decode cX8_whatBits 52 = .ok (.iload 5, 2) := by decide +kernel
theorem dX8_whatBits_54 : decode cX8_whatBits 54 = .ok (.iconst 1, 1) := by decide +kernel
theorem dX8_whatBits_55 : decode cX8_whatBits 55 = .ok (.invokevirtual 243, 3) := by decide +kernel
theorem dX8_whatBits_58 : decode cX8_whatBits 58 = .ok (.aload_n 0, 1) := by decide +kernel
theorem dX8_whatBits_59 : decode cX8_whatBits 59 = .ok (.bipush 65, 2) := by decide +kernel
theorem dX8_whatBits_61 : decode cX8_whatBits 61 = .ok (.iconst 4, 1) := by decide +kernel
theorem dX8_whatBits_62 : decode cX8_whatBits 62 = .ok (.iload 5, 2) := by decide +kernel
theorem dX8_whatBits_64 : decode cX8_whatBits 64 = .ok (.iconst 2, 1) := by decide +kernel
theorem dX8_whatBits_65 : decode cX8_whatBits 65 = .ok (.invokevirtual 243, 3) := by decide +kernel
theorem dX8_whatBits_68 : decode cX8_whatBits 68 = .ok (.invokestatic 73, 3) := by decide +kernel
theorem dX8_whatBits_71 : decode cX8_whatBits 71 = .ok (.aload_n 0, 1) := by decide +kernel
theorem dX8_whatBits_72 : decode cX8_whatBits 72 = .ok (.bipush 65, 2) := by decide +kernel
theorem dX8_whatBits_74 : decode cX8_whatBits 74 = .ok (.iconst 4, 1) := by decide +kernel
theorem dX8_whatBits_75 : decode cX8_whatBits 75 = .ok (.iload 5, 2) := by decide +kernel
theorem dX8_whatBits_77 : decode cX8_whatBits 77 = .ok (.iconst 3, 1) := by decide +kernel
theorem dX8_whatBits_78 : decode cX8_whatBits 78 = .ok (.invokevirtual 243, 3) := by decide +kernel
theorem dX8_whatBits_81 : decode cX8_whatBits 81 = .ok (.if_icmp .ne 7, 3) := by decide +kernel
theorem dX8_whatBits_84 : decode cX8_whatBits 84 = .ok (.iconst 1, 1) := by decide +kernel
theorem dX8_whatBits_85 : decode cX8_whatBits 85 = .ok (.goto 4, 3) := by decide +kernel
theorem dX8_whatBits_88 : decode cX8_whatBits 88 = .ok (.iconst 0, 1) := by decide +kernel
theorem dX8_whatBits_89 : decode cX8_whatBits 89 = .ok (.istore 4, 2) := by decide +kernel
theorem dX8_whatBits_91 : decode cX8_whatBits 91 = .ok (.iinc 5 1, 3) := by decide +kernel
theorem dX8_whatBits_94 : decode cX8_whatBits 94 = .ok (.goto (-78), 3) := by decide +kernel
theorem dX8_whatBits_97 : decode cX8_whatBits 97 = .ok (.iload_n 2, 1) := by decide +kernel
theorem dX8_whatBits_98 : decode cX8_whatBits 98 = .ok (.iload 4, 2) := by decide +kernel
theorem dX8_whatBits_100 : decode cX8_whatBits 100 = .ok (.ifCond .eq 9, 3) := by decide +kernel
theorem dX8_whatBits_103 : decode cX8_whatBits 103 = .ok (.iconst 1, 1) := by decide +kernel
theorem dX8_whatBits_104 : decode cX8_whatBits 104 = .ok (.iload_n 3, 1) := by decide +kernel
theorem dX8_whatBits_105 : decode cX8_whatBits 105 = .ok (.ishl, 1) := by decide +kernel
theorem dX8_whatBits_106 : decode cX8_whatBits 106 = .ok (.goto 4, 3) := by decide +kernel
theorem dX8_whatBits_109 : decode cX8_whatBits 109 = .ok (.iconst 0, 1) := by decide +kernel
theorem dX8_whatBits_110 : decode cX8_whatBits 110 = .ok (.ior, 1) := by decide +kernel
theorem dX8_whatBits_111 : decode cX8_whatBits 111 = .ok (.istore_n 2, 1) := by decide +kernel
theorem dX8_whatBits_112 : decode cX8_whatBits 112 = .ok (.iinc 3 1, 3) := by decide +kernel
theorem dX8_whatBits_115 : decode cX8_whatBits 115 = .ok (.goto (-111), 3) := by decide +kernel
theorem dX8_whatBits_118 : decode cX8_whatBits 118 = .ok (.iload_n 2, 1) := by decide +kernel
theorem dX8_whatBits_119 : decode cX8_whatBits 119 = .ok (.ireturn, 1) := by decide +kernel
theorem dX8_kinds_0 : decode cX8_kinds 0 = .ok (.aload_n 0, 1) := by decide +kernel
theorem dX8_kinds_1 : decode cX8_kinds 1 = .ok (.iload_n 1, 1) := by decide +kernel
theorem dX8_kinds_2 : decode cX8_kinds 2 = .ok (.invokevirtual 203, 3) := by decide +kernel
theorem dX8_kinds_5 : decode cX8_kinds 5 = .ok (.ifCond .eq 11, 3) := by decide +kernel
theorem dX8_kinds_8 : decode cX8_kinds 8 = .ok (.aload_n 0, 1) := by decide +kernel
theorem dX8_kinds_9 : decode cX8_kinds 9 = .ok (.iload_n 1, 1) := by decide +kernel
theorem dX8_kinds_10 : decode cX8_kinds 10 = .ok (.invokevirtual 264, 3) := by decide +kernel
theorem dX8_kinds_13 : decode cX8_kinds 13 = .ok (.goto 7, 3) := by decide +kernel
theorem dX8_kinds_16 : decode cX8_kinds 16 = .ok (.aload_n 0, 1) := by decide +kernel
theorem dX8_kinds_17 : decode cX8_kinds 17 = .ok (.invokevirtual 101, 3) := by decide +kernel
theorem dX8_kinds_20 : decode cX8_kinds 20 = .ok (.ireturn, 1) := by decide +kernel
theorem dX8_ask_0 : decode cX8_ask 0 = .ok (.aload_n 0, 1) := by decide +kernel
theorem dX8_ask_1 : decode cX8_ask 1 = .ok (.iload_n 1, 1) := by decide +kernel
theorem dX8_ask_2 : decode cX8_ask 2 = .ok (.invokevirtual 203, 3) := by decide +kernel
theorem dX8_ask_5 : decode cX8_ask 5 = .ok (.ifCond .ne 8, 3) := by decide +kernel
theorem dX8_ask_8 : decode cX8_ask 8 = .ok (.aload_n 0, 1) := by decide +kernel
theorem dX8_ask_9 : decode cX8_ask 9 = .ok (.invokevirtual 101, 3) := by decide +kernel
theorem dX8_ask_12 : decode cX8_ask 12 = .ok (.ireturn, 1) := by decide +kernel
theorem dX8_ask_13 : decode cX8_ask 13 = .ok (.aload_n 0, 1) := by decide +kernel
theorem dX8_ask_14 : decode cX8_ask 14 = .ok (.iload_n 1, 1) := by decide +kernel
theorem dX8_ask_15 : decode cX8_ask 15 = .ok (.invokevirtual 264, 3) := by decide +kernel
theorem dX8_ask_18 : decode cX8_ask 18 = .ok (.istore_n 2, 1) := by decide +kernel
theorem dX8_ask_19 : decode cX8_ask 19 = .ok (.iconst (-1), 1) := by decide +kernel
theorem dX8_ask_20 : decode cX8_ask 20 = .ok (.istore_n 3, 1) := by decide +kernel
theorem dX8_ask_21 : decode cX8_ask 21 = .ok (.bipush 9, 2) := by decide +kernel
theorem dX8_ask_23 : decode cX8_ask 23 = .ok (.istore 4, 2) := by decide +kernel
theorem dX8_ask_25 : decode cX8_ask 25 = .ok (.iconst 0, 1) := by decide +kernel
theorem dX8_ask_26 : decode cX8_ask 26 = .ok (.istore 5, 2) := by decide +kernel
theorem dX8_ask_28 : decode cX8_ask 28 = .ok (.iload 5, 2) := by decide +kernel
theorem dX8_ask_30 : decode cX8_ask 30 = .ok (.bipush 6, 2) := by decide +kernel
theorem dX8_ask_32 : decode cX8_ask 32 = .ok (.if_icmp .ge 100, 3) := by decide +kernel
theorem dX8_ask_35 : decode cX8_ask 35 = .ok (.iconst 0, 1) := by decide +kernel
theorem dX8_ask_36 : decode cX8_ask 36 = .ok (.istore 6, 2) := by decide +kernel
theorem dX8_ask_38 : decode cX8_ask 38 = .ok (.iload 6, 2) := by decide +kernel
theorem dX8_ask_40 : decode cX8_ask 40 = .ok (.bipush 11, 2) := by decide +kernel
theorem dX8_ask_42 : decode cX8_ask 42 = .ok (.if_icmp .ge 84, 3) := by decide +kernel
theorem dX8_ask_45 : decode cX8_ask 45 = .ok (.iload_n 2, 1) := by decide +kernel
theorem dX8_ask_46 : decode cX8_ask 46 = .ok (.ifCond .eq 80, 3) := by decide +kernel
theorem dX8_ask_49 : decode cX8_ask 49 = .ok (.aload_n 0, 1) := by decide +kernel
theorem dX8_ask_50 : decode cX8_ask 50 = .ok (.invokevirtual 253, 3) := by decide +kernel
theorem dX8_ask_53 : decode cX8_ask 53 = .ok (.iconst 0, 1) := by decide +kernel
theorem dX8_ask_54 : decode cX8_ask 54 = .ok (.istore 7, 2) := by decide +kernel
theorem dX8_ask_56 : decode cX8_ask 56 = .ok (.iload 7, 2) := by decide +kernel
theorem dX8_ask_58 : decode cX8_ask 58 = .ok (.bipush 6, 2) := by decide +kernel
theorem dX8_ask_60 : decode cX8_ask 60 = .ok (.if_icmp .ge 36, 3) := by decide +kernel
theorem dX8_ask_63 : decode cX8_ask 63 = .ok (.iload_n 2, 1) := by decide +kernel
theorem dX8_ask_64 : decode cX8_ask 64 = .ok (.iload 7, 2) := by decide +kernel
theorem dX8_ask_66 : decode cX8_ask 66 = .ok (.invokestatic 66, 3) := by decide +kernel
theorem dX8_ask_69 : decode cX8_ask 69 = .ok (.ifCond .eq 21, 3) := by decide +kernel
theorem dX8_ask_72 : decode cX8_ask 72 = .ok (.aload_n 0, 1) := by decide +kernel
theorem dX8_ask_73 : decode cX8_ask 73 = .ok (.getfield 43, 3) := by decide +kernel
theorem dX8_ask_76 : decode cX8_ask 76 = .ok (.iload 7, 2) := by decide +kernel
theorem dX8_ask_78 : decode cX8_ask 78 = .ok (.iload 5, 2) := by decide +kernel
theorem dX8_ask_80 : decode cX8_ask 80 = .ok (.iload 6, 2) := by decide +kernel
theorem dX8_ask_82 : decode cX8_ask 82 = .ok (.invokestatic 73, 3) := by decide +kernel
theorem dX8_ask_85 : decode cX8_ask 85 = .ok (.dup2, 1) := by decide +kernel
theorem dX8_ask_86 : decode cX8_ask 86 = .ok (.iaload, 1) := by decide +kernel
theorem dX8_ask_87 : decode cX8_ask 87 = .ok (.iconst 1, 1) := by decide +kernel
theorem dX8_ask_88 : decode cX8_ask 88 = .ok (.iadd, 1) := by decide +kernel
theorem dX8_ask_89 : decode cX8_ask 89 = .ok (.iastore, 1) := by decide +kernel
theorem dX8_ask_90 : decode cX8_ask 90 = .ok (.iinc 7 1, 3) := by decide +kernel
theorem dX8_ask_93 : decode cX8_ask 93 = .ok (.goto (-37), 3) := by decide +kernel
theorem dX8_ask_96 : decode cX8_ask 96 = .ok (.aload_n 0, 1) := by decide +kernel
theorem dX8_ask_97 : decode cX8_ask 97 = .ok (.invokevirtual 256, 3) := by decide +kernel
theorem dX8_ask_100 : decode cX8_ask 100 = .ok (.iload 4, 2) := by decide +kernel
theorem dX8_ask_102 : decode cX8_ask 102 = .ok (.if_icmp .ge 18, 3) := by decide +kernel
theorem dX8_ask_105 : decode cX8_ask 105 = .ok (.aload_n 0, 1) := by decide +kernel
theorem dX8_ask_106 : decode cX8_ask 106 = .ok (.invokevirtual 256, 3) := by decide +kernel
theorem dX8_ask_109 : decode cX8_ask 109 = .ok (.istore 4, 2) := by decide +kernel
theorem dX8_ask_111 : decode cX8_ask 111 = .ok (.bipush 100, 2) := by decide +kernel
theorem dX8_ask_113 : decode cX8_ask 113 = .ok (.iload 5, 2) := by decide +kernel
theorem dX8_ask_115 : decode cX8_ask 115 = .ok (.imul, 1) := by decide +kernel
theorem dX8_ask_116 : decode cX8_ask 116 = .ok (.iload 6, 2) := by decide +kernel
theorem dX8_ask_118 : decode cX8_ask 118 = .ok (.iadd, 1) := by decide +kernel
theorem dX8_ask_119 : decode cX8_ask 119 = .ok (.istore_n 3, 1) := by decide +kernel
theorem dX8_ask_120 : decode cX8_ask 120 = .ok (.iinc 6 1, 3) := by decide +kernel
theorem dX8_ask_123 : decode cX8_ask 123 = .ok (.goto (-85), 3) := by decide +kernel
theorem dX8_ask_126 : decode cX8_ask 126 = .ok (.iinc 5 1, 3) := by decide +kernel
theorem dX8_ask_129 : decode cX8_ask 129 = .ok (.goto (-101), 3) := by decide +kernel
theorem dX8_ask_132 : decode cX8_ask 132 = .ok (.iload_n 3, 1) := by decide +kernel
theorem dX8_ask_133 : decode cX8_ask 133 = .ok (.ireturn, 1) := by decide +kernel
theorem dX8_has0_0 : decode cX8_has0 0 = .ok (.aload_n 0, 1) := by decide +kernel
theorem dX8_has0_1 : decode cX8_has0 1 = .ok (.getfield 7, 3) := by decide +kernel
theorem dX8_has0_4 : decode cX8_has0 4 = .ok (.iload_n 2, 1) := by decide +kernel
theorem dX8_has0_5 : decode cX8_has0 5 = .ok (.invokestatic 213, 3) := by decide +kernel
theorem dX8_has0_8 : decode cX8_has0 8 = .ok (.istore 5, 2) := by decide +kernel
theorem dX8_has0_10 : decode cX8_has0 10 = .ok (.iload_n 3, 1) := by decide +kernel
theorem dX8_has0_11 : decode cX8_has0 11 = .ok (.ifCond .eq 17, 3) := by decide +kernel
theorem dX8_has0_14 : decode cX8_has0 14 = .ok (.iload 4, 2) := by decide +kernel
theorem dX8_has0_16 : decode cX8_has0 16 = .ok (.ifCond .eq 10, 3) := by decide +kernel
theorem dX8_has0_19 : decode cX8_has0 19 = .ok (.iload 5, 2) := by decide +kernel
theorem dX8_has0_21 : decode cX8_has0 21 = .ok (.iconst 2, 1) := by decide +kernel
theorem dX8_has0_22 : decode cX8_has0 22 = .ok (.idiv, 1) := by decide +kernel
theorem dX8_has0_23 : decode cX8_has0 23 = .ok (.goto 4, 3) := by decide +kernel
theorem dX8_has0_26 : decode cX8_has0 26 = .ok (.iconst 2, 1) := by decide +kernel
theorem dX8_has0_27 : decode cX8_has0 27 = .ok (.ireturn, 1) := by decide +kernel
theorem dX8_has0_28 : decode cX8_has0 28 = .ok (.iload 4, 2) := by decide +kernel
theorem dX8_has0_30 : decode cX8_has0 30 = .ok (.ifCond .eq 8, 3) := by decide +kernel
theorem dX8_has0_33 : decode cX8_has0 33 = .ok (.iload 5, 2) := by decide +kernel
theorem dX8_has0_35 : decode cX8_has0 35 = .ok (.goto 28, 3) := by decide +kernel
theorem dX8_has0_38 : decode cX8_has0 38 = .ok (.aload_n 0, 1) := by decide +kernel
theorem dX8_has0_39 : decode cX8_has0 39 = .ok (.getfield 7, 3) := by decide +kernel
theorem dX8_has0_42 : decode cX8_has0 42 = .ok (.iload_n 1, 1) := by decide +kernel
theorem dX8_has0_43 : decode cX8_has0 43 = .ok (.iconst 0, 1) := by decide +kernel
theorem dX8_has0_44 : decode cX8_has0 44 = .ok (.invokestatic 55, 3) := by decide +kernel
theorem dX8_has0_47 : decode cX8_has0 47 = .ok (.aload_n 0, 1) := by decide +kernel
theorem dX8_has0_48 : decode cX8_has0 48 = .ok (.iload_n 2, 1) := by decide +kernel
theorem dX8_has0_49 : decode cX8_has0 49 = .ok (.invokevirtual 247, 3) := by decide +kernel
theorem dX8_has0_52 : decode cX8_has0 52 = .ok (.aload_n 0, 1) := by decide +kernel
theorem dX8_has0_53 : decode cX8_has0 53 = .ok (.getfield 7, 3) := by decide +kernel
theorem dX8_has0_56 : decode cX8_has0 56 = .ok (.bipush 6, 2) := by decide +kernel
theorem dX8_has0_58 : decode cX8_has0 58 = .ok (.iaload, 1) := by decide +kernel
theorem dX8_has0_59 : decode cX8_has0 59 = .ok (.invokestatic 73, 3) := by decide +kernel
theorem dX8_has0_62 : decode cX8_has0 62 = .ok (.ineg, 1) := by decide +kernel
theorem dX8_has0_63 : decode cX8_has0 63 = .ok (.ireturn, 1) := by decide +kernel
theorem dX8_whispers_0 : decode cX8_whispers 0 = .ok (.aload_n 0, 1) := by decide +kernel
theorem dX8_whispers_1 : decode cX8_whispers 1 = .ok (.iload_n 1, 1) := by decide +kernel
theorem dX8_whispers_2 : decode cX8_whispers 2 = .ok (.invokevirtual 203, 3) := by decide +kernel
theorem dX8_whispers_5 : decode cX8_whispers 5 = .ok (.ifCond .eq 23, 3) := by decide +kernel
theorem dX8_whispers_8 : decode cX8_whispers 8 = .ok (.aload_n 0, 1) := by decide +kernel
theorem dX8_whispers_9 : decode cX8_whispers 9 = .ok (.iload_n 2, 1) := by decide +kernel
theorem dX8_whispers_10 : decode cX8_whispers 10 = .ok (.invokevirtual 203, 3) := by decide +kernel
theorem dX8_whispers_13 : decode cX8_whispers 13 = .ok (.ifCond .eq 15, 3) := by decide +kernel
theorem dX8_whispers_16 : decode cX8_whispers 16 = .ok (.iload_n 1, 1) := by decide +kernel
theorem dX8_whispers_17 : decode cX8_whispers 17 = .ok (.iload_n 2, 1) := by decide +kernel
theorem dX8_whispers_18 : decode cX8_whispers 18 = .ok (.if_icmp .eq 10, 3) := by decide +kernel
theorem dX8_whispers_21 : decode cX8_whispers 21 = .ok (.iload_n 3, 1) := by decide +kernel
theorem dX8_whispers_22 : decode cX8_whispers 22 = .ok (.invokestatic 105, 3) := by decide +kernel
theorem dX8_whispers_25 : decode cX8_whispers 25 = .ok (.ifCond .ne 8, 3) := by decide +kernel
theorem dX8_whispers_28 : decode cX8_whispers 28 = .ok (.aload_n 0, 1) := by decide +kernel
theorem dX8_whispers_29 : decode cX8_whispers 29 = .ok (.invokevirtual 101, 3) := by decide +kernel
theorem dX8_whispers_32 : decode cX8_whispers 32 = .ok (.ireturn, 1) := by decide +kernel
theorem dX8_whispers_33 : decode cX8_whispers 33 = .ok (.iconst 0, 1) := by decide +kernel
theorem dX8_whispers_34 : decode cX8_whispers 34 = .ok (.istore 4, 2) := by decide +kernel
theorem dX8_whispers_36 : decode cX8_whispers 36 = .ok (.iconst 0, 1) := by decide +kernel
theorem dX8_whispers_37 : decode cX8_whispers 37 = .ok (.istore 5, 2) := by decide +kernel
theorem dX8_whispers_39 : decode cX8_whispers 39 = .ok (.iload 5, 2) := by decide +kernel
theorem dX8_whispers_41 : decode cX8_whispers 41 = .ok (.iconst 4, 1) := by decide +kernel
theorem dX8_whispers_42 : decode cX8_whispers 42 = .ok (.if_icmp .ge 124, 3) := by decide +kernel
theorem dX8_whispers_45 : decode cX8_whispers 45 = .ok (.iload 5, 2) := by decide +kernel
theorem dX8_whispers_47 : decode cX8_whispers 47 = .ok (.iconst 1, 1) := by decide +kernel
theorem dX8_whispers_48 : decode cX8_whispers 48 = .ok (.iand, 1) := by decide +kernel
theorem dX8_whispers_49 : decode cX8_whispers 49 = .ok (.ifCond .ne 7, 3) := by decide +kernel
theorem dX8_whispers_52 : decode cX8_whispers 52 = .ok (.iconst 1, 1) := by decide +kernel
theorem dX8_whispers_53 : decode cX8_whispers 53 = .ok (.goto 4, 3) := by decide +kernel
theorem dX8_whispers_56 : decode cX8_whispers 56 = .ok (.iconst 0, 1) := by decide +kernel
theorem dX8_whispers_57 : decode cX8_whispers 57 = .ok (.istore 6, 2) := by decide +kernel
theorem dX8_whispers_59 : decode cX8_whispers 59 = .ok (.iload 5, 2) := by decide +kernel
theorem dX8_whispers_61 : decode cX8_whispers 61 = .ok (.iconst 2, 1) := by decide +kernel
theorem dX8_whispers_62 : decode cX8_whispers 62 = .ok (.iand, 1) := by decide +kernel
theorem dX8_whispers_63 : decode cX8_whispers 63 = .ok (.ifCond .ne 7, 3) := by decide +kernel
theorem dX8_whispers_66 : decode cX8_whispers 66 = .ok (.iconst 1, 1) := by decide +kernel
theorem dX8_whispers_67 : decode cX8_whispers 67 = .ok (.goto 4, 3) := by decide +kernel
theorem dX8_whispers_70 : decode cX8_whispers 70 = .ok (.iconst 0, 1) := by decide +kernel
theorem dX8_whispers_71 : decode cX8_whispers 71 = .ok (.istore 7, 2) := by decide +kernel
theorem dX8_whispers_73 : decode cX8_whispers 73 = .ok (.aload_n 0, 1) := by decide +kernel
theorem dX8_whispers_74 : decode cX8_whispers 74 = .ok (.iload_n 1, 1) := by decide +kernel
theorem dX8_whispers_75 : decode cX8_whispers 75 = .ok (.iload_n 3, 1) := by decide +kernel
theorem dX8_whispers_76 : decode cX8_whispers 76 = .ok (.iload 6, 2) := by decide +kernel
theorem dX8_whispers_78 : decode cX8_whispers 78 = .ok (.iload 7, 2) := by decide +kernel
theorem dX8_whispers_80 : decode cX8_whispers 80 = .ok (.invokevirtual 267, 3) := by decide +kernel
theorem dX8_whispers_83 : decode cX8_whispers 83 = .ok (.aload_n 0, 1) := by decide +kernel
theorem dX8_whispers_84 : decode cX8_whispers 84 = .ok (.iload_n 1, 1) := by decide +kernel
theorem dX8_whispers_85 : decode cX8_whispers 85 = .ok (.iload_n 3, 1) := by decide +kernel
theorem dX8_whispers_86 : decode cX8_whispers 86 = .ok (.iload 6, 2) := by decide +kernel
theorem dX8_whispers_88 : decode cX8_whispers 88 = .ok (.ifCond .ne 7, 3) := by decide +kernel
theorem dX8_whispers_91 : decode cX8_whispers 91 = .ok (.iconst 1, 1) := by decide +kernel
theorem dX8_whispers_92 : decode cX8_whispers 92 = .ok (.goto 4, 3) := by decide +kernel
theorem dX8_whispers_95 : decode cX8_whispers 95 = .ok (.iconst 0, 1) := by decide +kernel
theorem dX8_whispers_96 : decode cX8_whispers 96 = .ok (.iload 7, 2) := by decide +kernel
theorem dX8_whispers_98 : decode cX8_whispers 98 = .ok (.invokevirtual 267, 3) := by decide +kernel
theorem dX8_whispers_101 : decode cX8_whispers 101 = .ok (.if_icmp .lt 38, 3) := by decide +kernel
theorem dX8_whispers_104 : decode cX8_whispers 104 = .ok (.aload_n 0, 1) := by decide +kernel
theorem dX8_whispers_105 : decode cX8_whispers 105 = .ok (.iload_n 2, 1) := by decide +kernel
theorem dX8_whispers_106 : decode cX8_whispers 106 = .ok (.iload_n 3, 1) := by decide +kernel
theorem dX8_whispers_107 : decode cX8_whispers 107 = .ok (.iload 7, 2) := by decide +kernel
theorem dX8_whispers_109 : decode cX8_whispers 109 = .ok (.iload 6, 2) := by decide +kernel
theorem dX8_whispers_111 : decode cX8_whispers 111 = .ok (.invokevirtual 267, 3) := by decide +kernel
theorem dX8_whispers_114 : decode cX8_whispers 114 = .ok (.aload_n 0, 1) := by decide +kernel
theorem dX8_whispers_115 : decode cX8_whispers 115 = .ok (.iload_n 2, 1) := by decide +kernel
theorem dX8_whispers_116 : decode cX8_whispers 116 = .ok (.iload_n 3, 1) := by decide +kernel
theorem dX8_whispers_117 : decode cX8_whispers 117 = .ok (.iload 7, 2) := by decide +kernel
theorem dX8_whispers_119 : decode cX8_whispers 119 = .ok (.ifCond .ne 7, 3) := by decide +kernel
theorem dX8_whispers_122 : decode cX8_whispers 122 = .ok (.iconst 1, 1) := by decide +kernel
theorem dX8_whispers_123 : decode cX8_whispers 123 = .ok (.goto 4, 3) := by decide +kernel
theorem dX8_whispers_126 : decode cX8_whispers 126 = .ok (.iconst 0, 1) := by decide +kernel
theorem dX8_whispers_127 : decode cX8_whispers 127 = .ok (.iload 6, 2) := by decide +kernel
theorem dX8_whispers_129 : decode cX8_whispers 129 = .ok (.invokevirtual 267, 3) := by decide +kernel
theorem dX8_whispers_132 : decode cX8_whispers 132 = .ok (.if_icmp .lt 7, 3) := by decide +kernel
theorem dX8_whispers_135 : decode cX8_whispers 135 = .ok (.iconst 1, 1) := by decide +kernel
theorem dX8_whispers_136 : decode cX8_whispers 136 = .ok (.goto 4, 3) := by decide +kernel
theorem dX8_whispers_139 : decode cX8_whispers 139 = .ok (.iconst 0, 1) := by decide +kernel
theorem dX8_whispers_140 : decode cX8_whispers 140 = .ok (.istore 8, 2) := by decide +kernel
theorem dX8_whispers_142 : decode cX8_whispers 142 = .ok (.iload 4, 2) := by decide +kernel
theorem dX8_whispers_144 : decode cX8_whispers 144 = .ok (.iload 8, 2) := by decide +kernel
theorem dX8_whispers_146 : decode cX8_whispers 146 = .ok (.ifCond .eq 10, 3) := by decide +kernel
theorem dX8_whispers_149 : decode cX8_whispers 149 = .ok (.iconst 1, 1) := by decide +kernel
theorem dX8_whispers_150 : decode cX8_whispers 150 = .ok (.iload 5, 2) := by decide +kernel
theorem dX8_whispers_152 : decode cX8_whispers 152 = .ok (.ishl, 1) := by decide +kernel
theorem dX8_whispers_153 : decode cX8_whispers 153 = .ok (.goto 4, 3) := by decide +kernel
theorem dX8_whispers_156 : decode cX8_whispers 156 = .ok (.iconst 0, 1) := by decide +kernel
theorem dX8_whispers_157 : decode cX8_whispers 157 = .ok (.ior, 1) := by decide +kernel
theorem dX8_whispers_158 : decode cX8_whispers 158 = .ok (.istore 4, 2) := by decide +kernel
theorem dX8_whispers_160 : decode cX8_whispers 160 = .ok (.iinc 5 1, 3) := by decide +kernel
theorem dX8_whispers_163 : decode cX8_whispers 163 = .ok (.goto (-124), 3) := by decide +kernel
theorem dX8_whispers_166 : decode cX8_whispers 166 = .ok (.iload 4, 2) := by decide +kernel
theorem dX8_whispers_168 : decode cX8_whispers 168 = .ok (.ireturn, 1) := by decide +kernel
theorem dX8_wet_0 : decode cX8_wet 0 = .ok (.aload_n 0, 1) := by decide +kernel
theorem dX8_wet_1 : decode cX8_wet 1 = .ok (.iload_n 1, 1) := by decide +kernel
theorem dX8_wet_2 : decode cX8_wet 2 = .ok (.invokevirtual 203, 3) := by decide +kernel
theorem dX8_wet_5 : decode cX8_wet 5 = .ok (.ifCond .eq 15, 3) := by decide +kernel
theorem dX8_wet_8 : decode cX8_wet 8 = .ok (.iload_n 2, 1) := by decide +kernel
theorem dX8_wet_9 : decode cX8_wet 9 = .ok (.i2l, 1) := by decide +kernel
theorem dX8_wet_10 : decode cX8_wet 10 = .ok (.lconst 0, 1) := by decide +kernel
theorem dX8_wet_11 : decode cX8_wet 11 = .ok (.ldc2_w 271, 3) := by decide +kernel
theorem dX8_wet_14 : decode cX8_wet 14 = .ok (.invokestatic 46, 3) := by decide +kernel
theorem dX8_wet_17 : decode cX8_wet 17 = .ok (.ifCond .ne 8, 3) := by decide +kernel
theorem dX8_wet_20 : decode cX8_wet 20 = .ok (.aload_n 0, 1) := by decide +kernel
theorem dX8_wet_21 : decode cX8_wet 21 = .ok (.invokevirtual 101, 3) := by decide +kernel
theorem dX8_wet_24 : decode cX8_wet 24 = .ok (.ireturn, 1) := by decide +kernel
theorem dX8_wet_25 : decode cX8_wet 25 = .ok (.aload_n 0, 1) := by decide +kernel
theorem dX8_wet_26 : decode cX8_wet 26 = .ok (.iload_n 1, 1) := by decide +kernel
theorem dX8_wet_27 : decode cX8_wet 27 = .ok (.invokevirtual 216, 3) := by decide +kernel
theorem dX8_wet_30 : decode cX8_wet 30 = .ok (.ifCond .ne 8, 3) := by decide +kernel
theorem dX8_wet_33 : decode cX8_wet 33 = .ok (.aload_n 0, 1) := by decide +kernel
theorem dX8_wet_34 : decode cX8_wet 34 = .ok (.invokevirtual 200, 3) := by decide +kernel
theorem dX8_wet_37 : decode cX8_wet 37 = .ok (.ireturn, 1) := by decide +kernel
theorem dX8_wet_38 : decode cX8_wet 38 = .ok (.aload_n 0, 1) := by decide +kernel
theorem dX8_wet_39 : decode cX8_wet 39 = .ok (.getfield 7, 3) := by decide +kernel
theorem dX8_wet_42 : decode cX8_wet 42 = .ok (.iload_n 1, 1) := by decide +kernel
theorem dX8_wet_43 : decode cX8_wet 43 = .ok (.iconst 1, 1) := by decide +kernel
theorem dX8_wet_44 : decode cX8_wet 44 = .ok (.invokestatic 55, 3) := by decide +kernel
theorem dX8_wet_47 : decode cX8_wet 47 = .ok (.istore_n 3, 1) := by decide +kernel
theorem dX8_wet_48 : decode cX8_wet 48 = .ok (.ldc2_w 271, 3) := by decide +kernel
theorem dX8_wet_51 : decode cX8_wet 51 = .ok (.iload_n 2, 1) := by decide +kernel
theorem dX8_wet_52 : decode cX8_wet 52 = .ok (.i2l, 1) := by decide +kernel
theorem dX8_wet_53 : decode cX8_wet 53 = .ok (.lsub, 1) := by decide +kernel
theorem dX8_wet_54 : decode cX8_wet 54 = .ok (.aload_n 0, 1) := by decide +kernel
theorem dX8_wet_55 : decode cX8_wet 55 = .ok (.getfield 7, 3) := by decide +kernel
theorem dX8_wet_58 : decode cX8_wet 58 = .ok (.iload_n 1, 1) := by decide +kernel
theorem dX8_wet_59 : decode cX8_wet 59 = .ok (.iload_n 3, 1) := by decide +kernel
theorem dX8_wet_60 : decode cX8_wet 60 = .ok (.invokestatic 82, 3) := by decide +kernel
theorem dX8_wet_63 : decode cX8_wet 63 = .ok (.i2l, 1) := by decide +kernel
theorem dX8_wet_64 : decode cX8_wet 64 = .ok (.lmul, 1) := by decide +kernel
theorem dX8_wet_65 : decode cX8_wet 65 = .ok (.iload_n 2, 1) := by decide +kernel
theorem dX8_wet_66 : decode cX8_wet 66 = .ok (.i2l, 1) := by decide +kernel
theorem dX8_wet_67 : decode cX8_wet 67 = .ok (.aload_n 0, 1) := by decide +kernel
theorem dX8_wet_68 : decode cX8_wet 68 = .ok (.getfield 7, 3) := by decide +kernel
theorem dX8_wet_71 : decode cX8_wet 71 = .ok (.iload_n 1, 1) := by decide +kernel
theorem dX8_wet_72 : decode cX8_wet 72 = .ok (.iload_n 3, 1) := by decide +kernel
theorem dX8_wet_73 : decode cX8_wet 73 = .ok (.bipush 24, 2) := by decide +kernel
theorem dX8_wet_75 : decode cX8_wet 75 = .ok (.if_icmp .ge 10, 3) := by decide +kernel
theorem dX8_wet_78 : decode cX8_wet 78 = .ok (.iload_n 3, 1) := by decide +kernel
theorem dX8_wet_79 : decode cX8_wet 79 = .ok (.bipush 6, 2) := by decide +kernel
theorem dX8_wet_81 : decode cX8_wet 81 = .ok (.iadd, 1) := by decide +kernel
theorem dX8_wet_82 : decode cX8_wet 82 = .ok (.goto 4, 3) := by decide +kernel
theorem dX8_wet_85 : decode cX8_wet 85 = .ok (.iload_n 3, 1) := by decide +kernel
theorem dX8_wet_86 : decode cX8_wet 86 = .ok (.invokestatic 82, 3) := by decide +kernel
theorem dX8_wet_89 : decode cX8_wet 89 = .ok (.i2l, 1) := by decide +kernel
theorem dX8_wet_90 : decode cX8_wet 90 = .ok (.lmul, 1) := by decide +kernel
theorem dX8_wet_91 : decode cX8_wet 91 = .ok (.ladd, 1) := by decide +kernel
theorem dX8_wet_92 : decode cX8_wet 92 = .ok (.lstore 4, 2) := by decide +kernel
theorem dX8_wet_94 : decode cX8_wet 94 = .ok (.aload_n 0, 1) := by decide +kernel
theorem dX8_wet_95 : decode cX8_wet 95 = .ok (.lload 4, 2) := by decide +kernel
theorem dX8_wet_97 : decode cX8_wet 97 = .ok (.ldc2_w 271, 3) := by decide +kernel
theorem dX8_wet_100 : decode cX8_wet 100 = .ok (.invokevirtual 273, 3) := by decide +kernel
theorem dX8_wet_103 : decode cX8_wet 103 = .ok (.ireturn, 1) := by decide +kernel
theorem dX8_evenings_0 : decode cX8_evenings 0 = .ok (.iload_n 1, 1) := by decide +kernel
theorem dX8_evenings_1 : decode cX8_evenings 1 = .ok (.i2l, 1) := by decide +kernel
theorem dX8_evenings_2 : decode cX8_evenings 2 = .ok (.lconst 0, 1) := by decide +kernel
theorem dX8_evenings_3 : decode cX8_evenings 3 = .ok (.ldc2_w 277, 3) := by decide +kernel
theorem dX8_evenings_6 : decode cX8_evenings 6 = .ok (.invokestatic 46, 3) := by decide +kernel
theorem dX8_evenings_9 : decode cX8_evenings 9 = .ok (.ifCond .eq 15, 3) := by decide +kernel
theorem dX8_evenings_12 : decode cX8_evenings 12 = .ok (.iload_n 2, 1) := by decide +kernel
theorem dX8_evenings_13 : decode cX8_evenings 13 = .ok (.i2l, 1) := by decide +kernel
theorem dX8_evenings_14 : decode cX8_evenings 14 = .ok (.lconst 0, 1) := by decide +kernel
theorem dX8_evenings_15 : decode cX8_evenings 15 = .ok (.ldc2_w 279, 3) := by decide +kernel
theorem dX8_evenings_18 : decode cX8_evenings 18 = .ok (.invokestatic 46, 3) := by decide +kernel
theorem dX8_evenings_21 : decode cX8_evenings 21 = .ok (.ifCond .ne 8, 3) := by decide +kernel
theorem dX8_evenings_24 : decode cX8_evenings 24 = .ok (.aload_n 0, 1) := by decide +kernel
theorem dX8_evenings_25 : decode cX8_evenings 25 = .ok (.invokevirtual 101, 3) := by decide +kernel
theorem dX8_evenings_28 : decode cX8_evenings 28 = .ok (.ireturn, 1) := by decide +kernel
theorem dX8_evenings_29 : decode cX8_evenings 29 = .ok (.aload_n 0, 1) := by decide +kernel
theorem dX8_evenings_30 : decode cX8_evenings 30 = .ok (.invokevirtual 225, 3) := by decide +kernel
theorem dX8_evenings_33 : decode cX8_evenings 33 = .ok (.iload_n 1, 1) := by decide +kernel
theorem dX8_evenings_34 : decode cX8_evenings 34 = .ok (.i2l, 1) := by decide +kernel
theorem dX8_evenings_35 : decode cX8_evenings 35 = .ok (.lstore_n 3, 1) := by decide +kernel
theorem dX8_evenings_36 : decode cX8_evenings 36 = .ok (.iconst 0, 1) := by decide +kernel
theorem dX8_evenings_37 : decode cX8_evenings 37 = .ok (.istore 5, 2) := by decide +kernel
theorem dX8_evenings_39 : decode cX8_evenings 39 = .ok (.iconst 0, 1) := by decide +kernel
theorem dX8_evenings_40 : decode cX8_evenings 40 = .ok (.istore 6, 2) := by decide +kernel
theorem dX8_evenings_42 : decode cX8_evenings 42 = .ok (.iload 6, 2) := by decide +kernel
theorem dX8_evenings_44 : decode cX8_evenings 44 = .ok (.iload_n 2, 1) := by decide +kernel
theorem dX8_evenings_45 : decode cX8_evenings 45 = .ok (.if_icmp .ge 149, 3) := by decide +kernel
theorem dX8_evenings_48 : decode cX8_evenings 48 = .ok (.lload_n 3, 1) := by decide +kernel
theorem dX8_evenings_49 : decode cX8_evenings 49 = .ok (.ldc2_w 281, 3) := by decide +kernel
theorem dX8_evenings_52 : decode cX8_evenings 52 = .ok (.lmul, 1) := by decide +kernel
theorem dX8_evenings_53 : decode cX8_evenings 53 = .ok (.ldc2_w 283, 3) := by decide +kernel
theorem dX8_evenings_56 : decode cX8_evenings 56 = .ok (.ladd, 1) := by decide +kernel
theorem dX8_evenings_57 : decode cX8_evenings 57 = .ok (.ldc2_w 285, 3) := by decide +kernel
theorem dX8_evenings_60 : decode cX8_evenings 60 = .ok (.lrem, 1) := by decide +kernel
theorem dX8_evenings_61 : decode cX8_evenings 61 = .ok (.lstore_n 3, 1) := by decide +kernel
theorem dX8_evenings_62 : decode cX8_evenings 62 = .ok (.lload_n 3, 1) := by decide +kernel
theorem dX8_evenings_63 : decode cX8_evenings 63 = .ok (.ldc2_w 287, 3) := by decide +kernel
theorem dX8_evenings_66 : decode cX8_evenings 66 = .ok (.ldiv, 1) := by decide +kernel
theorem dX8_evenings_67 : decode cX8_evenings 67 = .ok (.ldc2_w 289, 3) := by decide +kernel
theorem dX8_evenings_70 : decode cX8_evenings 70 = .ok (.lrem, 1) := by decide +kernel
theorem dX8_evenings_71 : decode cX8_evenings 71 = .ok (.l2i, 1) := by decide +kernel
theorem dX8_evenings_72 : decode cX8_evenings 72 = .ok (.istore 7, 2) := by decide +kernel
theorem dX8_evenings_74 : decode cX8_evenings 74 = .ok (.lload_n 3, 1) := by decide +kernel
theorem dX8_evenings_75 : decode cX8_evenings 75 = .ok (.ldc2_w 291, 3) := by decide +kernel
theorem dX8_evenings_78 : decode cX8_evenings 78 = .ok (.ldiv, 1) := by decide +kernel
theorem dX8_evenings_79 : decode cX8_evenings 79 = .ok (.ldc2_w 293, 3) := by decide +kernel
theorem dX8_evenings_82 : decode cX8_evenings 82 = .ok (.lrem, 1) := by decide +kernel
theorem dX8_evenings_83 : decode cX8_evenings 83 = .ok (.l2i, 1) := by decide +kernel
theorem dX8_evenings_84 : decode cX8_evenings 84 = .ok (.istore 8, 2) := by decide +kernel
theorem dX8_evenings_86 : decode cX8_evenings 86 = .ok (.iload 7, 2) := by decide +kernel
theorem dX8_evenings_88 : decode cX8_evenings 88 = .ok (.aload_n 0, 1) := by decide +kernel
theorem dX8_evenings_89 : decode cX8_evenings 89 = .ok (.getfield 13, 3) := by decide +kernel
theorem dX8_evenings_92 : decode cX8_evenings 92 = .ok (.bipush 8, 2) := by decide +kernel
theorem dX8_evenings_94 : decode cX8_evenings 94 = .ok (.iaload, 1) := by decide +kernel
theorem dX8_evenings_95 : decode cX8_evenings 95 = .ok (.if_icmp .ge 7, 3) := by decide +kernel
theorem dX8_evenings_98 : decode cX8_evenings 98 = .ok (.iconst 1, 1) := by decide +kernel
theorem dX8_evenings_99 : decode cX8_evenings 99 = .ok (.goto 4, 3) := by decide +kernel
theorem dX8_evenings_102 : decode cX8_evenings 102 = .ok (.iconst 0, 1) := by decide +kernel
theorem dX8_evenings_103 : decode cX8_evenings 103 = .ok (.istore 9, 2) := by decide +kernel
theorem dX8_evenings_105 : decode cX8_evenings 105 = .ok (.iload 9, 2) := by decide +kernel
theorem dX8_evenings_107 : decode cX8_evenings 107 = .ok (.ifCond .eq 34, 3) := by decide +kernel
theorem dX8_evenings_110 : decode cX8_evenings 110 = .ok (.aload_n 0, 1) := by decide +kernel
theorem dX8_evenings_111 : decode cX8_evenings 111 = .ok (.getfield 13, 3) := by decide +kernel
theorem dX8_evenings_114 : decode cX8_evenings 114 = .ok (.iload 7, 2) := by decide +kernel
theorem dX8_evenings_116 : decode cX8_evenings 116 = .ok (.invokestatic 59, 3) := by decide +kernel
theorem dX8_evenings_119 : decode cX8_evenings 119 = .ok (.iconst (-1), 1) := by decide +kernel
theorem dX8_evenings_120 : decode cX8_evenings 120 = .ok (.if_icmp .eq 21, 3) := by decide +kernel
theorem dX8_evenings_123 : decode cX8_evenings 123 = .ok (.iload 5, 2) := by decide +kernel
theorem dX8_evenings_125 : decode cX8_evenings 125 = .ok (.aload_n 0, 1) := by decide +kernel
theorem dX8_evenings_126 : decode cX8_evenings 126 = .ok (.getfield 13, 3) := by decide +kernel
theorem dX8_evenings_129 : decode cX8_evenings 129 = .ok (.iload 7, 2) := by decide +kernel
theorem dX8_evenings_131 : decode cX8_evenings 131 = .ok (.iconst (-1), 1) := by decide +kernel
theorem dX8_evenings_132 : decode cX8_evenings 132 = .ok (.invokestatic 182, 3) := by decide +kernel
theorem dX8_evenings_135 : decode cX8_evenings 135 = .ok (.iadd, 1) := by decide +kernel
theorem dX8_evenings_136 : decode cX8_evenings 136 = .ok (.istore 5, 2) := by decide +kernel
theorem dX8_evenings_138 : decode cX8_evenings 138 = .ok (.goto 50, 3) := by decide +kernel
theorem dX8_evenings_141 : decode cX8_evenings 141 = .ok (.iload 9, 2) := by decide +kernel
theorem dX8_evenings_143 : decode cX8_evenings 143 = .ok (.ifCond .eq 34, 3) := by decide +kernel
theorem dX8_evenings_146 : decode cX8_evenings 146 = .ok (.aload_n 0, 1) := by decide +kernel
theorem dX8_evenings_147 : decode cX8_evenings 147 = .ok (.getfield 13, 3) := by decide +kernel
theorem dX8_evenings_150 : decode cX8_evenings 150 = .ok (.iload 8, 2) := by decide +kernel
theorem dX8_evenings_152 : decode cX8_evenings 152 = .ok (.invokestatic 171, 3) := by decide +kernel
theorem dX8_evenings_155 : decode cX8_evenings 155 = .ok (.ifCond .eq 22, 3) := by decide +kernel
theorem dX8_evenings_158 : decode cX8_evenings 158 = .ok (.iload 5, 2) := by decide +kernel
theorem dX8_evenings_160 : decode cX8_evenings 160 = .ok (.aload_n 0, 1) := by decide +kernel
theorem dX8_evenings_161 : decode cX8_evenings 161 = .ok (.getfield 13, 3) := by decide +kernel
theorem dX8_evenings_164 : decode cX8_evenings 164 = .ok (.iload 7, 2) := by decide +kernel
theorem dX8_evenings_166 : decode cX8_evenings 166 = .ok (.iload 8, 2) := by decide +kernel
theorem dX8_evenings_168 : decode cX8_evenings 168 = .ok (.invokestatic 182, 3) := by decide +kernel
theorem dX8_evenings_171 : decode cX8_evenings 171 = .ok (.iadd, 1) := by decide +kernel
theorem dX8_evenings_172 : decode cX8_evenings 172 = .ok (.istore 5, 2) := by decide +kernel
theorem dX8_evenings_174 : decode cX8_evenings 174 = .ok (.goto 14, 3) := by decide +kernel
theorem dX8_evenings_177 : decode cX8_evenings 177 = .ok (.aload_n 0, 1) := by decide +kernel
theorem dX8_evenings_178 : decode cX8_evenings 178 = .ok (.getfield 13, 3) := by decide +kernel
theorem dX8_evenings_181 : decode cX8_evenings 181 = .ok (.bipush 6, 2) := by decide +kernel
theorem dX8_evenings_183 : decode cX8_evenings 183 = .ok (.dup2, 1) := by decide +kernel
theorem dX8_evenings_184 : decode cX8_evenings 184 = .ok (.iaload, 1) := by decide +kernel
theorem dX8_evenings_185 : decode cX8_evenings 185 = .ok (.iconst 1, 1) := by decide +kernel
theorem dX8_evenings_186 : decode cX8_evenings 186 = .ok (.iadd, 1) := by decide +kernel
theorem dX8_evenings_187 : decode cX8_evenings 187 = .ok (.iastore, 1) := by decide +kernel
theorem dX8_evenings_188 : decode cX8_evenings 188 = .ok (.iinc 6 1, 3) := by decide +kernel
theorem dX8_evenings_191 : decode cX8_evenings 191 = .ok (.goto (-149), 3) := by decide +kernel
theorem dX8_evenings_194 : decode cX8_evenings 194 = .ok (.iload 5, 2) := by decide +kernel
theorem dX8_evenings_196 : decode cX8_evenings 196 = .ok (.ireturn, 1) := by decide +kernel
theorem dX8_part_0 : decode cX8_part 0 = .ok (.iload_n 1, 1) := by decide +kernel
theorem dX8_part_1 : decode cX8_part 1 = .ok (.i2l, 1) := by decide +kernel
theorem dX8_part_2 : decode cX8_part 2 = .ok (.lconst 0, 1) := by decide +kernel
theorem dX8_part_3 : decode cX8_part 3 = .ok (.lconst 1, 1) := by decide +kernel
theorem dX8_part_4 : decode cX8_part 4 = .ok (.invokestatic 46, 3) := by decide +kernel
theorem dX8_part_7 : decode cX8_part 7 = .ok (.ifCond .eq 21, 3) := by decide +kernel
theorem dX8_part_10 : decode cX8_part 10 = .ok (.iload_n 1, 1) := by decide +kernel
theorem dX8_part_11 : decode cX8_part 11 = .ok (.ifCond .ne 10, 3) := by decide +kernel
theorem dX8_part_14 : decode cX8_part 14 = .ok (.aload_n 0, 1) := by decide +kernel
theorem dX8_part_15 : decode cX8_part 15 = .ok (.getfield 52, 3) := by decide +kernel
theorem dX8_part_18 : decode cX8_part 18 = .ok (.goto 15, 3) := by decide +kernel
theorem dX8_part_21 : decode cX8_part 21 = .ok (.aload_n 0, 1) := by decide +kernel
theorem dX8_part_22 : decode cX8_part 22 = .ok (.getfield 23, 3) := by decide +kernel
theorem dX8_part_25 : decode cX8_part 25 = .ok (.goto 8, 3) := by decide +kernel
theorem dX8_part_28 : decode cX8_part 28 = .ok (.aload_n 0, 1) := by decide +kernel
theorem dX8_part_29 : decode cX8_part 29 = .ok (.invokevirtual 101, 3) := by decide +kernel
theorem dX8_part_32 : decode cX8_part 32 = .ok (.i2l, 1) := by decide +kernel
theorem dX8_part_33 : decode cX8_part 33 = .ok (.lreturn, 1) := by decide +kernel
theorem dX8_image_0 : decode cX8_image 0 = .ok (.iload_n 1, 1) := by decide +kernel
theorem dX8_image_1 : decode cX8_image 1 = .ok (.i2l, 1) := by decide +kernel
theorem dX8_image_2 : decode cX8_image 2 = .ok (.lconst 0, 1) := by decide +kernel
theorem dX8_image_3 : decode cX8_image 3 = .ok (.lconst 1, 1) := by decide +kernel
theorem dX8_image_4 : decode cX8_image 4 = .ok (.invokestatic 46, 3) := by decide +kernel
theorem dX8_image_7 : decode cX8_image 7 = .ok (.ifCond .ne 8, 3) := by decide +kernel
theorem dX8_image_10 : decode cX8_image 10 = .ok (.aload_n 0, 1) := by decide +kernel
theorem dX8_image_11 : decode cX8_image 11 = .ok (.invokevirtual 101, 3) := by decide +kernel
theorem dX8_image_14 : decode cX8_image 14 = .ok (.ireturn, 1) := by decide +kernel
theorem dX8_image_15 : decode cX8_image 15 = .ok (.iconst 0, 1) := by decide +kernel
theorem dX8_image_16 : decode cX8_image 16 = .ok (.istore_n 2, 1) := by decide +kernel
theorem dX8_image_17 : decode cX8_image 17 = .ok (.iload_n 2, 1) := by decide +kernel
theorem dX8_image_18 : decode cX8_image 18 = .ok (.sipush 171, 3) := by decide +kernel
theorem dX8_image_21 : decode cX8_image 21 = .ok (.if_icmp .ge 27, 3) := by decide +kernel
theorem dX8_image_24 : decode cX8_image 24 = .ok (.aload_n 0, 1) := by decide +kernel
theorem dX8_image_25 : decode cX8_image 25 = .ok (.getfield 16, 3) := by decide +kernel
theorem dX8_image_28 : decode cX8_image 28 = .ok (.sipush 171, 3) := by decide +kernel
theorem dX8_image_31 : decode cX8_image 31 = .ok (.iload_n 1, 1) := by decide +kernel
theorem dX8_image_32 : decode cX8_image 32 = .ok (.imul, 1) := by decide +kernel
theorem dX8_image_33 : decode cX8_image 33 = .ok (.iload_n 2, 1) := by decide +kernel
theorem dX8_image_34 : decode cX8_image 34 = .ok (.iadd, 1) := by decide +kernel
theorem dX8_image_35 : decode cX8_image 35 = .ok (.aload_n 0, 1) := by decide +kernel
theorem dX8_image_36 : decode cX8_image 36 = .ok (.getfield 7, 3) := by decide +kernel
theorem dX8_image_39 : decode cX8_image 39 = .ok (.iload_n 2, 1) := by decide +kernel
theorem dX8_image_40 : decode cX8_image 40 = .ok (.iaload, 1) := by decide +kernel
theorem dX8_image_41 : decode cX8_image 41 = .ok (.iastore, 1) := by decide +kernel
theorem dX8_image_42 : decode cX8_image 42 = .ok (.iinc 2 1, 3) := by decide +kernel
theorem dX8_image_45 : decode cX8_image 45 = .ok (.goto (-28), 3) := by decide +kernel
theorem dX8_image_48 : decode cX8_image 48 = .ok (.aload_n 0, 1) := by decide +kernel
theorem dX8_image_49 : decode cX8_image 49 = .ok (.getfield 19, 3) := by decide +kernel
theorem dX8_image_52 : decode cX8_image 52 = .ok (.iload_n 1, 1) := by decide +kernel
theorem dX8_image_53 : decode cX8_image 53 = .ok (.iconst 1, 1) := by decide +kernel
theorem dX8_image_54 : decode cX8_image 54 = .ok (.bastore, 1) := by decide +kernel
theorem dX8_image_55 : decode cX8_image 55 = .ok (.iconst 1, 1) := by decide +kernel
theorem dX8_image_56 : decode cX8_image 56 = .ok (.ireturn, 1) := by decide +kernel
theorem dX8_from_0 : decode cX8_from 0 = .ok (.iload_n 1, 1) := by decide +kernel
theorem dX8_from_1 : decode cX8_from 1 = .ok (.i2l, 1) := by decide +kernel
theorem dX8_from_2 : decode cX8_from 2 = .ok (.lconst 0, 1) := by decide +kernel
theorem dX8_from_3 : decode cX8_from 3 = .ok (.lconst 1, 1) := by decide +kernel
theorem dX8_from_4 : decode cX8_from 4 = .ok (.invokestatic 46, 3) := by decide +kernel
theorem dX8_from_7 : decode cX8_from 7 = .ok (.ifCond .ne 8, 3) := by decide +kernel
theorem dX8_from_10 : decode cX8_from 10 = .ok (.aload_n 0, 1) := by decide +kernel
theorem dX8_from_11 : decode cX8_from 11 = .ok (.invokevirtual 101, 3) := by decide +kernel
theorem dX8_from_14 : decode cX8_from 14 = .ok (.ireturn, 1) := by decide +kernel
theorem dX8_from_15 : decode cX8_from 15 = .ok (.aload_n 0, 1) := by decide +kernel
theorem dX8_from_16 : decode cX8_from 16 = .ok (.getfield 19, 3) := by decide +kernel
theorem dX8_from_19 : decode cX8_from 19 = .ok (.iload_n 1, 1) := by decide +kernel
theorem dX8_from_20 : decode cX8_from 20 = .ok (.baload, 1) := by decide +kernel
theorem dX8_from_21 : decode cX8_from 21 = .ok (.ifCond .ne 8, 3) := by decide +kernel
theorem dX8_from_24 : decode cX8_from 24 = .ok (.aload_n 0, 1) := by decide +kernel
theorem dX8_from_25 : decode cX8_from 25 = .ok (.invokevirtual 200, 3) := by decide +kernel
theorem dX8_from_28 : decode cX8_from 28 = .ok (.ireturn, 1) := by decide +kernel
theorem dX8_from_29 : decode cX8_from 29 = .ok (.iconst 0, 1) := by decide +kernel
theorem dX8_from_30 : decode cX8_from 30 = .ok (.istore_n 2, 1) := by decide +kernel
theorem dX8_from_31 : decode cX8_from 31 = .ok (.iload_n 2, 1) := by decide +kernel
theorem dX8_from_32 : decode cX8_from 32 = .ok (.sipush 171, 3) := by decide +kernel
theorem dX8_from_35 : decode cX8_from 35 = .ok (.if_icmp .ge 27, 3) := by decide +kernel
theorem dX8_from_38 : decode cX8_from 38 = .ok (.aload_n 0, 1) := by decide +kernel
theorem dX8_from_39 : decode cX8_from 39 = .ok (.getfield 7, 3) := by decide +kernel
theorem dX8_from_42 : decode cX8_from 42 = .ok (.iload_n 2, 1) := by decide +kernel
theorem dX8_from_43 : decode cX8_from 43 = .ok (.aload_n 0, 1) := by decide +kernel
theorem dX8_from_44 : decode cX8_from 44 = .ok (.getfield 16, 3) := by decide +kernel
theorem dX8_from_47 : decode cX8_from 47 = .ok (.sipush 171, 3) := by decide +kernel
theorem dX8_from_50 : decode cX8_from 50 = .ok (.iload_n 1, 1) := by decide +kernel
theorem dX8_from_51 : decode cX8_from 51 = .ok (.imul, 1) := by decide +kernel
theorem dX8_from_52 : decode cX8_from 52 = .ok (.iload_n 2, 1) := by decide +kernel
theorem dX8_from_53 : decode cX8_from 53 = .ok (.iadd, 1) := by decide +kernel
theorem dX8_from_54 : decode cX8_from 54 = .ok (.iaload, 1) := by decide +kernel
theorem dX8_from_55 : decode cX8_from 55 = .ok (.iastore, 1) := by decide +kernel
theorem dX8_from_56 : decode cX8_from 56 = .ok (.iinc 2 1, 3) := by decide +kernel
theorem dX8_from_59 : decode cX8_from 59 = .ok (.goto (-28), 3) := by decide +kernel
theorem dX8_from_62 : decode cX8_from 62 = .ok (.iconst 1, 1) := by decide +kernel
theorem dX8_from_63 : decode cX8_from 63 = .ok (.ireturn, 1) := by decide +kernel
theorem dX8_status_0 : decode cX8_status 0 = .ok (.iload_n 1, 1) := by decide +kernel
theorem dX8_status_1 : decode cX8_status 1 = .ok (.i2l, 1) := by decide +kernel
theorem dX8_status_2 : decode cX8_status 2 = .ok (.lconst 0, 1) := by decide +kernel
theorem dX8_status_3 : decode cX8_status 3 = .ok (.ldc2_w 211, 3) := by decide +kernel
theorem dX8_status_6 : decode cX8_status 6 = .ok (.invokestatic 46, 3) := by decide +kernel
theorem dX8_status_9 : decode cX8_status 9 = .ok (.ifCond .ne 15, 3) := by decide +kernel
theorem dX8_status_12 : decode cX8_status 12 = .ok (.aload_n 0, 1) := by decide +kernel
theorem dX8_status_13 : decode cX8_status 13 = .ok (.getfield 27, 3) := by decide +kernel
theorem dX8_status_16 : decode cX8_status 16 = .ok (.iconst 0, 1) := by decide +kernel
theorem dX8_status_17 : decode cX8_status 17 = .ok (.dup2, 1) := by decide +kernel
theorem dX8_status_18 : decode cX8_status 18 = .ok (.iaload, 1) := by decide +kernel
theorem dX8_status_19 : decode cX8_status 19 = .ok (.iconst 1, 1) := by decide +kernel
theorem dX8_status_20 : decode cX8_status 20 = .ok (.iadd, 1) := by decide +kernel
theorem dX8_status_21 : decode cX8_status 21 = .ok (.iastore, 1) := by decide +kernel
theorem dX8_status_22 : decode cX8_status 22 = .ok (.iconst (-1), 1) := by decide +kernel
theorem dX8_status_23 : decode cX8_status 23 = .ok (.ireturn, 1) := by decide +kernel
theorem dX8_status_24 : decode cX8_status 24 = .ok (.aload_n 0, 1) := by decide +kernel
theorem dX8_status_25 : decode cX8_status 25 = .ok (.getfield 27, 3) := by decide +kernel
theorem dX8_status_28 : decode cX8_status 28 = .ok (.iload_n 1, 1) := by decide +kernel
theorem dX8_status_29 : decode cX8_status 29 = .ok (.iaload, 1) := by decide +kernel
theorem dX8_status_30 : decode cX8_status 30 = .ok (.ireturn, 1) := by decide +kernel
theorem dX8_counted_0 : decode cX8_counted 0 = .ok (.iconst 0, 1) := by decide +kernel
theorem dX8_counted_1 : decode cX8_counted 1 = .ok (.istore_n 2, 1) := by decide +kernel
theorem dX8_counted_2 : decode cX8_counted 2 = .ok (.iconst 0, 1) := by decide +kernel
theorem dX8_counted_3 : decode cX8_counted 3 = .ok (.istore_n 3, 1) := by decide +kernel
theorem dX8_counted_4 : decode cX8_counted 4 = .ok (.iload_n 3, 1) := by decide +kernel
theorem dX8_counted_5 : decode cX8_counted 5 = .ok (.aload_n 0, 1) := by decide +kernel
theorem dX8_counted_6 : decode cX8_counted 6 = .ok (.getfield 7, 3) := by decide +kernel
theorem dX8_counted_9 : decode cX8_counted 9 = .ok (.bipush 8, 2) := by decide +kernel
theorem dX8_counted_11 : decode cX8_counted 11 = .ok (.iaload, 1) := by decide +kernel
theorem dX8_counted_12 : decode cX8_counted 12 = .ok (.if_icmp .ge 25, 3) := by decide +kernel
theorem dX8_counted_15 : decode cX8_counted 15 = .ok (.iload_n 2, 1) := by decide +kernel
theorem dX8_counted_16 : decode cX8_counted 16 = .ok (.aload_n 0, 1) := by decide +kernel
theorem dX8_counted_17 : decode cX8_counted 17 = .ok (.iload_n 3, 1) := by decide +kernel
theorem dX8_counted_18 : decode cX8_counted 18 = .ok (.invokevirtual 216, 3) := by decide +kernel
theorem dX8_counted_21 : decode cX8_counted 21 = .ok (.ifCond .eq 7, 3) := by decide +kernel
theorem dX8_counted_24 : decode cX8_counted 24 = .ok (.iconst 0, 1) := by decide +kernel
theorem dX8_counted_25 : decode cX8_counted 25 = .ok (.goto 4, 3) := by decide +kernel
theorem dX8_counted_28 : decode cX8_counted 28 = .ok (.iconst 1, 1) := by decide +kernel
theorem dX8_counted_29 : decode cX8_counted 29 = .ok (.iadd, 1) := by decide +kernel
theorem dX8_counted_30 : decode cX8_counted 30 = .ok (.istore_n 2, 1) := by decide +kernel
theorem dX8_counted_31 : decode cX8_counted 31 = .ok (.iinc 3 1, 3) := by decide +kernel
theorem dX8_counted_34 : decode cX8_counted 34 = .ok (.goto (-30), 3) := by decide +kernel
theorem dX8_counted_37 : decode cX8_counted 37 = .ok (.iconst 0, 1) := by decide +kernel
theorem dX8_counted_38 : decode cX8_counted 38 = .ok (.istore_n 3, 1) := by decide +kernel
theorem dX8_counted_39 : decode cX8_counted 39 = .ok (.iconst 0, 1) := by decide +kernel
theorem dX8_counted_40 : decode cX8_counted 40 = .ok (.istore 4, 2) := by decide +kernel
theorem dX8_counted_42 : decode cX8_counted 42 = .ok (.iload 4, 2) := by decide +kernel
theorem dX8_counted_44 : decode cX8_counted 44 = .ok (.bipush 30, 2) := by decide +kernel
theorem dX8_counted_46 : decode cX8_counted 46 = .ok (.if_icmp .ge 31, 3) := by decide +kernel
theorem dX8_counted_49 : decode cX8_counted 49 = .ok (.iload_n 3, 1) := by decide +kernel
theorem dX8_counted_50 : decode cX8_counted 50 = .ok (.aload_n 0, 1) := by decide +kernel
theorem dX8_counted_51 : decode cX8_counted 51 = .ok (.getfield 7, 3) := by decide +kernel
theorem dX8_counted_54 : decode cX8_counted 54 = .ok (.iconst 5, 1) := by decide +kernel
theorem dX8_counted_55 : decode cX8_counted 55 = .ok (.iaload, 1) := by decide +kernel
theorem dX8_counted_56 : decode cX8_counted 56 = .ok (.iload 4, 2) := by decide +kernel
theorem dX8_counted_58 : decode cX8_counted 58 = .ok (.invokestatic 66, 3) := by decide +kernel
theorem dX8_counted_61 : decode cX8_counted 61 = .ok (.ifCond .eq 7, 3) := by decide +kernel
theorem dX8_counted_64 : decode cX8_counted 64 = .ok (.iconst 1, 1) := by decide +kernel
theorem dX8_counted_65 : decode cX8_counted 65 = .ok (.goto 4, 3) := by decide +kernel
theorem dX8_counted_68 : decode cX8_counted 68 = .ok (.iconst 0, 1) := by decide +kernel
theorem dX8_counted_69 : decode cX8_counted 69 = .ok (.iadd, 1) := by decide +kernel
theorem dX8_counted_70 : decode cX8_counted 70 = .ok (.istore_n 3, 1) := by decide +kernel
theorem dX8_counted_71 : decode cX8_counted 71 = .ok (.iinc 4 1, 3) := by decide +kernel
theorem dX8_counted_74 : decode cX8_counted 74 = .ok (.goto (-32), 3) := by decide +kernel
theorem dX8_counted_77 : decode cX8_counted 77 = .ok (.iload_n 1, 1) := by decide +kernel
theorem dX8_counted_78 : decode cX8_counted 78 = .ok (.tableswitch 110 0 8 #[50, 58, 60, 62, 70, 78, 86, 94, 102], 50) := by decide +kernel
theorem dX8_counted_128 : decode cX8_counted 128 = .ok (.aload_n 0, 1) := by decide +kernel
theorem dX8_counted_129 : decode cX8_counted 129 = .ok (.getfield 7, 3) := by decide +kernel
theorem dX8_counted_132 : decode cX8_counted 132 = .ok (.bipush 8, 2) := by decide +kernel
theorem dX8_counted_134 : decode cX8_counted 134 = .ok (.iaload, 1) := by decide +kernel
theorem dX8_counted_135 : decode cX8_counted 135 = .ok (.ireturn, 1) := by decide +kernel
theorem dX8_counted_136 : decode cX8_counted 136 = .ok (.iload_n 2, 1) := by decide +kernel
theorem dX8_counted_137 : decode cX8_counted 137 = .ok (.ireturn, 1) := by decide +kernel
theorem dX8_counted_138 : decode cX8_counted 138 = .ok (.iload_n 3, 1) := by decide +kernel
theorem dX8_counted_139 : decode cX8_counted 139 = .ok (.ireturn, 1) := by decide +kernel
theorem dX8_counted_140 : decode cX8_counted 140 = .ok (.aload_n 0, 1) := by decide +kernel
theorem dX8_counted_141 : decode cX8_counted 141 = .ok (.getfield 7, 3) := by decide +kernel
theorem dX8_counted_144 : decode cX8_counted 144 = .ok (.bipush 6, 2) := by decide +kernel
theorem dX8_counted_146 : decode cX8_counted 146 = .ok (.iaload, 1) := by decide +kernel
theorem dX8_counted_147 : decode cX8_counted 147 = .ok (.ireturn, 1) := by decide +kernel
theorem dX8_counted_148 : decode cX8_counted 148 = .ok (.aload_n 0, 1) := by decide +kernel
theorem dX8_counted_149 : decode cX8_counted 149 = .ok (.getfield 7, 3) := by decide +kernel
theorem dX8_counted_152 : decode cX8_counted 152 = .ok (.bipush 7, 2) := by decide +kernel
theorem dX8_counted_154 : decode cX8_counted 154 = .ok (.iaload, 1) := by decide +kernel
theorem dX8_counted_155 : decode cX8_counted 155 = .ok (.ireturn, 1) := by decide +kernel
theorem dX8_counted_156 : decode cX8_counted 156 = .ok (.aload_n 0, 1) := by decide +kernel
theorem dX8_counted_157 : decode cX8_counted 157 = .ok (.getfield 7, 3) := by decide +kernel
theorem dX8_counted_160 : decode cX8_counted 160 = .ok (.bipush 30, 2) := by decide +kernel
theorem dX8_counted_162 : decode cX8_counted 162 = .ok (.iaload, 1) := by decide +kernel
theorem dX8_counted_163 : decode cX8_counted 163 = .ok (.ireturn, 1) := by decide +kernel
theorem dX8_counted_164 : decode cX8_counted 164 = .ok (.aload_n 0, 1) := by decide +kernel
theorem dX8_counted_165 : decode cX8_counted 165 = .ok (.getfield 7, 3) := by decide +kernel
theorem dX8_counted_168 : decode cX8_counted 168 = .ok (.bipush 46, 2) := by decide +kernel
theorem dX8_counted_170 : decode cX8_counted 170 = .ok (.iaload, 1) := by decide +kernel
theorem dX8_counted_171 : decode cX8_counted 171 = .ok (.ireturn, 1) := by decide +kernel
theorem dX8_counted_172 : decode cX8_counted 172 = .ok (.aload_n 0, 1) := by decide +kernel
theorem dX8_counted_173 : decode cX8_counted 173 = .ok (.getfield 7, 3) := by decide +kernel
theorem dX8_counted_176 : decode cX8_counted 176 = .ok (.bipush 65, 2) := by decide +kernel
theorem dX8_counted_178 : decode cX8_counted 178 = .ok (.iaload, 1) := by decide +kernel
theorem dX8_counted_179 : decode cX8_counted 179 = .ok (.ireturn, 1) := by decide +kernel
theorem dX8_counted_180 : decode cX8_counted 180 = .ok (.aload_n 0, 1) := by decide +kernel
theorem dX8_counted_181 : decode cX8_counted 181 = .ok (.getfield 7, 3) := by decide +kernel
theorem dX8_counted_184 : decode cX8_counted 184 = .ok (.bipush 90, 2) := by decide +kernel
theorem dX8_counted_186 : decode cX8_counted 186 = .ok (.iaload, 1) := by decide +kernel
theorem dX8_counted_187 : decode cX8_counted 187 = .ok (.ireturn, 1) := by decide +kernel
theorem dX8_counted_188 : decode cX8_counted 188 = .ok (.aload_n 0, 1) := by decide +kernel
theorem dX8_counted_189 : decode cX8_counted 189 = .ok (.getfield 117, 3) := by decide +kernel
theorem dX8_counted_192 : decode cX8_counted 192 = .ok (.ireturn, 1) := by decide +kernel
theorem dX8_count_0 : decode cX8_count 0 = .ok (.iload_n 1, 1) := by decide +kernel
theorem dX8_count_1 : decode cX8_count 1 = .ok (.i2l, 1) := by decide +kernel
theorem dX8_count_2 : decode cX8_count 2 = .ok (.lconst 0, 1) := by decide +kernel
theorem dX8_count_3 : decode cX8_count 3 = .ok (.ldc2_w 295, 3) := by decide +kernel
theorem dX8_count_6 : decode cX8_count 6 = .ok (.invokestatic 46, 3) := by decide +kernel
theorem dX8_count_9 : decode cX8_count 9 = .ok (.ifCond .eq 11, 3) := by decide +kernel
theorem dX8_count_12 : decode cX8_count 12 = .ok (.aload_n 0, 1) := by decide +kernel
theorem dX8_count_13 : decode cX8_count 13 = .ok (.iload_n 1, 1) := by decide +kernel
theorem dX8_count_14 : decode cX8_count 14 = .ok (.invokevirtual 297, 3) := by decide +kernel
theorem dX8_count_17 : decode cX8_count 17 = .ok (.goto 7, 3) := by decide +kernel
theorem dX8_count_20 : decode cX8_count 20 = .ok (.aload_n 0, 1) := by decide +kernel
theorem dX8_count_21 : decode cX8_count 21 = .ok (.invokevirtual 101, 3) := by decide +kernel
theorem dX8_count_24 : decode cX8_count 24 = .ok (.ireturn, 1) := by decide +kernel
theorem dX8_digestOf_0 : decode cX8_digestOf 0 = .ok (.lload_n 1, 1) := by decide +kernel
theorem dX8_digestOf_1 : decode cX8_digestOf 1 = .ok (.lstore 5, 2) := by decide +kernel
theorem dX8_digestOf_3 : decode cX8_digestOf 3 = .ok (.iconst 0, 1) := by decide +kernel
theorem dX8_digestOf_4 : decode cX8_digestOf 4 = .ok (.istore 7, 2) := by decide +kernel
theorem dX8_digestOf_6 : decode cX8_digestOf 6 = .ok (.iload 7, 2) := by decide +kernel
theorem dX8_digestOf_8 : decode cX8_digestOf 8 = .ok (.iload 4, 2) := by decide +kernel
theorem dX8_digestOf_10 : decode cX8_digestOf 10 = .ok (.if_icmp .ge 28, 3) := by decide +kernel
theorem dX8_digestOf_13 : decode cX8_digestOf 13 = .ok (.ldc2_w 300, 3) := by decide +kernel
theorem dX8_digestOf_16 : decode cX8_digestOf 16 = .ok (.lload 5, 2) := by decide +kernel
theorem dX8_digestOf_18 : decode cX8_digestOf 18 = .ok (.lmul, 1) := by decide +kernel
theorem dX8_digestOf_19 : decode cX8_digestOf 19 = .ok (.aload_n 0, 1) := by decide +kernel
theorem dX8_digestOf_20 : decode cX8_digestOf 20 = .ok (.getfield 7, 3) := by decide +kernel
theorem dX8_digestOf_23 : decode cX8_digestOf 23 = .ok (.iload_n 3, 1) := by decide +kernel
theorem dX8_digestOf_24 : decode cX8_digestOf 24 = .ok (.iload 7, 2) := by decide +kernel
theorem dX8_digestOf_26 : decode cX8_digestOf 26 = .ok (.iadd, 1) := by decide +kernel
theorem dX8_digestOf_27 : decode cX8_digestOf 27 = .ok (.iaload, 1) := by decide +kernel
theorem dX8_digestOf_28 : decode cX8_digestOf 28 = .ok (.i2l, 1) := by decide +kernel
theorem dX8_digestOf_29 : decode cX8_digestOf 29 = .ok (.ladd, 1) := by decide +kernel
theorem dX8_digestOf_30 : decode cX8_digestOf 30 = .ok (.lstore 5, 2) := by decide +kernel
theorem dX8_digestOf_32 : decode cX8_digestOf 32 = .ok (.iinc 7 1, 3) := by decide +kernel
theorem dX8_digestOf_35 : decode cX8_digestOf 35 = .ok (.goto (-29), 3) := by decide +kernel
theorem dX8_digestOf_38 : decode cX8_digestOf 38 = .ok (.lload 5, 2) := by decide +kernel
theorem dX8_digestOf_40 : decode cX8_digestOf 40 = .ok (.lreturn, 1) := by decide +kernel
theorem dX8_digest_0 : decode cX8_digest 0 = .ok (.ldc2_w 302, 3) := by decide +kernel
theorem dX8_digest_3 : decode cX8_digest 3 = .ok (.lstore_n 1, 1) := by decide +kernel
theorem dX8_digest_4 : decode cX8_digest 4 = .ok (.iconst 0, 1) := by decide +kernel
theorem dX8_digest_5 : decode cX8_digest 5 = .ok (.istore_n 3, 1) := by decide +kernel
theorem dX8_digest_6 : decode cX8_digest 6 = .ok (.iload_n 3, 1) := by decide +kernel
theorem dX8_digest_7 : decode cX8_digest 7 = .ok (.bipush 10, 2) := by decide +kernel
theorem dX8_digest_9 : decode cX8_digest 9 = .ok (.if_icmp .ge 22, 3) := by decide +kernel
theorem dX8_digest_12 : decode cX8_digest 12 = .ok (.ldc2_w 300, 3) := by decide +kernel
theorem dX8_digest_15 : decode cX8_digest 15 = .ok (.lload_n 1, 1) := by decide +kernel
theorem dX8_digest_16 : decode cX8_digest 16 = .ok (.lmul, 1) := by decide +kernel
theorem dX8_digest_17 : decode cX8_digest 17 = .ok (.aload_n 0, 1) := by decide +kernel
theorem dX8_digest_18 : decode cX8_digest 18 = .ok (.iload_n 3, 1) := by decide +kernel
theorem dX8_digest_19 : decode cX8_digest 19 = .ok (.invokevirtual 297, 3) := by decide +kernel
theorem dX8_digest_22 : decode cX8_digest 22 = .ok (.i2l, 1) := by decide +kernel
theorem dX8_digest_23 : decode cX8_digest 23 = .ok (.ladd, 1) := by decide +kernel
theorem dX8_digest_24 : decode cX8_digest 24 = .ok (.lstore_n 1, 1) := by decide +kernel
theorem dX8_digest_25 : decode cX8_digest 25 = .ok (.iinc 3 1, 3) := by decide +kernel
theorem dX8_digest_28 : decode cX8_digest 28 = .ok (.goto (-22), 3) := by decide +kernel
theorem dX8_digest_31 : decode cX8_digest 31 = .ok (.aload_n 0, 1) := by decide +kernel
theorem dX8_digest_32 : decode cX8_digest 32 = .ok (.lload_n 1, 1) := by decide +kernel
theorem dX8_digest_33 : decode cX8_digest 33 = .ok (.iconst 0, 1) := by decide +kernel
theorem dX8_digest_34 : decode cX8_digest 34 = .ok (.bipush 6, 2) := by decide +kernel
theorem dX8_digest_36 : decode cX8_digest 36 = .ok (.invokevirtual 304, 3) := by decide +kernel
theorem dX8_digest_39 : decode cX8_digest 39 = .ok (.lstore_n 1, 1) := by decide +kernel
theorem dX8_digest_40 : decode cX8_digest 40 = .ok (.iconst 0, 1) := by decide +kernel
theorem dX8_digest_41 : decode cX8_digest 41 = .ok (.istore_n 3, 1) := by decide +kernel
theorem dX8_digest_42 : decode cX8_digest 42 = .ok (.iload_n 3, 1) := by decide +kernel
theorem dX8_digest_43 : decode cX8_digest 43 = .ok (.aload_n 0, 1) := by decide +kernel
theorem dX8_digest_44 : decode cX8_digest 44 = .ok (.getfield 7, 3) := by decide +kernel
theorem dX8_digest_47 : decode cX8_digest 47 = .ok (.bipush 8, 2) := by decide +kernel
theorem dX8_digest_49 : decode cX8_digest 49 = .ok (.iaload, 1) := by decide +kernel
theorem dX8_digest_50 : decode cX8_digest 50 = .ok (.if_icmp .ge 38, 3) := by decide +kernel
theorem dX8_digest_53 : decode cX8_digest 53 = .ok (.aload_n 0, 1) := by decide +kernel
theorem dX8_digest_54 : decode cX8_digest 54 = .ok (.lload_n 1, 1) := by decide +kernel
theorem dX8_digest_55 : decode cX8_digest 55 = .ok (.bipush 9, 2) := by decide +kernel
theorem dX8_digest_57 : decode cX8_digest 57 = .ok (.iconst 3, 1) := by decide +kernel
theorem dX8_digest_58 : decode cX8_digest 58 = .ok (.iload_n 3, 1) := by decide +kernel
theorem dX8_digest_59 : decode cX8_digest 59 = .ok (.imul, 1) := by decide +kernel
theorem dX8_digest_60 : decode cX8_digest 60 = .ok (.iadd, 1) := by decide +kernel
theorem dX8_digest_61 : decode cX8_digest 61 = .ok (.iconst 2, 1) := by decide +kernel
theorem dX8_digest_62 : decode cX8_digest 62 = .ok (.invokevirtual 304, 3) := by decide +kernel
theorem dX8_digest_65 : decode cX8_digest 65 = .ok (.lstore_n 1, 1) := by decide +kernel
theorem dX8_digest_66 : decode cX8_digest 66 = .ok (.ldc2_w 300, 3) := by decide +kernel
theorem dX8_digest_69 : decode cX8_digest 69 = .ok (.lload_n 1, 1) := by decide +kernel
theorem dX8_digest_70 : decode cX8_digest 70 = .ok (.lmul, 1) := by decide +kernel
theorem dX8_digest_71 : decode cX8_digest 71 = .ok (.aload_n 0, 1) := by decide +kernel
theorem dX8_digest_72 : decode cX8_digest 72 = .ok (.getfield 7, 3) := by decide +kernel
theorem dX8_digest_75 : decode cX8_digest 75 = .ok (.iload_n 3, 1) := by decide +kernel
theorem dX8_digest_76 : decode cX8_digest 76 = .ok (.invokestatic 59, 3) := by decide +kernel
theorem dX8_digest_79 : decode cX8_digest 79 = .ok (.i2l, 1) := by decide +kernel
theorem dX8_digest_80 : decode cX8_digest 80 = .ok (.ladd, 1) := by decide +kernel
theorem dX8_digest_81 : decode cX8_digest 81 = .ok (.lstore_n 1, 1) := by decide +kernel
theorem dX8_digest_82 : decode cX8_digest 82 = .ok (.iinc 3 1, 3) := by decide +kernel
theorem dX8_digest_85 : decode cX8_digest 85 = .ok (.goto (-43), 3) := by decide +kernel
theorem dX8_digest_88 : decode cX8_digest 88 = .ok (.aload_n 0, 1) := by decide +kernel
theorem dX8_digest_89 : decode cX8_digest 89 = .ok (.lload_n 1, 1) := by decide +kernel
theorem dX8_digest_90 : decode cX8_digest 90 = .ok (.bipush 31, 2) := by decide +kernel
theorem dX8_digest_92 : decode cX8_digest 92 = .ok (.iconst 3, 1) := by decide +kernel
theorem dX8_digest_93 : decode cX8_digest 93 = .ok (.aload_n 0, 1) := by decide +kernel
theorem dX8_digest_94 : decode cX8_digest 94 = .ok (.getfield 7, 3) := by decide +kernel
theorem dX8_digest_97 : decode cX8_digest 97 = .ok (.bipush 30, 2) := by decide +kernel
theorem dX8_digest_99 : decode cX8_digest 99 = .ok (.iaload, 1) := by decide +kernel
theorem dX8_digest_100 : decode cX8_digest 100 = .ok (.imul, 1) := by decide +kernel
theorem dX8_digest_101 : decode cX8_digest 101 = .ok (.invokevirtual 304, 3) := by decide +kernel
theorem dX8_digest_104 : decode cX8_digest 104 = .ok (.lstore_n 1, 1) := by decide +kernel
theorem dX8_digest_105 : decode cX8_digest 105 = .ok (.aload_n 0, 1) := by decide +kernel
theorem dX8_digest_106 : decode cX8_digest 106 = .ok (.lload_n 1, 1) := by decide +kernel
theorem dX8_digest_107 : decode cX8_digest 107 = .ok (.bipush 47, 2) := by decide +kernel
theorem dX8_digest_109 : decode cX8_digest 109 = .ok (.iconst 3, 1) := by decide +kernel
theorem dX8_digest_110 : decode cX8_digest 110 = .ok (.aload_n 0, 1) := by decide +kernel
theorem dX8_digest_111 : decode cX8_digest 111 = .ok (.getfield 7, 3) := by decide +kernel
theorem dX8_digest_114 : decode cX8_digest 114 = .ok (.bipush 46, 2) := by decide +kernel
theorem dX8_digest_116 : decode cX8_digest 116 = .ok (.iaload, 1) := by decide +kernel
theorem dX8_digest_117 : decode cX8_digest 117 = .ok (.imul, 1) := by decide +kernel
theorem dX8_digest_118 : decode cX8_digest 118 = .ok (.invokevirtual 304, 3) := by decide +kernel
theorem dX8_digest_121 : decode cX8_digest 121 = .ok (.lstore_n 1, 1) := by decide +kernel
theorem dX8_digest_122 : decode cX8_digest 122 = .ok (.aload_n 0, 1) := by decide +kernel
theorem dX8_digest_123 : decode cX8_digest 123 = .ok (.lload_n 1, 1) := by decide +kernel
theorem dX8_digest_124 : decode cX8_digest 124 = .ok (.bipush 66, 2) := by decide +kernel
theorem dX8_digest_126 : decode cX8_digest 126 = .ok (.iconst 4, 1) := by decide +kernel
theorem dX8_digest_127 : decode cX8_digest 127 = .ok (.aload_n 0, 1) := by decide +kernel
theorem dX8_digest_128 : decode cX8_digest 128 = .ok (.getfield 7, 3) := by decide +kernel
theorem dX8_digest_131 : decode cX8_digest 131 = .ok (.bipush 65, 2) := by decide +kernel
theorem dX8_digest_133 : decode cX8_digest 133 = .ok (.iaload, 1) := by decide +kernel
theorem dX8_digest_134 : decode cX8_digest 134 = .ok (.imul, 1) := by decide +kernel
theorem dX8_digest_135 : decode cX8_digest 135 = .ok (.invokevirtual 304, 3) := by decide +kernel
theorem dX8_digest_138 : decode cX8_digest 138 = .ok (.lstore_n 1, 1) := by decide +kernel
theorem dX8_digest_139 : decode cX8_digest 139 = .ok (.ldc2_w 300, 3) := by decide +kernel
theorem dX8_digest_142 : decode cX8_digest 142 = .ok (.ldc2_w 300, 3) := by decide +kernel
theorem dX8_digest_145 : decode cX8_digest 145 = .ok (.lload_n 1, 1) := by decide +kernel
theorem dX8_digest_146 : decode cX8_digest 146 = .ok (.lmul, 1) := by decide +kernel
theorem dX8_digest_147 : decode cX8_digest 147 = .ok (.aload_n 0, 1) := by decide +kernel
theorem dX8_digest_148 : decode cX8_digest 148 = .ok (.getfield 52, 3) := by decide +kernel
theorem dX8_digest_151 : decode cX8_digest 151 = .ok (.ladd, 1) := by decide +kernel
theorem dX8_digest_152 : decode cX8_digest 152 = .ok (.lmul, 1) := by decide +kernel
theorem dX8_digest_153 : decode cX8_digest 153 = .ok (.aload_n 0, 1) := by decide +kernel
theorem dX8_digest_154 : decode cX8_digest 154 = .ok (.getfield 23, 3) := by decide +kernel
theorem dX8_digest_157 : decode cX8_digest 157 = .ok (.ladd, 1) := by decide +kernel
theorem dX8_digest_158 : decode cX8_digest 158 = .ok (.lreturn, 1) := by decide +kernel
end
section
def wsAll : List Cond := lw_tbl.filter goodWord
theorem wsAll_mem {w : Cond} (h : w ∈ lw_tbl) (g : goodWord w = true) : w ∈ wsAll := List.mem_filter.mpr ⟨h, g⟩
theorem wsAll_good {w : Cond} (h : w ∈ wsAll) : goodWord w = true := (List.mem_filter.mp h).2
theorem wsAll_tbl {w : Cond} (h : w ∈ wsAll) : w ∈ lw_tbl := (List.mem_filter.mp h).1
/-- the array classes beside the classes' own numbers: 0 int, 1 boolean, 2 byte, 3 Hall -/
abbrev bx_E : Type := va_G × (Nat → ClassId)
abbrev bx_tys (E : bx_E) : List (ClassId × FieldType) := [(E.2 0, .int), (E.2 1, .boolean), (E.2 2, .byte), (E.2 3, .object "UsherRows$Hall")]
/-- links to nest mates' private members -/
abbrev bx_N : Type := String × Nat × MethodName × String
def bx_nest : List bx_N := [("UsherRows$Hall", 69, yX7_within, "UsherRows"), ("UsherRows$Hall", 77, yX7_has, "UsherRows"), ("UsherRows$Plan", 55, yX7_has, "UsherRows"), ("UsherRows$Table", 48, yX7_within, "UsherRows"), ("UsherRows$Tally", 17, yX7_within, "UsherRows"), ("UsherRows", 9, yX0_init, "UsherRows"), ("UsherRows", 29, yX6_init, "UsherRows"), ("UsherRows", 36, yX3_init, "UsherRows"), ("UsherRows", 43, yX5_init, "UsherRows"), ("UsherRows$Text", 11, yX0_init, "UsherRows")]
abbrev bx_nw (q : bx_N) : Cond := .methodLinkNest q.1 q.2.1 q.2.2.1 q.2.2.2
theorem bx_nest_tbl : ∀ q ∈ bx_nest, bx_nw q ∈ lw_tbl := by decide +kernel
/-- the string constants of Text: entry and text, length, bytes -/
def bx_sx : List (Nat × String) := [(49, "hall"), (57, "soul"), (62, "coat"), (67, "sit"), (72, "out"), (77, "minutes")]
def bx_sl : List Nat := [4, 4, 4, 3, 3, 7]
def bx_sb : List (List Int32) := [[104, 97, 108, 108], [115, 111, 117, 108], [99, 111, 97, 116], [115, 105, 116], [111, 117, 116], [109, 105, 110, 117, 116, 101, 115]]
/-- what stands outside the world and stays: the strings, two statics, the class of the halls' row -/
def bx_str (E : bx_E) (A : Nat → Prop) (U : State) (H : Heap) : Prop := vk_S 6 bx_sl bx_sb (fun i => E.2 (100 + i)) (fun i => E.2 (200 + i)) A U H ∧ (∀ i : Nat, i < 6 → vk_R "UsherRows$Text" (bx_sx.getD i (0, "")).1 (bx_sx.getD i (0, "")).2 (E.2 (100 + i)) U) ∧ va_Z "java/lang/String" "COMPACT_STRINGS" "Z" (.int 1) A U H ∧ va_Zq "jdk/internal/util/Preconditions" "SIOOBE_FORMATTER" "Ljava/util/function/BiFunction;" A U H ∧ va_AO "UsherRows$Hall" U
theorem bx_str_go {E : bx_E} {A B : Nat → Prop} {s U : State} {H : Heap} {locs : List Loc} (h : bx_str E A s s.heap) (hS : va_S A s.heap H locs) (hU : U.heap = H) (hW : s.WarmedH U.vm) (hB : ∀ q, B q → A q) : bx_str E B U U.heap := by
  obtain ⟨h1, h2, h3, h4, h5⟩ := h
  rw [hU]
  exact ⟨((h1.kept hS.2.1).moved hW.alike).narrow hB, fun i hi => (h2 i hi).warm hW, ((h3.kept hS.2.1).moved hW.alike).narrow hB, ((h4.kept hS.2.1).moved hW.alike).narrow hB, h5.moved hW.alike⟩
theorem bx_str_call {E : bx_E} {A : Nat → Prop} {U : State} {g : JFrame} {mk : MethodId} {a : Array Value} (h : bx_str E A U U.heap) : bx_str E A (U.calling g mk a) (U.calling g mk a).heap := by
  obtain ⟨h1, h2, h3, h4, h5⟩ := h
  have hv : U.vm.Alike (U.calling g mk a).vm := Vm.Alike.refl U.vm
  exact ⟨h1.moved hv, fun i hi => (h2 i hi).same rfl, h3.moved hv, h4.moved hv, h5.moved hv⟩
def bx_C (p : Program) (R : Room) (s : State) (m : MethodId) (args : Array Value) (meth : Method) (c : Code) (b : ByteArray) (nL : Nat) (own : String) (ty : Option FieldType) (E : bx_E) (A : Nat → Prop) (ce sl : Nat) : Prop :=
  p.tables.exec = Jvm.exec ∧ c.code = b ∧ c.maxLocals = nL ∧ s.vm.findClass own = some m.cls ∧ (∀ w ∈ wsAll, w.before args s = true) ∧ va_K E.1 vwCl (bx_tys E) s ∧ (∀ q ∈ bx_nest, va_Nw (bx_nw q) s) ∧ meth.sig.returnType = ty ∧ meth.locks = false ∧ (∀ q, s.heap.size ≤ q → A q) ∧ (ce ≤ R.cells ∧ sl ≤ R.slots) ∧ bx_str E A s s.heap
def bx_S (p : Program) (l : Launch) (e : Env) (R : Room) (s : State) (m : MethodId) (args : Array Value) (below : List Frame) (meth : Method) (c : Code) (nL : Nat) (E : bx_E) (A : Nat → Prop) (Q : State → Prop) (ce sl : Nat) (pc : Nat) (lv : List (Nat × Value)) (st : List Value) (ws : va_W) : Prop :=
  ∀ (H : Heap) (locs : List Loc) (ls : Array Slot), va_P E.1 vwCl ws H → va_D A ws → va_S A s.heap H locs → lv_has ls nL lv → W p l e R s m args below meth c H locs ce sl Q (F0 m pc ls st)
def bx_get (lv : List (Nat × Value)) (i : Nat) : Option Value := match lv with
  | [] => none
  | q :: r => if q.1 = i then some q.2 else bx_get r i
theorem bx_get_mem : ∀ {lv : List (Nat × Value)} {i : Nat} {v : Value}, bx_get lv i = some v → (i, v) ∈ lv
  | [], _, _, h => by simp [bx_get] at h
  | q :: r, i, v, h => by
    unfold bx_get at h
    by_cases hq : q.1 = i
    · rw [if_pos hq] at h
      cases h
      exact List.mem_cons.mpr (Or.inl (by rw [← hq]))
    · rw [if_neg hq] at h
      exact List.mem_cons_of_mem _ (bx_get_mem h)
theorem bx_at {ls : Array Slot} {nL : Nat} {lv : List (Nat × Value)} (h : lv_has ls nL lv) {i : Nat} {v : Value} (hk : bx_get lv i = some v) : ls[i]? = some (.val v) := h.2.2 _ (bx_get_mem hk)
theorem bx_pl {ls : Array Slot} {nL : Nat} {lv : List (Nat × Value)} (h : lv_has ls nL lv) {i : Nat} {v : Value} (hk : bx_get lv i = some v) : ∃ k : Nat, lv[k]? = some (i, v) := List.getElem?_of_mem (bx_get_mem hk)
/-- the world behind a call: the callee's cells in their places -/
def bx_put (ws : va_W) : List Nat → va_W → va_W
  | p :: ps, x :: xs => bx_put (ws.set p x) ps xs
  | _, _ => ws
theorem bx_put_at : ∀ (ps : List Nat) (w1 ws : va_W) (k : Nat) (q : Nat × va_E), ps.length = w1.length → (bx_put ws ps w1)[k]? = some q → (∃ j : Nat, ps[j]? = some k ∧ w1[j]? = some q) ∨ (k ∉ ps ∧ ws[k]? = some q)
  | [], w1, ws, k, q, _, h => by
    cases w1 <;> exact Or.inr ⟨List.not_mem_nil, h⟩
  | p :: ps, [], ws, k, q, hl, h => by simp at hl
  | p :: ps, x :: xs, ws, k, q, hl, h => by
    rcases bx_put_at ps xs (ws.set p x) k q (by simpa using hl) h with ⟨j, h1, h2⟩ | ⟨h1, h2⟩
    · exact Or.inl ⟨j + 1, by simpa using h1, by simpa using h2⟩
    · by_cases hk : k = p
      · subst hk
        refine Or.inl ⟨0, by simp, ?_⟩
        have hlt : k < ws.length := by
          have := (List.getElem?_eq_some_iff.mp h2).1
          simpa using this
        rw [List.getElem?_set_self hlt] at h2
        simpa using h2
      · rw [List.getElem?_set_ne (Ne.symm hk)] at h2
        exact Or.inr ⟨by simp [hk, h1], h2⟩
theorem bx_fm {α β : Type} {f : α → Option β} : ∀ {ps : List α} {w : List β}, ps.map f = w.map some → ps.filterMap f = w
  | [], [], _ => rfl
  | [], _ :: _, h => by simp at h
  | _ :: _, [], h => by simp at h
  | p :: ps, x :: xs, h => by
    simp only [List.map_cons, List.cons.injEq] at h
    rw [List.filterMap_cons, h.1, bx_fm h.2]
theorem bx_ats {ws wc : va_W} {ps : List Nat} (hps : ps.map (fun i => ws[i]?) = wc.map some) {j : Nat} : (∀ {q : Nat × va_E}, wc[j]? = some q → ∃ i, ps[j]? = some i ∧ ws[i]? = some q) ∧ (∀ {i : Nat}, ps[j]? = some i → ∃ q, wc[j]? = some q ∧ ws[i]? = some q) := by
  constructor
  · intro q hq
    have h1 : (ps.map (fun i => ws[i]?))[j]? = some (some q) := by rw [hps, List.getElem?_map, hq]; rfl
    rw [List.getElem?_map] at h1
    cases hi : ps[j]? with
    | none => rw [hi] at h1; cases h1
    | some i => rw [hi] at h1; exact ⟨i, rfl, Option.some.inj h1⟩
  · intro i hi
    have h1 : (wc.map some)[j]? = some (ws[i]?) := by rw [← hps, List.getElem?_map, hi]; rfl
    rw [List.getElem?_map] at h1
    cases hq : wc[j]? with
    | none => rw [hq] at h1; cases h1
    | some q => rw [hq] at h1; exact ⟨q, rfl, (Option.some.inj h1).symm⟩
theorem bx_put_ok {D : va_G} {cl : List vw_C} {A : Nat → Prop} {ws wc w1 : va_W} {H H1 : Heap} {ps : List Nat} (hP : va_P D cl ws H) (hD : va_D A ws) (hps : ps.map (fun i => ws[i]?) = wc.map some) (hadr : w1.map (fun q => q.1) = wc.map (fun q => q.1)) (hk : ∀ q : Nat, q < H.size → ¬ va_A wc H.size q → H1[q]? = H[q]?) (hP1 : va_P D cl w1 H1) : va_P D cl (bx_put ws ps w1) H1 ∧ va_D A (bx_put ws ps w1) := by
  have hlen : ps.length = w1.length := by
    have h1 := congrArg List.length hps
    have h2 := congrArg List.length hadr
    simp at h1 h2
    omega
  have hsame : ∀ (j : Nat) (q qc : Nat × va_E), w1[j]? = some q → wc[j]? = some qc → q.1 = qc.1 := by
    intro j q qc h1 h2
    have h3 : (w1.map (fun q => q.1))[j]? = some q.1 := by rw [List.getElem?_map, h1]; rfl
    rw [hadr, List.getElem?_map, h2] at h3
    exact (Option.some.inj h3).symm
  have key : ∀ (k : Nat) (q : Nat × va_E), (bx_put ws ps w1)[k]? = some q → ∃ q0, ws[k]? = some q0 ∧ q0.1 = q.1 := by
    intro k q h
    rcases bx_put_at ps w1 ws k q hlen h with ⟨j, h1, h2⟩ | ⟨h1, h2⟩
    · obtain ⟨qc, h3, h4⟩ := (bx_ats hps (j := j)).2 h1
      exact ⟨qc, h4, (hsame j q qc h2 h3).symm⟩
    · exact ⟨q, h2, rfl⟩
  refine ⟨fun k q h => ?_, fun i j x y hi hj hxy => ?_, fun k q h => ?_⟩
  · rcases bx_put_at ps w1 ws k q hlen h with ⟨j, h1, h2⟩ | ⟨h1, h2⟩
    · exact hP1 j q h2
    · refine (hP k q h2).kept (hk q.1 ((hP k q h2).lt) (fun hA => ?_))
      rcases hA with ⟨j, e, hj⟩ | hA
      · obtain ⟨i, h3, h4⟩ := (bx_ats hps (j := j)).1 hj
        have h5 := hD.1 i k (q.1, e) q h4 h2 rfl
        subst h5
        exact h1 (List.mem_of_getElem? h3)
      · exact absurd ((hP k q h2).lt) (Nat.not_lt.mpr hA)
  · obtain ⟨x0, h1, h2⟩ := key i x hi
    obtain ⟨y0, h3, h4⟩ := key j y hj
    exact hD.1 i j x0 y0 h1 h3 (h2.trans (hxy.trans h4.symm))
  · obtain ⟨q0, h1, h2⟩ := key k q h
    rw [← h2]
    exact hD.2 k q0 h1
/-- what a method's start holds -/
def bx_U (E : bx_E) (sz : Nat) (ws : va_W) (U : State) : Prop := U.heap.size = sz ∧ va_P E.1 vwCl ws U.heap ∧ va_K E.1 vwCl (bx_tys E) U ∧ va_D (fun _ => True) ws ∧ (∀ q ∈ bx_nest, va_Nw (bx_nw q) U) ∧ bx_str E (va_A ws sz) U U.heap
def bx_B (E : bx_E) (A : Nat → Prop) (ws : va_W) (t : State) : Prop := va_P E.1 vwCl ws t.heap ∧ va_D A ws
abbrev bx_ws (y : MethodName) (cd : ByteArray) (nL : Nat) (ty : Option FieldType) : List Cond := Cond.code y cd nL ty :: wsAll
theorem bx_good {y y2 : MethodName} {cd cd2 : ByteArray} {nL nL2 : Nat} {ty ty2 : Option FieldType} (h : Cond.code y2 cd2 nL2 ty2 ∈ wsAll) : GoodIn wsAll (bx_ws y2 cd2 nL2 ty2) := by
  intro w hw
  rcases List.mem_cons.mp hw with rfl | h1
  · exact ⟨h, good_of_word (wsAll_good h)⟩
  · exact ⟨h1, good_of_word (wsAll_good h1)⟩
/-- a method's contract: over the world wf u0 with the values av it comes to an answer and a world as K says -/
def bx_Mi (l : Launch) (E : bx_E) (y : MethodName) (cd : ByteArray) (nL : Nat) (ty : Option FieldType) (rm : Room) (av : List Value) {σ : Type} (wf : σ → va_W) (u0 : σ) (K : Int32 → σ → Prop) : Prop := ∀ sz : Nat, Met l y (bx_ws y cd nL ty) rm (va_Pc av (bx_U E sz (wf u0))) (va_Qi K (fun u t => bx_B E (va_A (wf u0) sz) (wf u) t) (va_A (wf u0) sz)) 0 0 (va_A (wf u0) sz)
def bx_Ml (l : Launch) (E : bx_E) (y : MethodName) (cd : ByteArray) (nL : Nat) (ty : Option FieldType) (rm : Room) (av : List Value) {σ : Type} (wf : σ → va_W) (u0 : σ) (K : Int64 → σ → Prop) : Prop := ∀ sz : Nat, Met l y (bx_ws y cd nL ty) rm (va_Pc av (bx_U E sz (wf u0))) (va_Ql K (fun u t => bx_B E (va_A (wf u0) sz) (wf u) t) (va_A (wf u0) sz)) 0 0 (va_A (wf u0) sz)
def bx_Mv (l : Launch) (E : bx_E) (y : MethodName) (cd : ByteArray) (nL : Nat) (ty : Option FieldType) (rm : Room) (av : List Value) {σ : Type} (wf : σ → va_W) (u0 : σ) (K : σ → Prop) : Prop := ∀ sz : Nat, Met l y (bx_ws y cd nL ty) rm (va_Pc av (bx_U E sz (wf u0))) (va_Qv K (fun u t => bx_B E (va_A (wf u0) sz) (wf u) t) (va_A (wf u0) sz)) 0 0 (va_A (wf u0) sz)
theorem bx_blind {E : bx_E} {sz : Nat} {ws : va_W} {av : List Value} : FrameBlind (va_Pc av (bx_U E sz ws)) := by
  intro a U g mk q
  obtain ⟨q0, q1, qP, qK, qD, qN, qS⟩ := q
  exact ⟨q0, q1, qP, va_K.moved (u := U) (U := U.calling g mk a) (Vm.Alike.refl U.vm) qK, qD, fun q hq => va_Nw.same rfl (rfl : U.vm = (U.calling g mk a).vm) (qN q hq), bx_str_call qS⟩

theorem mm_init : Cond.initialized "java/lang/Math" ∈ wsAll := wsAll_mem (by decide +kernel) (by decide +kernel)
theorem mm_max : Cond.static Lib.Math.max.name ∈ wsAll ∧ Cond.code Lib.Math.max.name Lib.Math.max.code 2 (some .int) ∈ wsAll := ⟨wsAll_mem (by decide +kernel) (by decide +kernel), wsAll_mem (by decide +kernel) (by decide +kernel)⟩
theorem mm_min : Cond.static Lib.Math.min.name ∈ wsAll ∧ Cond.code Lib.Math.min.name Lib.Math.min.code 2 (some .int) ∈ wsAll := ⟨wsAll_mem (by decide +kernel) (by decide +kernel), wsAll_mem (by decide +kernel) (by decide +kernel)⟩
theorem mm_abs : Cond.static Lib.Math.abs.name ∈ wsAll ∧ Cond.code Lib.Math.abs.name Lib.Math.abs.code 1 (some .int) ∈ wsAll := ⟨wsAll_mem (by decide +kernel) (by decide +kernel), wsAll_mem (by decide +kernel) (by decide +kernel)⟩
/-- a callee: its code, its class stands, its name's class, how many values it takes -/
abbrev bx_FB (y : MethodName) (cd : ByteArray) (nc : Nat) (tyc : Option FieldType) (ar : Nat) : Prop := Cond.code y cd nc tyc ∈ wsAll ∧ Cond.initialized y.cls ∈ wsAll ∧ y.cls ≠ "java/lang/invoke/MethodHandle" ∧ y.cls ≠ "java/lang/invoke/VarHandle" ∧ (parseMethodDescriptor y.desc).map (fun d => d.parameters.length) = some ar
abbrev bx_FL (own : String) (i : Nat) (y : MethodName) (cd : ByteArray) (nc : Nat) (tyc : Option FieldType) (ar : Nat) : Prop := bx_FB y cd nc tyc ar ∧ Cond.methodLink own i y ∈ wsAll
abbrev bx_FV (own : String) (i : Nat) (K2 : String) (y : MethodName) (cd : ByteArray) (nc : Nat) (tyc : Option FieldType) (ar : Nat) : Prop := bx_FL own i y cd nc tyc ar ∧ Cond.instanceMethod y ∈ wsAll ∧ Cond.selects K2 y y ∈ wsAll
abbrev bx_FS (own : String) (i : Nat) (y : MethodName) (cd : ByteArray) (nc : Nat) (tyc : Option FieldType) (ar : Nat) : Prop := bx_FL own i y cd nc tyc ar ∧ Cond.static y ∈ wsAll
abbrev bx_FN (own : String) (i : Nat) (y : MethodName) (cd : ByteArray) (nc : Nat) (tyc : Option FieldType) (ar : Nat) : Prop := bx_FB y cd nc tyc ar ∧ (own, i, y, "UsherRows") ∈ bx_nest ∧ Cond.static y ∈ wsAll
section BX
variable {p : Program} {l : Launch} {e : Env} {R : Room} {s : State} {m : MethodId} {args : Array Value} {below : List Frame} {meth : Method} {c : Code} {nL : Nat} {E : bx_E} {A : Nat → Prop} {Q : State → Prop} {ce sl : Nat} {b : ByteArray} {own : String} {ty : Option FieldType}
variable {pc : Nat} {lv : List (Nat × Value)} {rest : List Value} {ws : va_W}
theorem bx_pre {ps : List Nat} {wc : va_W} {H : Heap} {As : List Value} {sz : Nat} (C : bx_C p R s m args meth c b nL own ty E A ce sl) {locs : List Loc} (hP : va_P E.1 vwCl ws H) (hD : va_D A ws) (hS : va_S A s.heap H locs) (hF : ∀ q, va_A wc H.size q → A q) (hps : ps.map (fun i => ws[i]?) = wc.map some) (hnd : va_nd ps = true) (hsz : H.size = sz) : PreS s H (va_Pc As (bx_U E sz wc)) As := by
  obtain ⟨hx, hb, hml, hown, hts, hK, hN, hr, hlk, hA, hce, hst⟩ := C
  subst hsz
  refine ⟨bx_blind, fun U hU hW => ⟨rfl, by rw [hU], by rw [hU]; exact hP.sub ps (bx_fm hps), va_K.moved hW.alike hK, (hD.sub ps hnd hps).weaken (fun _ _ _ _ => trivial), fun q hq => va_Nw.warmM hW (hN q hq), bx_str_go hst hS hU hW hF⟩⟩

theorem bx_iconst (C : bx_C p R s m args meth c b nL own ty E A ce sl) {z : Int} (v : Int32) (n : Nat) (d : decode b pc = .ok (.iconst z, 1)) (hv : Int32.ofInt z = v) (hn : pc + 1 = n) (k : bx_S p l e R s m args below meth c nL E A Q ce sl n lv (.int v :: rest) ws) : bx_S p l e R s m args below meth c nL E A Q ce sl pc lv (rest) ws := by
  subst hn
  exact fun H locs ls hP hD hS hl => lv_iconst C.1 C.2.1 d hv (k H locs ls hP hD hS hl)
theorem bx_bipush (C : bx_C p R s m args meth c b nL own ty E A ce sl) {z : Int} (v : Int32) (n : Nat) (d : decode b pc = .ok (.bipush z, 2)) (hv : (Int8.ofInt z).toInt32 = v) (hn : pc + 2 = n) (k : bx_S p l e R s m args below meth c nL E A Q ce sl n lv (.int v :: rest) ws) : bx_S p l e R s m args below meth c nL E A Q ce sl pc lv (rest) ws := by
  subst hn
  exact fun H locs ls hP hD hS hl => lv_bipush C.1 C.2.1 d hv (k H locs ls hP hD hS hl)
theorem bx_sipush (C : bx_C p R s m args meth c b nL own ty E A ce sl) {z : Int} (v : Int32) (n : Nat) (d : decode b pc = .ok (.sipush z, 3)) (hv : (Int16.ofInt z).toInt32 = v) (hn : pc + 3 = n) (k : bx_S p l e R s m args below meth c nL E A Q ce sl n lv (.int v :: rest) ws) : bx_S p l e R s m args below meth c nL E A Q ce sl pc lv (rest) ws := by
  subst hn
  exact fun H locs ls hP hD hS hl => lv_sipush C.1 C.2.1 d hv (k H locs ls hP hD hS hl)
theorem bx_lconst (C : bx_C p R s m args meth c b nL own ty E A ce sl) {z : Fin 2} (v : Int64) (n : Nat) (d : decode b pc = .ok (.lconst z, 1)) (hv : Int64.ofNat (z : Nat) = v) (hn : pc + 1 = n) (k : bx_S p l e R s m args below meth c nL E A Q ce sl n lv (.long v :: rest) ws) : bx_S p l e R s m args below meth c nL E A Q ce sl pc lv (rest) ws := by
  subst hn
  exact fun H locs ls hP hD hS hl => lv_lconst C.1 C.2.1 d hv (k H locs ls hP hD hS hl)
theorem bx_iload_n (C : bx_C p R s m args meth c b nL own ty E A ce sl) {z : Fin 4} {i : Nat} {x : Int32} (n : Nat) (d : decode b pc = .ok (.iload_n z, 1)) (hi : (z : Nat) = i) (hg : bx_get lv i = some (.int x)) (hn : pc + 1 = n) (k : bx_S p l e R s m args below meth c nL E A Q ce sl n lv (.int x :: rest) ws) : bx_S p l e R s m args below meth c nL E A Q ce sl pc lv (rest) ws := by
  subst hn
  exact fun H locs ls hP hD hS hl => lv_iload_n C.1 C.2.1 d hi (bx_at hl hg) (k H locs ls hP hD hS hl)
theorem bx_iload (C : bx_C p R s m args meth c b nL own ty E A ce sl) {i : Nat} {x : Int32} (n : Nat) (d : decode b pc = .ok (.iload i, 2)) (hg : bx_get lv i = some (.int x)) (hn : pc + 2 = n) (k : bx_S p l e R s m args below meth c nL E A Q ce sl n lv (.int x :: rest) ws) : bx_S p l e R s m args below meth c nL E A Q ce sl pc lv (rest) ws := by
  subst hn
  exact fun H locs ls hP hD hS hl => lv_iload C.1 C.2.1 d (bx_at hl hg) (k H locs ls hP hD hS hl)
theorem bx_lload_n (C : bx_C p R s m args meth c b nL own ty E A ce sl) {z : Fin 4} {i : Nat} {x : Int64} (n : Nat) (d : decode b pc = .ok (.lload_n z, 1)) (hi : (z : Nat) = i) (hg : bx_get lv i = some (.long x)) (hn : pc + 1 = n) (k : bx_S p l e R s m args below meth c nL E A Q ce sl n lv (.long x :: rest) ws) : bx_S p l e R s m args below meth c nL E A Q ce sl pc lv (rest) ws := by
  subst hn
  exact fun H locs ls hP hD hS hl => lv_lload_n C.1 C.2.1 d hi (bx_at hl hg) (k H locs ls hP hD hS hl)
theorem bx_lload (C : bx_C p R s m args meth c b nL own ty E A ce sl) {i : Nat} {x : Int64} (n : Nat) (d : decode b pc = .ok (.lload i, 2)) (hg : bx_get lv i = some (.long x)) (hn : pc + 2 = n) (k : bx_S p l e R s m args below meth c nL E A Q ce sl n lv (.long x :: rest) ws) : bx_S p l e R s m args below meth c nL E A Q ce sl pc lv (rest) ws := by
  subst hn
  exact fun H locs ls hP hD hS hl => lv_lload C.1 C.2.1 d (bx_at hl hg) (k H locs ls hP hD hS hl)
theorem bx_aload_n (C : bx_C p R s m args meth c b nL own ty E A ce sl) {z : Fin 4} {i : Nat} {x : Nat} (n : Nat) (d : decode b pc = .ok (.aload_n z, 1)) (hi : (z : Nat) = i) (hg : bx_get lv i = some (.ref x)) (hn : pc + 1 = n) (k : bx_S p l e R s m args below meth c nL E A Q ce sl n lv (.ref x :: rest) ws) : bx_S p l e R s m args below meth c nL E A Q ce sl pc lv (rest) ws := by
  subst hn
  exact fun H locs ls hP hD hS hl => lv_aload_n C.1 C.2.1 d hi (bx_at hl hg) (k H locs ls hP hD hS hl)
theorem bx_aload (C : bx_C p R s m args meth c b nL own ty E A ce sl) {i : Nat} {x : Nat} (n : Nat) (d : decode b pc = .ok (.aload i, 2)) (hg : bx_get lv i = some (.ref x)) (hn : pc + 2 = n) (k : bx_S p l e R s m args below meth c nL E A Q ce sl n lv (.ref x :: rest) ws) : bx_S p l e R s m args below meth c nL E A Q ce sl pc lv (rest) ws := by
  subst hn
  exact fun H locs ls hP hD hS hl => lv_aload C.1 C.2.1 d (bx_at hl hg) (k H locs ls hP hD hS hl)
theorem bx_istore_n (C : bx_C p R s m args meth c b nL own ty E A ce sl) {z : Fin 4} {i : Nat} {x : Int32} (n : Nat) (d : decode b pc = .ok (.istore_n z, 1)) (hi : (z : Nat) = i) (hi2 : i < nL) (hn : pc + 1 = n) (k : bx_S p l e R s m args below meth c nL E A Q ce sl n ((i, Value.int x) :: lv.filter (fun q => !(q.1 == i) && !(q.1 + 1 == i && q.2.category == 2))) rest ws) : bx_S p l e R s m args below meth c nL E A Q ce sl pc lv (.int x :: rest) ws := by
  subst hn
  exact fun H locs ls hP hD hS hl => lv_istore_n C.1 C.2.1 d hi hl hi2 rfl (fun ls hl => k H locs ls hP hD hS hl)
theorem bx_istore (C : bx_C p R s m args meth c b nL own ty E A ce sl) {i : Nat} {x : Int32} (n : Nat) (d : decode b pc = .ok (.istore i, 2)) (hi2 : i < nL) (hn : pc + 2 = n) (k : bx_S p l e R s m args below meth c nL E A Q ce sl n ((i, Value.int x) :: lv.filter (fun q => !(q.1 == i) && !(q.1 + 1 == i && q.2.category == 2))) rest ws) : bx_S p l e R s m args below meth c nL E A Q ce sl pc lv (.int x :: rest) ws := by
  subst hn
  exact fun H locs ls hP hD hS hl => lv_istore C.1 C.2.1 d hl hi2 rfl (fun ls hl => k H locs ls hP hD hS hl)
theorem bx_lstore_n (C : bx_C p R s m args meth c b nL own ty E A ce sl) {z : Fin 4} {i : Nat} {x : Int64} (n : Nat) (d : decode b pc = .ok (.lstore_n z, 1)) (hi : (z : Nat) = i) (hi2 : i + 1 < nL) (hn : pc + 1 = n) (k : bx_S p l e R s m args below meth c nL E A Q ce sl n ((i, Value.long x) :: lv.filter (fun q => !(q.1 == i) && (!(q.1 == i + 1) && !(q.1 + 1 == i && q.2.category == 2)))) rest ws) : bx_S p l e R s m args below meth c nL E A Q ce sl pc lv (.long x :: rest) ws := by
  subst hn
  exact fun H locs ls hP hD hS hl => lv_lstore_n C.1 C.2.1 d hi hl hi2 rfl (fun ls hl => k H locs ls hP hD hS hl)
theorem bx_lstore (C : bx_C p R s m args meth c b nL own ty E A ce sl) {i : Nat} {x : Int64} (n : Nat) (d : decode b pc = .ok (.lstore i, 2)) (hi2 : i + 1 < nL) (hn : pc + 2 = n) (k : bx_S p l e R s m args below meth c nL E A Q ce sl n ((i, Value.long x) :: lv.filter (fun q => !(q.1 == i) && (!(q.1 == i + 1) && !(q.1 + 1 == i && q.2.category == 2)))) rest ws) : bx_S p l e R s m args below meth c nL E A Q ce sl pc lv (.long x :: rest) ws := by
  subst hn
  exact fun H locs ls hP hD hS hl => lv_lstore C.1 C.2.1 d hl hi2 rfl (fun ls hl => k H locs ls hP hD hS hl)
theorem bx_astore_n (C : bx_C p R s m args meth c b nL own ty E A ce sl) {z : Fin 4} {i : Nat} {x : Nat} (n : Nat) (d : decode b pc = .ok (.astore_n z, 1)) (hi : (z : Nat) = i) (hi2 : i < nL) (hn : pc + 1 = n) (k : bx_S p l e R s m args below meth c nL E A Q ce sl n ((i, Value.ref x) :: lv.filter (fun q => !(q.1 == i) && !(q.1 + 1 == i && q.2.category == 2))) rest ws) : bx_S p l e R s m args below meth c nL E A Q ce sl pc lv (.ref x :: rest) ws := by
  subst hn
  exact fun H locs ls hP hD hS hl => lv_astore_n C.1 C.2.1 d hi hl hi2 rfl (fun ls hl => k H locs ls hP hD hS hl)
theorem bx_astore (C : bx_C p R s m args meth c b nL own ty E A ce sl) {i : Nat} {x : Nat} (n : Nat) (d : decode b pc = .ok (.astore i, 2)) (hi2 : i < nL) (hn : pc + 2 = n) (k : bx_S p l e R s m args below meth c nL E A Q ce sl n ((i, Value.ref x) :: lv.filter (fun q => !(q.1 == i) && !(q.1 + 1 == i && q.2.category == 2))) rest ws) : bx_S p l e R s m args below meth c nL E A Q ce sl pc lv (.ref x :: rest) ws := by
  subst hn
  exact fun H locs ls hP hD hS hl => lv_astore C.1 C.2.1 d hl hi2 rfl (fun ls hl => k H locs ls hP hD hS hl)
theorem bx_iinc (C : bx_C p R s m args meth c b nL own ty E A ce sl) {i : Nat} {z : Int} {x : Int32} (y : Int32) (n : Nat) (d : decode b pc = .ok (.iinc i z, 3)) (hg : bx_get lv i = some (.int x)) (hi2 : i < nL) (hv : Int32.ofInt z = y) (hn : pc + 3 = n) (k : bx_S p l e R s m args below meth c nL E A Q ce sl n ((i, Value.int (x + y)) :: lv.filter (fun q => !(q.1 == i) && !(q.1 + 1 == i && q.2.category == 2))) rest ws) : bx_S p l e R s m args below meth c nL E A Q ce sl pc lv rest ws := by
  subst hn
  intro H locs ls hP hD hS hl
  obtain ⟨k2, hk2⟩ := bx_pl hl hg
  exact lv_iinc C.1 C.2.1 d hl hk2 (by rw [hv]) hi2 rfl (fun ls hl => k H locs ls hP hD hS hl)
theorem bx_iadd (C : bx_C p R s m args meth c b nL own ty E A ce sl) {x y : Int32} (n : Nat) (d : decode b pc = .ok (.iadd, 1)) (hn : pc + 1 = n) (k : bx_S p l e R s m args below meth c nL E A Q ce sl n lv (.int (x + y) :: rest) ws) : bx_S p l e R s m args below meth c nL E A Q ce sl pc lv (.int y :: .int x :: rest) ws := by
  subst hn
  exact fun H locs ls hP hD hS hl => lv_iadd C.1 C.2.1 d (k H locs ls hP hD hS hl)
theorem bx_isub (C : bx_C p R s m args meth c b nL own ty E A ce sl) {x y : Int32} (n : Nat) (d : decode b pc = .ok (.isub, 1)) (hn : pc + 1 = n) (k : bx_S p l e R s m args below meth c nL E A Q ce sl n lv (.int (x - y) :: rest) ws) : bx_S p l e R s m args below meth c nL E A Q ce sl pc lv (.int y :: .int x :: rest) ws := by
  subst hn
  exact fun H locs ls hP hD hS hl => lv_isub C.1 C.2.1 d (k H locs ls hP hD hS hl)
theorem bx_imul (C : bx_C p R s m args meth c b nL own ty E A ce sl) {x y : Int32} (n : Nat) (d : decode b pc = .ok (.imul, 1)) (hn : pc + 1 = n) (k : bx_S p l e R s m args below meth c nL E A Q ce sl n lv (.int (x * y) :: rest) ws) : bx_S p l e R s m args below meth c nL E A Q ce sl pc lv (.int y :: .int x :: rest) ws := by
  subst hn
  exact fun H locs ls hP hD hS hl => lv_imul C.1 C.2.1 d (k H locs ls hP hD hS hl)
theorem bx_iand (C : bx_C p R s m args meth c b nL own ty E A ce sl) {x y : Int32} (n : Nat) (d : decode b pc = .ok (.iand, 1)) (hn : pc + 1 = n) (k : bx_S p l e R s m args below meth c nL E A Q ce sl n lv (.int (x &&& y) :: rest) ws) : bx_S p l e R s m args below meth c nL E A Q ce sl pc lv (.int y :: .int x :: rest) ws := by
  subst hn
  exact fun H locs ls hP hD hS hl => lv_iand C.1 C.2.1 d (k H locs ls hP hD hS hl)
theorem bx_ior (C : bx_C p R s m args meth c b nL own ty E A ce sl) {x y : Int32} (n : Nat) (d : decode b pc = .ok (.ior, 1)) (hn : pc + 1 = n) (k : bx_S p l e R s m args below meth c nL E A Q ce sl n lv (.int (x ||| y) :: rest) ws) : bx_S p l e R s m args below meth c nL E A Q ce sl pc lv (.int y :: .int x :: rest) ws := by
  subst hn
  exact fun H locs ls hP hD hS hl => lv_ior C.1 C.2.1 d (k H locs ls hP hD hS hl)
theorem bx_ixor (C : bx_C p R s m args meth c b nL own ty E A ce sl) {x y : Int32} (n : Nat) (d : decode b pc = .ok (.ixor, 1)) (hn : pc + 1 = n) (k : bx_S p l e R s m args below meth c nL E A Q ce sl n lv (.int (x ^^^ y) :: rest) ws) : bx_S p l e R s m args below meth c nL E A Q ce sl pc lv (.int y :: .int x :: rest) ws := by
  subst hn
  exact fun H locs ls hP hD hS hl => lv_ixor C.1 C.2.1 d (k H locs ls hP hD hS hl)
theorem bx_idiv (C : bx_C p R s m args meth c b nL own ty E A ce sl) {x y : Int32} (n : Nat) (d : decode b pc = .ok (.idiv, 1)) (hz : ¬ y = 0) (hn : pc + 1 = n) (k : bx_S p l e R s m args below meth c nL E A Q ce sl n lv (.int (x / y) :: rest) ws) : bx_S p l e R s m args below meth c nL E A Q ce sl pc lv (.int y :: .int x :: rest) ws := by
  subst hn
  exact fun H locs ls hP hD hS hl => lv_idiv C.1 C.2.1 d hz (k H locs ls hP hD hS hl)
theorem bx_irem (C : bx_C p R s m args meth c b nL own ty E A ce sl) {x y : Int32} (n : Nat) (d : decode b pc = .ok (.irem, 1)) (hz : ¬ y = 0) (hn : pc + 1 = n) (k : bx_S p l e R s m args below meth c nL E A Q ce sl n lv (.int (x - x / y * y) :: rest) ws) : bx_S p l e R s m args below meth c nL E A Q ce sl pc lv (.int y :: .int x :: rest) ws := by
  subst hn
  exact fun H locs ls hP hD hS hl => lv_irem C.1 C.2.1 d hz (k H locs ls hP hD hS hl)
theorem bx_ladd (C : bx_C p R s m args meth c b nL own ty E A ce sl) {x y : Int64} (n : Nat) (d : decode b pc = .ok (.ladd, 1)) (hn : pc + 1 = n) (k : bx_S p l e R s m args below meth c nL E A Q ce sl n lv (.long (x + y) :: rest) ws) : bx_S p l e R s m args below meth c nL E A Q ce sl pc lv (.long y :: .long x :: rest) ws := by
  subst hn
  exact fun H locs ls hP hD hS hl => lv_ladd C.1 C.2.1 d (k H locs ls hP hD hS hl)
theorem bx_lsub (C : bx_C p R s m args meth c b nL own ty E A ce sl) {x y : Int64} (n : Nat) (d : decode b pc = .ok (.lsub, 1)) (hn : pc + 1 = n) (k : bx_S p l e R s m args below meth c nL E A Q ce sl n lv (.long (x - y) :: rest) ws) : bx_S p l e R s m args below meth c nL E A Q ce sl pc lv (.long y :: .long x :: rest) ws := by
  subst hn
  exact fun H locs ls hP hD hS hl => lv_lsub C.1 C.2.1 d (k H locs ls hP hD hS hl)
theorem bx_lmul (C : bx_C p R s m args meth c b nL own ty E A ce sl) {x y : Int64} (n : Nat) (d : decode b pc = .ok (.lmul, 1)) (hn : pc + 1 = n) (k : bx_S p l e R s m args below meth c nL E A Q ce sl n lv (.long (x * y) :: rest) ws) : bx_S p l e R s m args below meth c nL E A Q ce sl pc lv (.long y :: .long x :: rest) ws := by
  subst hn
  exact fun H locs ls hP hD hS hl => lv_lmul C.1 C.2.1 d (k H locs ls hP hD hS hl)
theorem bx_ldiv (C : bx_C p R s m args meth c b nL own ty E A ce sl) {x y : Int64} (n : Nat) (d : decode b pc = .ok (.ldiv, 1)) (hz : ¬ y = 0) (hn : pc + 1 = n) (k : bx_S p l e R s m args below meth c nL E A Q ce sl n lv (.long (x / y) :: rest) ws) : bx_S p l e R s m args below meth c nL E A Q ce sl pc lv (.long y :: .long x :: rest) ws := by
  subst hn
  exact fun H locs ls hP hD hS hl => lv_ldiv C.1 C.2.1 d hz (k H locs ls hP hD hS hl)
theorem bx_lrem (C : bx_C p R s m args meth c b nL own ty E A ce sl) {x y : Int64} (n : Nat) (d : decode b pc = .ok (.lrem, 1)) (hz : ¬ y = 0) (hn : pc + 1 = n) (k : bx_S p l e R s m args below meth c nL E A Q ce sl n lv (.long (x - x / y * y) :: rest) ws) : bx_S p l e R s m args below meth c nL E A Q ce sl pc lv (.long y :: .long x :: rest) ws := by
  subst hn
  exact fun H locs ls hP hD hS hl => lv_lrem C.1 C.2.1 d hz (k H locs ls hP hD hS hl)
theorem bx_lcmp (C : bx_C p R s m args meth c b nL own ty E A ce sl) {x y : Int64} (n : Nat) (d : decode b pc = .ok (.lcmp, 1)) (hn : pc + 1 = n) (k : bx_S p l e R s m args below meth c nL E A Q ce sl n lv (.int (lg_cmp x y) :: rest) ws) : bx_S p l e R s m args below meth c nL E A Q ce sl pc lv (.long y :: .long x :: rest) ws := by
  subst hn
  exact fun H locs ls hP hD hS hl => W.lcmp C.1 C.2.1 d (k H locs ls hP hD hS hl)
theorem bx_ineg (C : bx_C p R s m args meth c b nL own ty E A ce sl) {x : Int32} (n : Nat) (d : decode b pc = .ok (.ineg, 1)) (hn : pc + 1 = n) (k : bx_S p l e R s m args below meth c nL E A Q ce sl n lv (.int (-x) :: rest) ws) : bx_S p l e R s m args below meth c nL E A Q ce sl pc lv (.int x :: rest) ws := by
  subst hn
  exact fun H locs ls hP hD hS hl => lv_ineg C.1 C.2.1 d (k H locs ls hP hD hS hl)
theorem bx_ishl (C : bx_C p R s m args meth c b nL own ty E A ce sl) {x y : Int32} (n : Nat) (d : decode b pc = .ok (.ishl, 1)) (hn : pc + 1 = n) (k : bx_S p l e R s m args below meth c nL E A Q ce sl n lv (.int (x <<< (y &&& 31)) :: rest) ws) : bx_S p l e R s m args below meth c nL E A Q ce sl pc lv (.int y :: .int x :: rest) ws := by
  subst hn
  exact fun H locs ls hP hD hS hl => lv_ishl C.1 C.2.1 d (k H locs ls hP hD hS hl)
theorem bx_ishr (C : bx_C p R s m args meth c b nL own ty E A ce sl) {x y : Int32} (n : Nat) (d : decode b pc = .ok (.ishr, 1)) (hn : pc + 1 = n) (k : bx_S p l e R s m args below meth c nL E A Q ce sl n lv (.int (x >>> (y &&& 31)) :: rest) ws) : bx_S p l e R s m args below meth c nL E A Q ce sl pc lv (.int y :: .int x :: rest) ws := by
  subst hn
  exact fun H locs ls hP hD hS hl => lv_ishr C.1 C.2.1 d (k H locs ls hP hD hS hl)
theorem bx_iushr (C : bx_C p R s m args meth c b nL own ty E A ce sl) {x y : Int32} (n : Nat) (d : decode b pc = .ok (.iushr, 1)) (hn : pc + 1 = n) (k : bx_S p l e R s m args below meth c nL E A Q ce sl n lv (.int ((x.toUInt32 >>> (y.toUInt32 &&& Int32.toUInt32 31)).toInt32) :: rest) ws) : bx_S p l e R s m args below meth c nL E A Q ce sl pc lv (.int y :: .int x :: rest) ws := by
  subst hn
  exact fun H locs ls hP hD hS hl => lv_iushr C.1 C.2.1 d rfl (k H locs ls hP hD hS hl)
theorem bx_i2l (C : bx_C p R s m args meth c b nL own ty E A ce sl) {x : Int32} (n : Nat) (d : decode b pc = .ok (.i2l, 1)) (hn : pc + 1 = n) (k : bx_S p l e R s m args below meth c nL E A Q ce sl n lv (.long x.toInt64 :: rest) ws) : bx_S p l e R s m args below meth c nL E A Q ce sl pc lv (.int x :: rest) ws := by
  subst hn
  exact fun H locs ls hP hD hS hl => lv_i2l C.1 C.2.1 d rfl (k H locs ls hP hD hS hl)
theorem bx_l2i (C : bx_C p R s m args meth c b nL own ty E A ce sl) {x : Int64} (n : Nat) (d : decode b pc = .ok (.l2i, 1)) (hn : pc + 1 = n) (k : bx_S p l e R s m args below meth c nL E A Q ce sl n lv (.int x.toInt32 :: rest) ws) : bx_S p l e R s m args below meth c nL E A Q ce sl pc lv (.long x :: rest) ws := by
  subst hn
  exact fun H locs ls hP hD hS hl => lv_l2i C.1 C.2.1 d rfl (k H locs ls hP hD hS hl)
theorem bx_i2b (C : bx_C p R s m args meth c b nL own ty E A ce sl) {x : Int32} (n : Nat) (d : decode b pc = .ok (.i2b, 1)) (hn : pc + 1 = n) (k : bx_S p l e R s m args below meth c nL E A Q ce sl n lv (.int x.toInt8.toInt32 :: rest) ws) : bx_S p l e R s m args below meth c nL E A Q ce sl pc lv (.int x :: rest) ws := by
  subst hn
  exact fun H locs ls hP hD hS hl => lv_i2b C.1 C.2.1 d rfl (k H locs ls hP hD hS hl)
theorem bx_dup (C : bx_C p R s m args meth c b nL own ty E A ce sl) {v : Value} (n : Nat) (d : decode b pc = .ok (.dup, 1)) (hc : v.category = 1) (hn : pc + 1 = n) (k : bx_S p l e R s m args below meth c nL E A Q ce sl n lv (v :: v :: rest) ws) : bx_S p l e R s m args below meth c nL E A Q ce sl pc lv (v :: rest) ws := by
  subst hn
  exact fun H locs ls hP hD hS hl => lv_dup C.1 C.2.1 d hc (k H locs ls hP hD hS hl)
theorem bx_pop (C : bx_C p R s m args meth c b nL own ty E A ce sl) {va : Value} (n : Nat) (d : decode b pc = .ok (.pop, 1)) (hva : va.category = 1) (hn : pc + 1 = n) (k : bx_S p l e R s m args below meth c nL E A Q ce sl n lv (rest) ws) : bx_S p l e R s m args below meth c nL E A Q ce sl pc lv (va :: rest) ws := by
  subst hn
  exact fun H locs ls hP hD hS hl => lv_pop C.1 C.2.1 d hva (k H locs ls hP hD hS hl)
theorem bx_dup2_11 (C : bx_C p R s m args meth c b nL own ty E A ce sl) {va vb : Value} (n : Nat) (d : decode b pc = .ok (.dup2, 1)) (hva : va.category = 1) (hvb : vb.category = 1) (hn : pc + 1 = n) (k : bx_S p l e R s m args below meth c nL E A Q ce sl n lv (va :: vb :: va :: vb :: rest) ws) : bx_S p l e R s m args below meth c nL E A Q ce sl pc lv (va :: vb :: rest) ws := by
  subst hn
  exact fun H locs ls hP hD hS hl => lv_dup2_11 C.1 C.2.1 d hva hvb (k H locs ls hP hD hS hl)
theorem bx_dup_x1 (C : bx_C p R s m args meth c b nL own ty E A ce sl) {va vb : Value} (n : Nat) (d : decode b pc = .ok (.dup_x1, 1)) (hva : va.category = 1) (hvb : vb.category = 1) (hn : pc + 1 = n) (k : bx_S p l e R s m args below meth c nL E A Q ce sl n lv (va :: vb :: va :: rest) ws) : bx_S p l e R s m args below meth c nL E A Q ce sl pc lv (va :: vb :: rest) ws := by
  subst hn
  exact fun H locs ls hP hD hS hl => lv_dup_x1 C.1 C.2.1 d hva hvb (k H locs ls hP hD hS hl)
theorem bx_if_eq (C : bx_C p R s m args meth c b nL own ty E A ce sl) {x : Int32} {off : Int} (tgt n : Nat) (d : decode b pc = .ok (.ifCond .eq off, 3)) (ht : (pc : Int) + off = (tgt : Int)) (hn : pc + 3 = n) (kt : x = 0 → bx_S p l e R s m args below meth c nL E A Q ce sl tgt lv rest ws) (kf : ¬ x = 0 → bx_S p l e R s m args below meth c nL E A Q ce sl n lv rest ws) : bx_S p l e R s m args below meth c nL E A Q ce sl pc lv (.int x :: rest) ws := by
  subst hn
  exact fun H locs ls hP hD hS hl => lv_if_eq C.1 C.2.1 d ht (fun h => kt h H locs ls hP hD hS hl) (fun h => kf h H locs ls hP hD hS hl)
theorem bx_if_ne (C : bx_C p R s m args meth c b nL own ty E A ce sl) {x : Int32} {off : Int} (tgt n : Nat) (d : decode b pc = .ok (.ifCond .ne off, 3)) (ht : (pc : Int) + off = (tgt : Int)) (hn : pc + 3 = n) (kt : ¬ x = 0 → bx_S p l e R s m args below meth c nL E A Q ce sl tgt lv rest ws) (kf : x = 0 → bx_S p l e R s m args below meth c nL E A Q ce sl n lv rest ws) : bx_S p l e R s m args below meth c nL E A Q ce sl pc lv (.int x :: rest) ws := by
  subst hn
  exact fun H locs ls hP hD hS hl => lv_if_ne C.1 C.2.1 d ht (fun h => kt h H locs ls hP hD hS hl) (fun h => kf h H locs ls hP hD hS hl)
theorem bx_if_lt (C : bx_C p R s m args meth c b nL own ty E A ce sl) {x : Int32} {off : Int} (tgt n : Nat) (d : decode b pc = .ok (.ifCond .lt off, 3)) (ht : (pc : Int) + off = (tgt : Int)) (hn : pc + 3 = n) (kt : x < 0 → bx_S p l e R s m args below meth c nL E A Q ce sl tgt lv rest ws) (kf : ¬ x < 0 → bx_S p l e R s m args below meth c nL E A Q ce sl n lv rest ws) : bx_S p l e R s m args below meth c nL E A Q ce sl pc lv (.int x :: rest) ws := by
  subst hn
  exact fun H locs ls hP hD hS hl => lv_if_lt C.1 C.2.1 d ht (fun h => kt h H locs ls hP hD hS hl) (fun h => kf h H locs ls hP hD hS hl)
theorem bx_if_ge (C : bx_C p R s m args meth c b nL own ty E A ce sl) {x : Int32} {off : Int} (tgt n : Nat) (d : decode b pc = .ok (.ifCond .ge off, 3)) (ht : (pc : Int) + off = (tgt : Int)) (hn : pc + 3 = n) (kt : 0 ≤ x → bx_S p l e R s m args below meth c nL E A Q ce sl tgt lv rest ws) (kf : ¬ 0 ≤ x → bx_S p l e R s m args below meth c nL E A Q ce sl n lv rest ws) : bx_S p l e R s m args below meth c nL E A Q ce sl pc lv (.int x :: rest) ws := by
  subst hn
  exact fun H locs ls hP hD hS hl => lv_if_ge C.1 C.2.1 d ht (fun h => kt h H locs ls hP hD hS hl) (fun h => kf h H locs ls hP hD hS hl)
theorem bx_if_gt (C : bx_C p R s m args meth c b nL own ty E A ce sl) {x : Int32} {off : Int} (tgt n : Nat) (d : decode b pc = .ok (.ifCond .gt off, 3)) (ht : (pc : Int) + off = (tgt : Int)) (hn : pc + 3 = n) (kt : 0 < x → bx_S p l e R s m args below meth c nL E A Q ce sl tgt lv rest ws) (kf : ¬ 0 < x → bx_S p l e R s m args below meth c nL E A Q ce sl n lv rest ws) : bx_S p l e R s m args below meth c nL E A Q ce sl pc lv (.int x :: rest) ws := by
  subst hn
  exact fun H locs ls hP hD hS hl => lv_if_gt C.1 C.2.1 d ht (fun h => kt h H locs ls hP hD hS hl) (fun h => kf h H locs ls hP hD hS hl)
theorem bx_if_le (C : bx_C p R s m args meth c b nL own ty E A ce sl) {x : Int32} {off : Int} (tgt n : Nat) (d : decode b pc = .ok (.ifCond .le off, 3)) (ht : (pc : Int) + off = (tgt : Int)) (hn : pc + 3 = n) (kt : x ≤ 0 → bx_S p l e R s m args below meth c nL E A Q ce sl tgt lv rest ws) (kf : ¬ x ≤ 0 → bx_S p l e R s m args below meth c nL E A Q ce sl n lv rest ws) : bx_S p l e R s m args below meth c nL E A Q ce sl pc lv (.int x :: rest) ws := by
  subst hn
  exact fun H locs ls hP hD hS hl => lv_if_le C.1 C.2.1 d ht (fun h => kt h H locs ls hP hD hS hl) (fun h => kf h H locs ls hP hD hS hl)
theorem bx_icmp_eq (C : bx_C p R s m args meth c b nL own ty E A ce sl) {x y : Int32} {off : Int} (tgt n : Nat) (d : decode b pc = .ok (.if_icmp .eq off, 3)) (ht : (pc : Int) + off = (tgt : Int)) (hn : pc + 3 = n) (kt : x = y → bx_S p l e R s m args below meth c nL E A Q ce sl tgt lv rest ws) (kf : ¬ x = y → bx_S p l e R s m args below meth c nL E A Q ce sl n lv rest ws) : bx_S p l e R s m args below meth c nL E A Q ce sl pc lv (.int y :: .int x :: rest) ws := by
  subst hn
  exact fun H locs ls hP hD hS hl => lv_icmp_eq C.1 C.2.1 d ht (fun h => kt h H locs ls hP hD hS hl) (fun h => kf h H locs ls hP hD hS hl)
theorem bx_icmp_ne (C : bx_C p R s m args meth c b nL own ty E A ce sl) {x y : Int32} {off : Int} (tgt n : Nat) (d : decode b pc = .ok (.if_icmp .ne off, 3)) (ht : (pc : Int) + off = (tgt : Int)) (hn : pc + 3 = n) (kt : ¬ x = y → bx_S p l e R s m args below meth c nL E A Q ce sl tgt lv rest ws) (kf : x = y → bx_S p l e R s m args below meth c nL E A Q ce sl n lv rest ws) : bx_S p l e R s m args below meth c nL E A Q ce sl pc lv (.int y :: .int x :: rest) ws := by
  subst hn
  exact fun H locs ls hP hD hS hl => lv_icmp_ne C.1 C.2.1 d ht (fun h => kt h H locs ls hP hD hS hl) (fun h => kf h H locs ls hP hD hS hl)
theorem bx_icmp_lt (C : bx_C p R s m args meth c b nL own ty E A ce sl) {x y : Int32} {off : Int} (tgt n : Nat) (d : decode b pc = .ok (.if_icmp .lt off, 3)) (ht : (pc : Int) + off = (tgt : Int)) (hn : pc + 3 = n) (kt : x < y → bx_S p l e R s m args below meth c nL E A Q ce sl tgt lv rest ws) (kf : ¬ x < y → bx_S p l e R s m args below meth c nL E A Q ce sl n lv rest ws) : bx_S p l e R s m args below meth c nL E A Q ce sl pc lv (.int y :: .int x :: rest) ws := by
  subst hn
  exact fun H locs ls hP hD hS hl => lv_icmp_lt C.1 C.2.1 d ht (fun h => kt h H locs ls hP hD hS hl) (fun h => kf h H locs ls hP hD hS hl)
theorem bx_icmp_ge (C : bx_C p R s m args meth c b nL own ty E A ce sl) {x y : Int32} {off : Int} (tgt n : Nat) (d : decode b pc = .ok (.if_icmp .ge off, 3)) (ht : (pc : Int) + off = (tgt : Int)) (hn : pc + 3 = n) (kt : y ≤ x → bx_S p l e R s m args below meth c nL E A Q ce sl tgt lv rest ws) (kf : ¬ y ≤ x → bx_S p l e R s m args below meth c nL E A Q ce sl n lv rest ws) : bx_S p l e R s m args below meth c nL E A Q ce sl pc lv (.int y :: .int x :: rest) ws := by
  subst hn
  exact fun H locs ls hP hD hS hl => lv_icmp_ge C.1 C.2.1 d ht (fun h => kt h H locs ls hP hD hS hl) (fun h => kf h H locs ls hP hD hS hl)
theorem bx_icmp_gt (C : bx_C p R s m args meth c b nL own ty E A ce sl) {x y : Int32} {off : Int} (tgt n : Nat) (d : decode b pc = .ok (.if_icmp .gt off, 3)) (ht : (pc : Int) + off = (tgt : Int)) (hn : pc + 3 = n) (kt : y < x → bx_S p l e R s m args below meth c nL E A Q ce sl tgt lv rest ws) (kf : ¬ y < x → bx_S p l e R s m args below meth c nL E A Q ce sl n lv rest ws) : bx_S p l e R s m args below meth c nL E A Q ce sl pc lv (.int y :: .int x :: rest) ws := by
  subst hn
  exact fun H locs ls hP hD hS hl => lv_icmp_gt C.1 C.2.1 d ht (fun h => kt h H locs ls hP hD hS hl) (fun h => kf h H locs ls hP hD hS hl)
theorem bx_icmp_le (C : bx_C p R s m args meth c b nL own ty E A ce sl) {x y : Int32} {off : Int} (tgt n : Nat) (d : decode b pc = .ok (.if_icmp .le off, 3)) (ht : (pc : Int) + off = (tgt : Int)) (hn : pc + 3 = n) (kt : x ≤ y → bx_S p l e R s m args below meth c nL E A Q ce sl tgt lv rest ws) (kf : ¬ x ≤ y → bx_S p l e R s m args below meth c nL E A Q ce sl n lv rest ws) : bx_S p l e R s m args below meth c nL E A Q ce sl pc lv (.int y :: .int x :: rest) ws := by
  subst hn
  exact fun H locs ls hP hD hS hl => lv_icmp_le C.1 C.2.1 d ht (fun h => kt h H locs ls hP hD hS hl) (fun h => kf h H locs ls hP hD hS hl)
theorem bx_goto (C : bx_C p R s m args meth c b nL own ty E A ce sl) {off : Int} (tgt : Nat) (d : decode b pc = .ok (.goto off, 3)) (ht : (pc : Int) + off = (tgt : Int)) (k : bx_S p l e R s m args below meth c nL E A Q ce sl tgt lv rest ws) : bx_S p l e R s m args below meth c nL E A Q ce sl pc lv rest ws :=
  fun H locs ls hP hD hS hl => lv_goto C.1 C.2.1 d ht (k H locs ls hP hD hS hl)
theorem bx_tin (C : bx_C p R s m args meth c b nL own ty E A ce sl) {dflt lo hi : Int} {offs : Array Int} {len : Nat} {x : Int32} {off : Int} (tgt : Nat) (v : Int32) (d : decode b pc = .ok (.tableswitch dflt lo hi offs, len)) (hx : x = v) (h1 : ¬ v.toInt < lo) (h2 : ¬ hi < v.toInt) (ho : offs[(v.toInt - lo).toNat]? = some off) (ht : (pc : Int) + off = (tgt : Int)) (k : bx_S p l e R s m args below meth c nL E A Q ce sl tgt lv rest ws) : bx_S p l e R s m args below meth c nL E A Q ce sl pc lv (.int x :: rest) ws := by
  subst hx
  exact fun H locs ls hP hD hS hl => lv_tableIn C.1 C.2.1 d h1 h2 ho ht (k H locs ls hP hD hS hl)
theorem bx_tout (C : bx_C p R s m args meth c b nL own ty E A ce sl) {dflt lo hi : Int} {offs : Array Int} {len : Nat} {x : Int32} (tgt : Nat) (d : decode b pc = .ok (.tableswitch dflt lo hi offs, len)) (h : x.toInt < lo ∨ hi < x.toInt) (ht : (pc : Int) + dflt = (tgt : Int)) (k : bx_S p l e R s m args below meth c nL E A Q ce sl tgt lv rest ws) : bx_S p l e R s m args below meth c nL E A Q ce sl pc lv (.int x :: rest) ws :=
  fun H locs ls hP hD hS hl => lv_tableOut C.1 C.2.1 d h ht (k H locs ls hP hD hS hl)
theorem bx_ldc (C : bx_C p R s m args meth c b nL own ty E A ce sl) {i : Nat} {v : Int32} (n : Nat) (hc : Cond.constant own i v ∈ wsAll) (d : decode b pc = .ok (.ldc i, 2)) (hn : pc + 2 = n) (k : bx_S p l e R s m args below meth c nL E A Q ce sl n lv (.int v :: rest) ws) : bx_S p l e R s m args below meth c nL E A Q ce sl pc lv rest ws := by
  subst hn
  exact fun H locs ls hP hD hS hl => lv_ldc C.1 C.2.1 C.2.2.2.1 (C.2.2.2.2.1 _ hc) d (k H locs ls hP hD hS hl)
theorem bx_ldc2 (C : bx_C p R s m args meth c b nL own ty E A ce sl) {i : Nat} {v : Int64} (n : Nat) (hc : Cond.constantLong own i v ∈ wsAll) (d : decode b pc = .ok (.ldc2_w i, 3)) (hn : pc + 3 = n) (k : bx_S p l e R s m args below meth c nL E A Q ce sl n lv (.long v :: rest) ws) : bx_S p l e R s m args below meth c nL E A Q ce sl pc lv rest ws := by
  subst hn
  exact fun H locs ls hP hD hS hl => lv_ldc2 C.1 C.2.1 C.2.2.2.1 (C.2.2.2.2.1 _ hc) d (k H locs ls hP hD hS hl)
theorem bx_getf (C : bx_C p R s m args meth c b nL own ty E A ce sl) {K : String} {T : u_T} {N ci i a : Nat} {fs : List Value} {v : Value} (n q0 f : Nat) (hin : ∀ w ∈ u_ws K T N, w ∈ wsAll) (hc : vwCl[ci]? = some (K, T, N)) (hf : f < N) (hl : Cond.fieldLink own i (T f).1 (T f).2.1 (T f).2.2.1 ∈ wsAll) (d : decode b pc = .ok (.getfield i, 3)) (he : ws[q0]? = some (a, .inr (ci, fs))) (hv : fs[f]? = some v) (hn : pc + 3 = n) (k : bx_S p l e R s m args below meth c nL E A Q ce sl n lv (v :: rest) ws) : bx_S p l e R s m args below meth c nL E A Q ce sl pc lv (.ref a :: rest) ws := by
  subst hn
  exact fun H locs ls hP hD hS hlv => va_get C.1 C.2.1 C.2.2.2.2.1 hin C.2.2.2.1 C.2.2.2.2.2.1 hP q0 he hc f hf (C.2.2.2.2.1 _ hl) (fun _ h => h) hv d (k H locs ls hP hD hS hlv)
theorem bx_putf (C : bx_C p R s m args meth c b nL own ty E A ce sl) {K : String} {T : u_T} {N ci i a : Nat} {fs : List Value} {v : Value} (n q0 f : Nat) (ws' : va_W) (hin : ∀ w ∈ u_ws K T N, w ∈ wsAll) (t0 : Nat → FieldType) (hty : ∀ k, k < N → parseFieldDescriptor (T k).2.2.1 = some (t0 k)) (hnm : ∀ a, a < N → ∀ b, b < N → a ≠ b → (T a).2.1 ≠ (T b).2.1) (hc : vwCl[ci]? = some (K, T, N)) (hf : f < N) (hl : Cond.fieldLink own i (T f).1 (T f).2.1 (T f).2.2.1 ∈ wsAll) (hfin : (T f).2.2.2 = false) (d : decode b pc = .ok (.putfield i, 3)) (he : ws[q0]? = some (a, .inr (ci, fs))) (hna : narrow (t0 f) v = v) (hfit : fits (t0 f) v = true) (hlen : f < fs.length) (hw : ws.set q0 (a, .inr (ci, fs.set f v)) = ws') (hn : pc + 3 = n) (k : bx_S p l e R s m args below meth c nL E A Q ce sl n lv rest ws') : bx_S p l e R s m args below meth c nL E A Q ce sl pc lv (v :: .ref a :: rest) ws := by
  subst hn
  subst hw
  exact fun H locs ls hP hD hS hlv => va_put C.1 C.2.1 C.2.2.2.2.1 hin t0 hty hnm C.2.2.2.1 C.2.2.2.2.2.1 hP hD hS q0 he hc f hf (C.2.2.2.2.1 _ hl) (fun _ h => h) hfin (hty f hf) hna hfit hlen d (fun H1 locs1 hP hD hS => k H1 locs1 ls hP hD hS hlv)

theorem bx_iald (C : bx_C p R s m args meth c b nL own ty E A ce sl) {a N : Nat} {f : Nat → Int32} {i : Int32} (n q0 : Nat) (d : decode b pc = .ok (.iaload, 1)) (he : ws[q0]? = some (a, .inl (E.2 0, N, .inl f))) (hi : vp_in i N) (hn : pc + 1 = n) (k : bx_S p l e R s m args below meth c nL E A Q ce sl n lv (.int (f i.toNatClampNeg) :: rest) ws) : bx_S p l e R s m args below meth c nL E A Q ce sl pc lv (.int i :: .ref a :: rest) ws := by
  subst hn
  exact fun H locs ls hP hD hS hlv => va_iald C.1 C.2.1 C.2.2.2.2.2.1 hP q0 0 he rfl hi d (k H locs ls hP hD hS hlv)
theorem bx_zald (C : bx_C p R s m args meth c b nL own ty E A ce sl) {a N : Nat} {f : Nat → Int32} {i : Int32} (n q0 : Nat) (d : decode b pc = .ok (.baload, 1)) (he : ws[q0]? = some (a, .inl (E.2 1, N, .inl f))) (hi : vp_in i N) (hn : pc + 1 = n) (k : bx_S p l e R s m args below meth c nL E A Q ce sl n lv (.int (f i.toNatClampNeg) :: rest) ws) : bx_S p l e R s m args below meth c nL E A Q ce sl pc lv (.int i :: .ref a :: rest) ws := by
  subst hn
  exact fun H locs ls hP hD hS hlv => va_zald C.1 C.2.1 C.2.2.2.2.2.1 hP q0 1 he rfl hi d (k H locs ls hP hD hS hlv)
theorem bx_bald (C : bx_C p R s m args meth c b nL own ty E A ce sl) {a N : Nat} {f : Nat → Int32} {i : Int32} (n q0 : Nat) (d : decode b pc = .ok (.baload, 1)) (he : ws[q0]? = some (a, .inl (E.2 2, N, .inl f))) (hi : vp_in i N) (hn : pc + 1 = n) (k : bx_S p l e R s m args below meth c nL E A Q ce sl n lv (.int (f i.toNatClampNeg) :: rest) ws) : bx_S p l e R s m args below meth c nL E A Q ce sl pc lv (.int i :: .ref a :: rest) ws := by
  subst hn
  exact fun H locs ls hP hD hS hlv => va_bald C.1 C.2.1 C.2.2.2.2.2.1 hP q0 2 he rfl hi d (k H locs ls hP hD hS hlv)
theorem bx_iast (C : bx_C p R s m args meth c b nL own ty E A ce sl) {a N : Nat} {f : Nat → Int32} {i x : Int32} (n q0 : Nat) (ws' : va_W) (d : decode b pc = .ok (.iastore, 1)) (he : ws[q0]? = some (a, .inl (E.2 0, N, .inl f))) (hi : vp_in i N) (hw : ws.set q0 (a, .inl (E.2 0, N, .inl (upd f i.toNatClampNeg x))) = ws') (hn : pc + 1 = n) (k : bx_S p l e R s m args below meth c nL E A Q ce sl n lv rest ws') : bx_S p l e R s m args below meth c nL E A Q ce sl pc lv (.int x :: .int i :: .ref a :: rest) ws := by
  subst hn
  subst hw
  exact fun H locs ls hP hD hS hlv => va_iast C.1 C.2.1 C.2.2.2.2.2.1 hP hD hS q0 0 he rfl hi d (fun H1 locs1 hP hD hS => k H1 locs1 ls hP hD hS hlv)
theorem bx_zast (C : bx_C p R s m args meth c b nL own ty E A ce sl) {a N : Nat} {f : Nat → Int32} {i x : Int32} (n q0 : Nat) (ws' : va_W) (d : decode b pc = .ok (.bastore, 1)) (he : ws[q0]? = some (a, .inl (E.2 1, N, .inl f))) (hi : vp_in i N) (hw : ws.set q0 (a, .inl (E.2 1, N, .inl (upd f i.toNatClampNeg (vp_nar .boolean x)))) = ws') (hn : pc + 1 = n) (k : bx_S p l e R s m args below meth c nL E A Q ce sl n lv rest ws') : bx_S p l e R s m args below meth c nL E A Q ce sl pc lv (.int x :: .int i :: .ref a :: rest) ws := by
  subst hn
  subst hw
  exact fun H locs ls hP hD hS hlv => va_zast C.1 C.2.1 C.2.2.2.2.2.1 hP hD hS q0 1 he rfl hi d (fun H1 locs1 hP hD hS => k H1 locs1 ls hP hD hS hlv)
theorem bx_bast (C : bx_C p R s m args meth c b nL own ty E A ce sl) {a N : Nat} {f : Nat → Int32} {i x : Int32} (n q0 : Nat) (ws' : va_W) (d : decode b pc = .ok (.bastore, 1)) (he : ws[q0]? = some (a, .inl (E.2 2, N, .inl f))) (hi : vp_in i N) (hw : ws.set q0 (a, .inl (E.2 2, N, .inl (upd f i.toNatClampNeg (vp_nar .byte x)))) = ws') (hn : pc + 1 = n) (k : bx_S p l e R s m args below meth c nL E A Q ce sl n lv rest ws') : bx_S p l e R s m args below meth c nL E A Q ce sl pc lv (.int x :: .int i :: .ref a :: rest) ws := by
  subst hn
  subst hw
  exact fun H locs ls hP hD hS hlv => va_bast C.1 C.2.1 C.2.2.2.2.2.1 hP hD hS q0 2 he rfl hi d (fun H1 locs1 hP hD hS => k H1 locs1 ls hP hD hS hlv)
theorem bx_aald (C : bx_C p R s m args meth c b nL own ty E A ce sl) {a N : Nat} {f : Nat → Option Nat} {i : Int32} {z : Nat} (n q0 : Nat) (d : decode b pc = .ok (.aaload, 1)) (he : ws[q0]? = some (a, .inl (E.2 3, N, .inr (.inr (.inr (.inr f)))))) (hi : vp_in i N) (hz : f i.toNatClampNeg = some z) (hn : pc + 1 = n) (k : bx_S p l e R s m args below meth c nL E A Q ce sl n lv (.ref z :: rest) ws) : bx_S p l e R s m args below meth c nL E A Q ce sl pc lv (.int i :: .ref a :: rest) ws := by
  subst hn
  exact fun H locs ls hP hD hS hlv => va_aldq C.1 C.2.1 C.2.2.2.2.2.1 hP q0 3 he rfl hi d (by rw [hz]; exact k H locs ls hP hD hS hlv)
theorem bx_alen (C : bx_C p R s m args meth c b nL own ty E A ce sl) {a t0 : Nat} {cA : ClassId} {x : vp_A} {y : FieldType} {v : Int32} (n q0 : Nat) (d : decode b pc = .ok (.arraylength, 1)) (he : ws[q0]? = some (a, .inl (cA, x))) (ht : (bx_tys E)[t0]? = some (cA, y)) (hv : Int32.ofNat x.1 = v) (hn : pc + 1 = n) (k : bx_S p l e R s m args below meth c nL E A Q ce sl n lv (.int v :: rest) ws) : bx_S p l e R s m args below meth c nL E A Q ce sl pc lv (.ref a :: rest) ws := by
  subst hn
  exact fun H locs ls hP hD hS hlv => va_alen C.1 C.2.1 C.2.2.2.2.2.1 hP q0 t0 he ht hv d (k H locs ls hP hD hS hlv)
theorem bx_iret (C : bx_C p R s m args meth c b nL own ty E A ce sl) {σ : Type} {K : Int32 → σ → Prop} {wf : σ → va_W} {v : Int32} (u : σ) (hty : ty = some .int) (d : decode b pc = .ok (.ireturn, 1)) (hw : ws = wf u) (hk : K v u) : bx_S p l e R s m args below meth c nL E A (MQ below (va_Qi K (fun u t => bx_B E A (wf u) t) A) args s ce sl A) ce sl pc lv [.int v] ws := by
  subst hw
  exact fun H locs ls hP hD hS hlv => W.iret C.1 C.2.1 (C.2.2.2.2.2.2.2.1.trans hty) (fun t ht hW => ⟨⟨v, u, rfl, hk, by rw [ht]; exact hP, hD⟩, hS.F ht⟩) hS.2.2 d C.2.2.2.2.2.2.2.2.1
theorem bx_zret (C : bx_C p R s m args meth c b nL own ty E A ce sl) {σ : Type} {K : Int32 → σ → Prop} {wf : σ → va_W} {v : Int32} (u : σ) (hty : ty = some .boolean) (d : decode b pc = .ok (.ireturn, 1)) (hw : ws = wf u) (h01 : v = 0 ∨ v = 1) (hk : K v u) : bx_S p l e R s m args below meth c nL E A (MQ below (va_Qi K (fun u t => bx_B E A (wf u) t) A) args s ce sl A) ce sl pc lv [.int v] ws := by
  subst hw
  have hn : narrow .boolean (.int v) = .int v := by rcases h01 with rfl | rfl <;> rfl
  exact fun H locs ls hP hD hS hlv => W.zret C.1 C.2.1 (C.2.2.2.2.2.2.2.1.trans hty) hn (fun t ht hW => ⟨⟨v, u, rfl, hk, by rw [ht]; exact hP, hD⟩, hS.F ht⟩) hS.2.2 d C.2.2.2.2.2.2.2.2.1
theorem bx_lret (C : bx_C p R s m args meth c b nL own ty E A ce sl) {σ : Type} {K : Int64 → σ → Prop} {wf : σ → va_W} {v : Int64} (u : σ) (hty : ty = some .long) (d : decode b pc = .ok (.lreturn, 1)) (hw : ws = wf u) (hk : K v u) : bx_S p l e R s m args below meth c nL E A (MQ below (va_Ql K (fun u t => bx_B E A (wf u) t) A) args s ce sl A) ce sl pc lv [.long v] ws := by
  subst hw
  exact fun H locs ls hP hD hS hlv => W.lret C.1 C.2.1 (C.2.2.2.2.2.2.2.1.trans hty) (fun t ht hW => ⟨⟨v, u, rfl, hk, by rw [ht]; exact hP, hD⟩, hS.F ht⟩) hS.2.2 d C.2.2.2.2.2.2.2.2.1
theorem bx_vret (C : bx_C p R s m args meth c b nL own ty E A ce sl) {σ : Type} {K : σ → Prop} {wf : σ → va_W} (u : σ) (hty : ty = none) (d : decode b pc = .ok (.return_, 1)) (hw : ws = wf u) (hk : K u) : bx_S p l e R s m args below meth c nL E A (MQ below (va_Qv K (fun u t => bx_B E A (wf u) t) A) args s ce sl A) ce sl pc lv [] ws := by
  subst hw
  exact fun H locs ls hP hD hS hlv => W.vret C.1 C.2.1 (C.2.2.2.2.2.2.2.1.trans hty) (fun t ht hW => ⟨⟨u, rfl, hk, by rw [ht]; exact hP, hD⟩, hS.F ht⟩) hS.2.2 d C.2.2.2.2.2.2.2.2.1
/-- fewer locals in another order, the world by another name -/
theorem bx_cut {lv' : List (Nat × Value)} {st : List Value} (ks : List Nat) (ws' : va_W) (hl : lv_pick lv ks = lv') (hw : ws = ws') (k : bx_S p l e R s m args below meth c nL E A Q ce sl pc lv' st ws') : bx_S p l e R s m args below meth c nL E A Q ce sl pc lv st ws := by
  subst hw
  exact fun H locs ls hP hD hS h => k H locs ls hP hD hS (lv_sub h ks hl)
theorem bx_world {st : List Value} (ws' : va_W) (hw : ws = ws') (k : bx_S p l e R s m args below meth c nL E A Q ce sl pc lv st ws') : bx_S p l e R s m args below meth c nL E A Q ce sl pc lv st ws := by
  subst hw
  exact k

theorem bx_mmax (C : bx_C p R s m args meth c b nL own ty E A ce sl) {x y : Int32} {i : Nat} (n : Nat) (hl : Cond.methodLink own i Lib.Math.max.name ∈ wsAll) (d : decode b pc = .ok (.invokestatic i, 3)) (hR : 1 ≤ R.frames ∧ 21 ≤ R.locals) (hrest : (rest.map fun v => v.category).sum ≤ 8) (hn : pc + 3 = n) (k : bx_S p l e R s m args below meth c nL E A Q ce sl n lv (.int (if x < y then y else x) :: rest) ws) : bx_S p l e R s m args below meth c nL E A Q ce sl pc lv (.int y :: .int x :: rest) ws := by
  subst hn
  have hts := C.2.2.2.2.1
  exact fun H locs ls hP hD hS hlv => va_mmax C.1 C.2.1 (C.2.2.1.trans hlv.1.symm) C.2.2.2.1 (hts _ hl) (hts _ mm_max.1) (hts _ mm_init) (hts _ mm_max.2) hR.1 (by have := hR.2; omega) C.2.2.2.2.2.2.2.2.2.2.1.1 C.2.2.2.2.2.2.2.2.2.2.1.2 d (k H locs ls hP hD hS hlv)
theorem bx_mmin (C : bx_C p R s m args meth c b nL own ty E A ce sl) {x y : Int32} {i : Nat} (n : Nat) (hl : Cond.methodLink own i Lib.Math.min.name ∈ wsAll) (d : decode b pc = .ok (.invokestatic i, 3)) (hR : 1 ≤ R.frames ∧ 21 ≤ R.locals) (hrest : (rest.map fun v => v.category).sum ≤ 8) (hn : pc + 3 = n) (k : bx_S p l e R s m args below meth c nL E A Q ce sl n lv (.int (if y < x then y else x) :: rest) ws) : bx_S p l e R s m args below meth c nL E A Q ce sl pc lv (.int y :: .int x :: rest) ws := by
  subst hn
  have hts := C.2.2.2.2.1
  exact fun H locs ls hP hD hS hlv => va_mmin C.1 C.2.1 (C.2.2.1.trans hlv.1.symm) C.2.2.2.1 (hts _ hl) (hts _ mm_min.1) (hts _ mm_init) (hts _ mm_min.2) hR.1 (by have := hR.2; omega) C.2.2.2.2.2.2.2.2.2.2.1.1 C.2.2.2.2.2.2.2.2.2.2.1.2 d (k H locs ls hP hD hS hlv)
theorem bx_mabs (C : bx_C p R s m args meth c b nL own ty E A ce sl) {x : Int32} {i : Nat} (n : Nat) (hl : Cond.methodLink own i Lib.Math.abs.name ∈ wsAll) (d : decode b pc = .ok (.invokestatic i, 3)) (hR : 1 ≤ R.frames ∧ 21 ≤ R.locals) (hrest : (rest.map fun v => v.category).sum ≤ 8) (hn : pc + 3 = n) (k : bx_S p l e R s m args below meth c nL E A Q ce sl n lv (.int (if 0 ≤ x then x else 0 - x) :: rest) ws) : bx_S p l e R s m args below meth c nL E A Q ce sl pc lv (.int x :: rest) ws := by
  subst hn
  have hts := C.2.2.2.2.1
  exact fun H locs ls hP hD hS hlv => va_mabs C.1 C.2.1 (C.2.2.1.trans hlv.1.symm) C.2.2.2.1 (hts _ hl) (hts _ mm_abs.1) (hts _ mm_init) (hts _ mm_abs.2) hR.1 (by have := hR.2; omega) C.2.2.2.2.2.2.2.2.2.2.1.1 C.2.2.2.2.2.2.2.2.2.2.1.2 d (k H locs ls hP hD hS hlv)
theorem bx_cb (C : bx_C p R s m args meth c b nL own ty E A ce sl) {y : MethodName} {cd : ByteArray} {nc ar i : Nat} {tyc : Option FieldType} {rm : Room} (F : bx_FL own i y cd nc tyc ar) (hR : rm.cells = 0 ∧ rm.slots = 0 ∧ rm.frames + 1 ≤ R.frames ∧ 8 + (nc + 11) + rm.locals ≤ R.locals) : CallB R s args own i y cd nc tyc (bx_ws y cd nc tyc) rm 0 0 ar := by
  have hts := C.2.2.2.2.1
  refine callB_of (Ts := wsAll) ar hts (bx_good (y := y) (cd := cd) (nL := nL) (ty := ty) F.1.1) rfl hR.1 hR.2.1 (hts _ F.1.2.1) (hts _ F.2) F.1.2.2 ⟨hR.2.2.1, hR.2.2.2⟩
theorem bx_callVi (C : bx_C p R s m args meth c b nL own ty E A ce sl) {y : MethodName} {cd : ByteArray} {nc ar i : Nat} {tyc : Option FieldType} {rm : Room} {σ : Type} {wf : σ → va_W} {u0 : σ} {K : Int32 → σ → Prop} {As st : List Value} {K2 : String} {T : u_T} {N ci a0 : Nat} {fs : List Value} (q0 : Nat) (hq : ws[q0]? = some (a0, .inr (ci, fs))) (hcl : vwCl[ci]? = some (K2, T, N)) (n : Nat) (F : bx_FV own i K2 y cd nc tyc ar) (hM : bx_Mi l E y cd nc tyc rm (.ref a0 :: As) wf u0 K) (d : decode b pc = .ok (.invokevirtual i, 3)) (hR : rm.cells = 0 ∧ rm.slots = 0 ∧ rm.frames + 1 ≤ R.frames ∧ 8 + (nc + 11) + rm.locals ≤ R.locals) (ps : List Nat) (hps : ps.map (fun i => ws[i]?) = (wf u0).map some) (hnd : va_nd ps = true) (hadr : ∀ u : σ, (wf u).map (fun q => q.1) = (wf u0).map (fun q => q.1)) (hlen : As.length = ar) (hst : st = As.reverse ++ .ref a0 :: rest) (hrest : (rest.map fun v => v.category).sum ≤ 8) (hn : pc + 3 = n) (kk : ∀ (r : Int32) (u : σ), K r u → bx_S p l e R s m args below meth c nL E A Q ce sl n lv (.int r :: rest) (bx_put ws ps (wf u))) : bx_S p l e R s m args below meth c nL E A Q ce sl pc lv st ws := by
  subst hn
  subst hst
  intro H locs ls hP hD hS hl
  obtain ⟨hx, hb, hml, hown, hts, hK, hNe, hr, hlk, hA, hce, hstr⟩ := id C
  have hFc := va_free (wc := wf u0) hD hS hA ps hps
  have hpre := bx_pre (As := (.ref a0 :: As)) C hP hD hS hFc hps hnd rfl
  refine va_calli (va_runV ⟨hx, hb, hml, hown, hts⟩ (hM H.size) ⟨bx_cb C F.1 hR, hts _ F.2.1, hts _ F.2.2⟩ ⟨hpre.1, va_recv hK hP hcl hq, hpre.2⟩ rfl hlen hl.1 rfl (lv_room hrest) d hce) hS (fun q _ h => hFc q h) hFc (fun r u t H1 locs1 ht hvm hw hB hz hk hS1 => ?_)
  obtain ⟨hP1, hD1⟩ := hB
  rw [ht] at hP1
  obtain ⟨hP2, hD2⟩ := bx_put_ok hP hD hps (hadr u) hk hP1
  exact kk r u hw H1 locs1 ls hP2 hD2 hS1 hl
theorem bx_callVl (C : bx_C p R s m args meth c b nL own ty E A ce sl) {y : MethodName} {cd : ByteArray} {nc ar i : Nat} {tyc : Option FieldType} {rm : Room} {σ : Type} {wf : σ → va_W} {u0 : σ} {K : Int64 → σ → Prop} {As st : List Value} {K2 : String} {T : u_T} {N ci a0 : Nat} {fs : List Value} (q0 : Nat) (hq : ws[q0]? = some (a0, .inr (ci, fs))) (hcl : vwCl[ci]? = some (K2, T, N)) (n : Nat) (F : bx_FV own i K2 y cd nc tyc ar) (hM : bx_Ml l E y cd nc tyc rm (.ref a0 :: As) wf u0 K) (d : decode b pc = .ok (.invokevirtual i, 3)) (hR : rm.cells = 0 ∧ rm.slots = 0 ∧ rm.frames + 1 ≤ R.frames ∧ 8 + (nc + 11) + rm.locals ≤ R.locals) (ps : List Nat) (hps : ps.map (fun i => ws[i]?) = (wf u0).map some) (hnd : va_nd ps = true) (hadr : ∀ u : σ, (wf u).map (fun q => q.1) = (wf u0).map (fun q => q.1)) (hlen : As.length = ar) (hst : st = As.reverse ++ .ref a0 :: rest) (hrest : (rest.map fun v => v.category).sum ≤ 8) (hn : pc + 3 = n) (kk : ∀ (r : Int64) (u : σ), K r u → bx_S p l e R s m args below meth c nL E A Q ce sl n lv (.long r :: rest) (bx_put ws ps (wf u))) : bx_S p l e R s m args below meth c nL E A Q ce sl pc lv st ws := by
  subst hn
  subst hst
  intro H locs ls hP hD hS hl
  obtain ⟨hx, hb, hml, hown, hts, hK, hNe, hr, hlk, hA, hce, hstr⟩ := id C
  have hFc := va_free (wc := wf u0) hD hS hA ps hps
  have hpre := bx_pre (As := (.ref a0 :: As)) C hP hD hS hFc hps hnd rfl
  refine va_calll (va_runV ⟨hx, hb, hml, hown, hts⟩ (hM H.size) ⟨bx_cb C F.1 hR, hts _ F.2.1, hts _ F.2.2⟩ ⟨hpre.1, va_recv hK hP hcl hq, hpre.2⟩ rfl hlen hl.1 rfl (lv_room hrest) d hce) hS (fun q _ h => hFc q h) hFc (fun r u t H1 locs1 ht hvm hw hB hz hk hS1 => ?_)
  obtain ⟨hP1, hD1⟩ := hB
  rw [ht] at hP1
  obtain ⟨hP2, hD2⟩ := bx_put_ok hP hD hps (hadr u) hk hP1
  exact kk r u hw H1 locs1 ls hP2 hD2 hS1 hl
theorem bx_callVv (C : bx_C p R s m args meth c b nL own ty E A ce sl) {y : MethodName} {cd : ByteArray} {nc ar i : Nat} {tyc : Option FieldType} {rm : Room} {σ : Type} {wf : σ → va_W} {u0 : σ} {K : σ → Prop} {As st : List Value} {K2 : String} {T : u_T} {N ci a0 : Nat} {fs : List Value} (q0 : Nat) (hq : ws[q0]? = some (a0, .inr (ci, fs))) (hcl : vwCl[ci]? = some (K2, T, N)) (n : Nat) (F : bx_FV own i K2 y cd nc tyc ar) (hM : bx_Mv l E y cd nc tyc rm (.ref a0 :: As) wf u0 K) (d : decode b pc = .ok (.invokevirtual i, 3)) (hR : rm.cells = 0 ∧ rm.slots = 0 ∧ rm.frames + 1 ≤ R.frames ∧ 8 + (nc + 11) + rm.locals ≤ R.locals) (ps : List Nat) (hps : ps.map (fun i => ws[i]?) = (wf u0).map some) (hnd : va_nd ps = true) (hadr : ∀ u : σ, (wf u).map (fun q => q.1) = (wf u0).map (fun q => q.1)) (hlen : As.length = ar) (hst : st = As.reverse ++ .ref a0 :: rest) (hrest : (rest.map fun v => v.category).sum ≤ 8) (hn : pc + 3 = n) (kk : ∀ u : σ, K u → bx_S p l e R s m args below meth c nL E A Q ce sl n lv rest (bx_put ws ps (wf u))) : bx_S p l e R s m args below meth c nL E A Q ce sl pc lv st ws := by
  subst hn
  subst hst
  intro H locs ls hP hD hS hl
  obtain ⟨hx, hb, hml, hown, hts, hK, hNe, hr, hlk, hA, hce, hstr⟩ := id C
  have hFc := va_free (wc := wf u0) hD hS hA ps hps
  have hpre := bx_pre (As := (.ref a0 :: As)) C hP hD hS hFc hps hnd rfl
  refine va_callv (va_runV ⟨hx, hb, hml, hown, hts⟩ (hM H.size) ⟨bx_cb C F.1 hR, hts _ F.2.1, hts _ F.2.2⟩ ⟨hpre.1, va_recv hK hP hcl hq, hpre.2⟩ rfl hlen hl.1 rfl (lv_room hrest) d hce) hS (fun q _ h => hFc q h) hFc (fun u t H1 locs1 ht hvm hw hB hz hk hS1 => ?_)
  obtain ⟨hP1, hD1⟩ := hB
  rw [ht] at hP1
  obtain ⟨hP2, hD2⟩ := bx_put_ok hP hD hps (hadr u) hk hP1
  exact kk u hw H1 locs1 ls hP2 hD2 hS1 hl
theorem bx_callSi (C : bx_C p R s m args meth c b nL own ty E A ce sl) {y : MethodName} {cd : ByteArray} {nc ar i : Nat} {tyc : Option FieldType} {rm : Room} {σ : Type} {wf : σ → va_W} {u0 : σ} {K : Int32 → σ → Prop} {As st : List Value} (n : Nat) (F : bx_FS own i y cd nc tyc ar) (hM : bx_Mi l E y cd nc tyc rm As wf u0 K) (d : decode b pc = .ok (.invokestatic i, 3)) (hR : rm.cells = 0 ∧ rm.slots = 0 ∧ rm.frames + 1 ≤ R.frames ∧ 8 + (nc + 11) + rm.locals ≤ R.locals) (ps : List Nat) (hps : ps.map (fun i => ws[i]?) = (wf u0).map some) (hnd : va_nd ps = true) (hadr : ∀ u : σ, (wf u).map (fun q => q.1) = (wf u0).map (fun q => q.1)) (hlen : As.length = ar) (hst : st = As.reverse ++ rest) (hrest : (rest.map fun v => v.category).sum ≤ 8) (hn : pc + 3 = n) (kk : ∀ (r : Int32) (u : σ), K r u → bx_S p l e R s m args below meth c nL E A Q ce sl n lv (.int r :: rest) (bx_put ws ps (wf u))) : bx_S p l e R s m args below meth c nL E A Q ce sl pc lv st ws := by
  subst hn
  subst hst
  intro H locs ls hP hD hS hl
  obtain ⟨hx, hb, hml, hown, hts, hK, hNe, hr, hlk, hA, hce, hstr⟩ := id C
  have hFc := va_free (wc := wf u0) hD hS hA ps hps
  have hpre := bx_pre (As := As) C hP hD hS hFc hps hnd rfl
  refine va_calli (va_runS ⟨hx, hb, hml, hown, hts⟩ (hM H.size) ⟨bx_cb C F.1 hR, hts _ F.2⟩ hpre rfl hlen hl.1 rfl (lv_room hrest) d hce) hS (fun q _ h => hFc q h) hFc (fun r u t H1 locs1 ht hvm hw hB hz hk hS1 => ?_)
  obtain ⟨hP1, hD1⟩ := hB
  rw [ht] at hP1
  obtain ⟨hP2, hD2⟩ := bx_put_ok hP hD hps (hadr u) hk hP1
  exact kk r u hw H1 locs1 ls hP2 hD2 hS1 hl
theorem bx_callSl (C : bx_C p R s m args meth c b nL own ty E A ce sl) {y : MethodName} {cd : ByteArray} {nc ar i : Nat} {tyc : Option FieldType} {rm : Room} {σ : Type} {wf : σ → va_W} {u0 : σ} {K : Int64 → σ → Prop} {As st : List Value} (n : Nat) (F : bx_FS own i y cd nc tyc ar) (hM : bx_Ml l E y cd nc tyc rm As wf u0 K) (d : decode b pc = .ok (.invokestatic i, 3)) (hR : rm.cells = 0 ∧ rm.slots = 0 ∧ rm.frames + 1 ≤ R.frames ∧ 8 + (nc + 11) + rm.locals ≤ R.locals) (ps : List Nat) (hps : ps.map (fun i => ws[i]?) = (wf u0).map some) (hnd : va_nd ps = true) (hadr : ∀ u : σ, (wf u).map (fun q => q.1) = (wf u0).map (fun q => q.1)) (hlen : As.length = ar) (hst : st = As.reverse ++ rest) (hrest : (rest.map fun v => v.category).sum ≤ 8) (hn : pc + 3 = n) (kk : ∀ (r : Int64) (u : σ), K r u → bx_S p l e R s m args below meth c nL E A Q ce sl n lv (.long r :: rest) (bx_put ws ps (wf u))) : bx_S p l e R s m args below meth c nL E A Q ce sl pc lv st ws := by
  subst hn
  subst hst
  intro H locs ls hP hD hS hl
  obtain ⟨hx, hb, hml, hown, hts, hK, hNe, hr, hlk, hA, hce, hstr⟩ := id C
  have hFc := va_free (wc := wf u0) hD hS hA ps hps
  have hpre := bx_pre (As := As) C hP hD hS hFc hps hnd rfl
  refine va_calll (va_runS ⟨hx, hb, hml, hown, hts⟩ (hM H.size) ⟨bx_cb C F.1 hR, hts _ F.2⟩ hpre rfl hlen hl.1 rfl (lv_room hrest) d hce) hS (fun q _ h => hFc q h) hFc (fun r u t H1 locs1 ht hvm hw hB hz hk hS1 => ?_)
  obtain ⟨hP1, hD1⟩ := hB
  rw [ht] at hP1
  obtain ⟨hP2, hD2⟩ := bx_put_ok hP hD hps (hadr u) hk hP1
  exact kk r u hw H1 locs1 ls hP2 hD2 hS1 hl
theorem bx_callSv (C : bx_C p R s m args meth c b nL own ty E A ce sl) {y : MethodName} {cd : ByteArray} {nc ar i : Nat} {tyc : Option FieldType} {rm : Room} {σ : Type} {wf : σ → va_W} {u0 : σ} {K : σ → Prop} {As st : List Value} (n : Nat) (F : bx_FS own i y cd nc tyc ar) (hM : bx_Mv l E y cd nc tyc rm As wf u0 K) (d : decode b pc = .ok (.invokestatic i, 3)) (hR : rm.cells = 0 ∧ rm.slots = 0 ∧ rm.frames + 1 ≤ R.frames ∧ 8 + (nc + 11) + rm.locals ≤ R.locals) (ps : List Nat) (hps : ps.map (fun i => ws[i]?) = (wf u0).map some) (hnd : va_nd ps = true) (hadr : ∀ u : σ, (wf u).map (fun q => q.1) = (wf u0).map (fun q => q.1)) (hlen : As.length = ar) (hst : st = As.reverse ++ rest) (hrest : (rest.map fun v => v.category).sum ≤ 8) (hn : pc + 3 = n) (kk : ∀ u : σ, K u → bx_S p l e R s m args below meth c nL E A Q ce sl n lv rest (bx_put ws ps (wf u))) : bx_S p l e R s m args below meth c nL E A Q ce sl pc lv st ws := by
  subst hn
  subst hst
  intro H locs ls hP hD hS hl
  obtain ⟨hx, hb, hml, hown, hts, hK, hNe, hr, hlk, hA, hce, hstr⟩ := id C
  have hFc := va_free (wc := wf u0) hD hS hA ps hps
  have hpre := bx_pre (As := As) C hP hD hS hFc hps hnd rfl
  refine va_callv (va_runS ⟨hx, hb, hml, hown, hts⟩ (hM H.size) ⟨bx_cb C F.1 hR, hts _ F.2⟩ hpre rfl hlen hl.1 rfl (lv_room hrest) d hce) hS (fun q _ h => hFc q h) hFc (fun u t H1 locs1 ht hvm hw hB hz hk hS1 => ?_)
  obtain ⟨hP1, hD1⟩ := hB
  rw [ht] at hP1
  obtain ⟨hP2, hD2⟩ := bx_put_ok hP hD hps (hadr u) hk hP1
  exact kk u hw H1 locs1 ls hP2 hD2 hS1 hl
theorem bx_callSNi (C : bx_C p R s m args meth c b nL own ty E A ce sl) {y : MethodName} {cd : ByteArray} {nc ar i : Nat} {tyc : Option FieldType} {rm : Room} {σ : Type} {wf : σ → va_W} {u0 : σ} {K : Int32 → σ → Prop} {As st : List Value} (n : Nat) (F : bx_FN own i y cd nc tyc ar) (hM : bx_Mi l E y cd nc tyc rm As wf u0 K) (d : decode b pc = .ok (.invokestatic i, 3)) (hR : rm.cells = 0 ∧ rm.slots = 0 ∧ rm.frames + 1 ≤ R.frames ∧ 8 + (nc + 11) + rm.locals ≤ R.locals) (ps : List Nat) (hps : ps.map (fun i => ws[i]?) = (wf u0).map some) (hnd : va_nd ps = true) (hadr : ∀ u : σ, (wf u).map (fun q => q.1) = (wf u0).map (fun q => q.1)) (hlen : As.length = ar) (hst : st = As.reverse ++ rest) (hrest : (rest.map fun v => v.category).sum ≤ 8) (hn : pc + 3 = n) (kk : ∀ (r : Int32) (u : σ), K r u → bx_S p l e R s m args below meth c nL E A Q ce sl n lv (.int r :: rest) (bx_put ws ps (wf u))) : bx_S p l e R s m args below meth c nL E A Q ce sl pc lv st ws := by
  subst hn
  subst hst
  intro H locs ls hP hD hS hl
  obtain ⟨hx, hb, hml, hown, hts, hK, hNe, hr, hlk, hA, hce, hstr⟩ := id C
  have hFc := va_free (wc := wf u0) hD hS hA ps hps
  have hpre := bx_pre (As := As) C hP hD hS hFc hps hnd rfl
  refine va_calli (va_runSN (host := "UsherRows") ⟨hx, hb, hml, hown, hts⟩ (hM H.size) ⟨va_cnB ar hts (bx_good (y := y) (cd := cd) (nL := nL) (ty := ty) F.1.1) rfl hR.1 hR.2.1 (hNe _ F.2.1) (hts _ F.1.2.1) F.1.2.2 ⟨hR.2.2.1, hR.2.2.2⟩, hts _ F.2.2, trivial⟩ hpre rfl hlen hl.1 rfl (lv_room hrest) d hce) hS (fun q _ h => hFc q h) hFc (fun r u t H1 locs1 ht hvm hw hB hz hk hS1 => ?_)
  obtain ⟨hP1, hD1⟩ := hB
  rw [ht] at hP1
  obtain ⟨hP2, hD2⟩ := bx_put_ok hP hD hps (hadr u) hk hP1
  exact kk r u hw H1 locs1 ls hP2 hD2 hS1 hl
theorem bx_callSNl (C : bx_C p R s m args meth c b nL own ty E A ce sl) {y : MethodName} {cd : ByteArray} {nc ar i : Nat} {tyc : Option FieldType} {rm : Room} {σ : Type} {wf : σ → va_W} {u0 : σ} {K : Int64 → σ → Prop} {As st : List Value} (n : Nat) (F : bx_FN own i y cd nc tyc ar) (hM : bx_Ml l E y cd nc tyc rm As wf u0 K) (d : decode b pc = .ok (.invokestatic i, 3)) (hR : rm.cells = 0 ∧ rm.slots = 0 ∧ rm.frames + 1 ≤ R.frames ∧ 8 + (nc + 11) + rm.locals ≤ R.locals) (ps : List Nat) (hps : ps.map (fun i => ws[i]?) = (wf u0).map some) (hnd : va_nd ps = true) (hadr : ∀ u : σ, (wf u).map (fun q => q.1) = (wf u0).map (fun q => q.1)) (hlen : As.length = ar) (hst : st = As.reverse ++ rest) (hrest : (rest.map fun v => v.category).sum ≤ 8) (hn : pc + 3 = n) (kk : ∀ (r : Int64) (u : σ), K r u → bx_S p l e R s m args below meth c nL E A Q ce sl n lv (.long r :: rest) (bx_put ws ps (wf u))) : bx_S p l e R s m args below meth c nL E A Q ce sl pc lv st ws := by
  subst hn
  subst hst
  intro H locs ls hP hD hS hl
  obtain ⟨hx, hb, hml, hown, hts, hK, hNe, hr, hlk, hA, hce, hstr⟩ := id C
  have hFc := va_free (wc := wf u0) hD hS hA ps hps
  have hpre := bx_pre (As := As) C hP hD hS hFc hps hnd rfl
  refine va_calll (va_runSN (host := "UsherRows") ⟨hx, hb, hml, hown, hts⟩ (hM H.size) ⟨va_cnB ar hts (bx_good (y := y) (cd := cd) (nL := nL) (ty := ty) F.1.1) rfl hR.1 hR.2.1 (hNe _ F.2.1) (hts _ F.1.2.1) F.1.2.2 ⟨hR.2.2.1, hR.2.2.2⟩, hts _ F.2.2, trivial⟩ hpre rfl hlen hl.1 rfl (lv_room hrest) d hce) hS (fun q _ h => hFc q h) hFc (fun r u t H1 locs1 ht hvm hw hB hz hk hS1 => ?_)
  obtain ⟨hP1, hD1⟩ := hB
  rw [ht] at hP1
  obtain ⟨hP2, hD2⟩ := bx_put_ok hP hD hps (hadr u) hk hP1
  exact kk r u hw H1 locs1 ls hP2 hD2 hS1 hl
theorem bx_callSNv (C : bx_C p R s m args meth c b nL own ty E A ce sl) {y : MethodName} {cd : ByteArray} {nc ar i : Nat} {tyc : Option FieldType} {rm : Room} {σ : Type} {wf : σ → va_W} {u0 : σ} {K : σ → Prop} {As st : List Value} (n : Nat) (F : bx_FN own i y cd nc tyc ar) (hM : bx_Mv l E y cd nc tyc rm As wf u0 K) (d : decode b pc = .ok (.invokestatic i, 3)) (hR : rm.cells = 0 ∧ rm.slots = 0 ∧ rm.frames + 1 ≤ R.frames ∧ 8 + (nc + 11) + rm.locals ≤ R.locals) (ps : List Nat) (hps : ps.map (fun i => ws[i]?) = (wf u0).map some) (hnd : va_nd ps = true) (hadr : ∀ u : σ, (wf u).map (fun q => q.1) = (wf u0).map (fun q => q.1)) (hlen : As.length = ar) (hst : st = As.reverse ++ rest) (hrest : (rest.map fun v => v.category).sum ≤ 8) (hn : pc + 3 = n) (kk : ∀ u : σ, K u → bx_S p l e R s m args below meth c nL E A Q ce sl n lv rest (bx_put ws ps (wf u))) : bx_S p l e R s m args below meth c nL E A Q ce sl pc lv st ws := by
  subst hn
  subst hst
  intro H locs ls hP hD hS hl
  obtain ⟨hx, hb, hml, hown, hts, hK, hNe, hr, hlk, hA, hce, hstr⟩ := id C
  have hFc := va_free (wc := wf u0) hD hS hA ps hps
  have hpre := bx_pre (As := As) C hP hD hS hFc hps hnd rfl
  refine va_callv (va_runSN (host := "UsherRows") ⟨hx, hb, hml, hown, hts⟩ (hM H.size) ⟨va_cnB ar hts (bx_good (y := y) (cd := cd) (nL := nL) (ty := ty) F.1.1) rfl hR.1 hR.2.1 (hNe _ F.2.1) (hts _ F.1.2.1) F.1.2.2 ⟨hR.2.2.1, hR.2.2.2⟩, hts _ F.2.2, trivial⟩ hpre rfl hlen hl.1 rfl (lv_room hrest) d hce) hS (fun q _ h => hFc q h) hFc (fun u t H1 locs1 ht hvm hw hB hz hk hS1 => ?_)
  obtain ⟨hP1, hD1⟩ := hB
  rw [ht] at hP1
  obtain ⟨hP2, hD2⟩ := bx_put_ok hP hD hps (hadr u) hk hP1
  exact kk u hw H1 locs1 ls hP2 hD2 hS1 hl
end BX
section BM
variable {l : Launch} {E : bx_E} {y : MethodName} {cd : ByteArray} {nL : Nat} {ty : Option FieldType} {rm : Room} {av : List Value} {σ : Type} {wf : σ → va_W} {u0 : σ}
theorem bx_meti {K : Int32 → σ → Prop} (hy : plainName y.cls = true) (hlv : (lg_sl av).length ≤ nL) (body : ∀ (p : Program) (e : Env) (s : State) (m : MethodId) (below : List Frame) (meth : Method) (c : Code), bx_C p rm s m av.toArray meth c cd nL y.cls ty E (va_A (wf u0) s.heap.size) 0 0 → bx_S p l e rm s m av.toArray below meth c nL E (va_A (wf u0) s.heap.size) (MQ below (va_Qi K (fun u t => bx_B E (va_A (wf u0) s.heap.size) (wf u) t) (va_A (wf u0) s.heap.size)) av.toArray s 0 0 (va_A (wf u0) s.heap.size)) 0 0 0 (lv_args 0 av) [] (wf u0)) : bx_Mi l E y cd nL ty rm av wf u0 K := by
  intro sz
  refine Met.ofW (cc := cd) (maxL := nL) (ret := ty) hy rfl ?_
  intro p e s m args below meth c s₁ B hml hv
  obtain ⟨rfl, hsz, hP, hK, hD0, hN, hstr⟩ := hv
  have hts := atoms_spec (ws := bx_ws y cd nL ty) B.pre
  have hown : s.vm.findClass y.cls = some m.cls := findClass_of_methodNamed B.named
  subst hsz
  have hD := hD0.self (sz := s.heap.size)
  have C : bx_C p rm s m av.toArray meth c cd nL y.cls ty E (va_A (wf u0) s.heap.size) 0 0 := ⟨B.exec, B.bytes, hml, hown, fun w hw => hts w (List.mem_cons_of_mem _ hw), hK, hN, B.returns, B.notSynchronized, fun q h => Or.inr h, ⟨Nat.zero_le _, Nat.zero_le _⟩, hstr⟩
  rw [lg_entry_eq]
  exact body p e s m below meth c C s.heap [] _ hP hD va_S.rf (lv_entry av hlv)
theorem bx_metl {K : Int64 → σ → Prop} (hy : plainName y.cls = true) (hlv : (lg_sl av).length ≤ nL) (body : ∀ (p : Program) (e : Env) (s : State) (m : MethodId) (below : List Frame) (meth : Method) (c : Code), bx_C p rm s m av.toArray meth c cd nL y.cls ty E (va_A (wf u0) s.heap.size) 0 0 → bx_S p l e rm s m av.toArray below meth c nL E (va_A (wf u0) s.heap.size) (MQ below (va_Ql K (fun u t => bx_B E (va_A (wf u0) s.heap.size) (wf u) t) (va_A (wf u0) s.heap.size)) av.toArray s 0 0 (va_A (wf u0) s.heap.size)) 0 0 0 (lv_args 0 av) [] (wf u0)) : bx_Ml l E y cd nL ty rm av wf u0 K := by
  intro sz
  refine Met.ofW (cc := cd) (maxL := nL) (ret := ty) hy rfl ?_
  intro p e s m args below meth c s₁ B hml hv
  obtain ⟨rfl, hsz, hP, hK, hD0, hN, hstr⟩ := hv
  have hts := atoms_spec (ws := bx_ws y cd nL ty) B.pre
  have hown : s.vm.findClass y.cls = some m.cls := findClass_of_methodNamed B.named
  subst hsz
  have hD := hD0.self (sz := s.heap.size)
  have C : bx_C p rm s m av.toArray meth c cd nL y.cls ty E (va_A (wf u0) s.heap.size) 0 0 := ⟨B.exec, B.bytes, hml, hown, fun w hw => hts w (List.mem_cons_of_mem _ hw), hK, hN, B.returns, B.notSynchronized, fun q h => Or.inr h, ⟨Nat.zero_le _, Nat.zero_le _⟩, hstr⟩
  rw [lg_entry_eq]
  exact body p e s m below meth c C s.heap [] _ hP hD va_S.rf (lv_entry av hlv)
theorem bx_metv {K : σ → Prop} (hy : plainName y.cls = true) (hlv : (lg_sl av).length ≤ nL) (body : ∀ (p : Program) (e : Env) (s : State) (m : MethodId) (below : List Frame) (meth : Method) (c : Code), bx_C p rm s m av.toArray meth c cd nL y.cls ty E (va_A (wf u0) s.heap.size) 0 0 → bx_S p l e rm s m av.toArray below meth c nL E (va_A (wf u0) s.heap.size) (MQ below (va_Qv K (fun u t => bx_B E (va_A (wf u0) s.heap.size) (wf u) t) (va_A (wf u0) s.heap.size)) av.toArray s 0 0 (va_A (wf u0) s.heap.size)) 0 0 0 (lv_args 0 av) [] (wf u0)) : bx_Mv l E y cd nL ty rm av wf u0 K := by
  intro sz
  refine Met.ofW (cc := cd) (maxL := nL) (ret := ty) hy rfl ?_
  intro p e s m args below meth c s₁ B hml hv
  obtain ⟨rfl, hsz, hP, hK, hD0, hN, hstr⟩ := hv
  have hts := atoms_spec (ws := bx_ws y cd nL ty) B.pre
  have hown : s.vm.findClass y.cls = some m.cls := findClass_of_methodNamed B.named
  subst hsz
  have hD := hD0.self (sz := s.heap.size)
  have C : bx_C p rm s m av.toArray meth c cd nL y.cls ty E (va_A (wf u0) s.heap.size) 0 0 := ⟨B.exec, B.bytes, hml, hown, fun w hw => hts w (List.mem_cons_of_mem _ hw), hK, hN, B.returns, B.notSynchronized, fun q h => Or.inr h, ⟨Nat.zero_le _, Nat.zero_le _⟩, hstr⟩
  rw [lg_entry_eq]
  exact body p e s m below meth c C s.heap [] _ hP hD va_S.rf (lv_entry av hlv)
end BM
end
section
def rmD (d : Nat) : Room := { frames := d, cells := 0, slots := 0, locals := 32 * d }
theorem bx_ne {x k : Int32} {z : Int} (h : ¬ x = k) (hz : k.toInt = z) : x.toInt ≠ z := fun e => h (Int32.toInt_inj.mp (by rw [e, hz]))
theorem bx_put_same : ∀ (ps : List Nat) (ws wc : va_W), ps.map (fun i => ws[i]?) = wc.map some → bx_put ws ps wc = ws
  | [], ws, wc, _ => by cases wc <;> rfl
  | p :: ps, ws, [], h => by simp at h
  | p :: ps, ws, x :: xs, h => by
    simp only [List.map_cons, List.cons.injEq] at h
    have e : ws.set p x = ws := by
      obtain ⟨hl, hx⟩ := List.getElem?_eq_some_iff.mp h.1
      rw [← hx]
      exact List.set_getElem_self hl
    show bx_put (ws.set p x) ps xs = ws
    rw [e]
    exact bx_put_same ps ws xs h.2
theorem bx_put_app : ∀ {ps1 ps2 : List Nat} {w1 w2 ws : va_W}, ps1.length = w1.length → bx_put ws (ps1 ++ ps2) (w1 ++ w2) = bx_put (bx_put ws ps1 w1) ps2 w2
  | [], _, [], _, _, _ => rfl
  | [], _, _ :: _, _, _, h => by simp at h
  | _ :: _, _, [], _, _, h => by simp at h
  | p :: ps1, ps2, x :: w1, w2, ws, h => bx_put_app (ps1 := ps1) (ps2 := ps2) (w1 := w1) (w2 := w2) (ws := ws.set p x) (by simpa using h)
theorem bx_put_mid {N n : Nat} {l1 l3 : va_W} : ∀ {ps : List Nat} {l2 w1 : va_W}, l1.length = N → l2.length = n → (∀ p ∈ ps, p < n) → bx_put (l1 ++ (l2 ++ l3)) (ps.map (fun p => N + p)) w1 = l1 ++ (bx_put l2 ps w1 ++ l3)
  | [], l2, w1, _, _, _ => by cases w1 <;> rfl
  | p :: ps, l2, [], _, _, _ => rfl
  | p :: ps, l2, x :: w1, h1, h2, h3 => by
    have hp : p < l2.length := by rw [h2]; exact h3 p List.mem_cons_self
    have e : (l1 ++ (l2 ++ l3)).set (N + p) x = l1 ++ (l2.set p x ++ l3) := by
      subst h1
      rw [List.set_append_right _ _ (Nat.le_add_right _ _), Nat.add_sub_cancel_left, List.set_append_left _ _ hp]
    show bx_put ((l1 ++ (l2 ++ l3)).set (N + p) x) (ps.map (fun p => N + p)) w1 = l1 ++ (bx_put (l2.set p x) ps w1 ++ l3)
    rw [e]
    exact bx_put_mid h1 (by rw [List.length_set]; exact h2) (fun q hq => h3 q (List.mem_cons_of_mem _ hq))
theorem bx_map_mid {N n : Nat} {l1 l2 l3 : va_W} : ∀ {ps : List Nat}, l1.length = N → l2.length = n → (∀ p ∈ ps, p < n) → (ps.map (fun p => N + p)).map (fun i => (l1 ++ (l2 ++ l3))[i]?) = ps.map (fun i => l2[i]?)
  | [], _, _, _ => rfl
  | p :: ps, h1, h2, h3 => by
    have hp : p < l2.length := by rw [h2]; exact h3 p List.mem_cons_self
    simp only [List.map_cons]
    refine congr (congrArg _ ?_) (bx_map_mid h1 h2 (fun q hq => h3 q (List.mem_cons_of_mem _ hq)))
    subst h1
    rw [List.getElem?_append_right (Nat.le_add_right _ _), Nat.add_sub_cancel_left, List.getElem?_append_left hp]
theorem bx_map_app {f : Nat → Option (Nat × va_E)} {p1 p2 : List Nat} {w1 w2 : va_W} (h1 : p1.map f = w1.map some) (h2 : p2.map f = w2.map some) : (p1 ++ p2).map f = (w1 ++ w2).map some := by
  rw [List.map_append, List.map_append, h1, h2]
theorem bx_map_all (ws : va_W) {ps : List Nat} (h : ps = List.range ws.length) : ps.map (fun i => ws[i]?) = ws.map some := by
  subst h
  apply List.ext_getElem?
  intro i
  rw [List.getElem?_map, List.getElem?_map]
  by_cases hi : i < ws.length
  · simp [hi]
  · simp [hi]
theorem bx_put_rng : ∀ (w1 w0 ws : va_W), ws.length = w1.length → bx_put (w0 ++ ws) ((List.range w1.length).map (fun i => w0.length + i)) w1 = w0 ++ w1
  | [], w0, ws, h => by
    have : ws = [] := List.length_eq_zero_iff.mp h
    subst this; rfl
  | x :: w1, w0, [], h => by simp at h
  | x :: w1, w0, y :: ws, h => by
    have e1 : (List.range (x :: w1).length).map (fun i => w0.length + i) = w0.length :: (List.range w1.length).map (fun i => (w0 ++ [x]).length + i) := by
      rw [List.length_cons, List.range_succ_eq_map, List.map_cons, List.map_map]
      refine congr (congrArg _ (Nat.add_zero _)) (List.map_congr_left (fun i _ => ?_))
      simp only [Function.comp, List.length_append, List.length_cons, List.length_nil]
      omega
    rw [e1]
    show bx_put ((w0 ++ y :: ws).set w0.length x) _ w1 = _
    rw [show (w0 ++ y :: ws).set w0.length x = (w0 ++ [x]) ++ ws by simp]
    rw [bx_put_rng w1 (w0 ++ [x]) ws (by simpa using h)]
    simp
theorem bx_put_all (ws w1 : va_W) {ps : List Nat} (h : ps = List.range w1.length) (hl : ws.length = w1.length) : bx_put ws ps w1 = w1 := by
  subst h
  have := bx_put_rng w1 [] ws hl
  simpa using this
/-- a copy's bounds -/
def bx_cin (sp dp n : Int32) (n0 n1 : Nat) : Prop := ¬ sp < 0 ∧ ¬ dp < 0 ∧ ¬ n < 0 ∧ sp.toNatClampNeg + n.toNatClampNeg ≤ n0 ∧ dp.toNatClampNeg + n.toNatClampNeg ≤ n1
theorem ac_1 : Cond.native arraycopyName ∈ wsAll := wsAll_mem (by decide +kernel) (by decide +kernel)
theorem ac_2 : Cond.static arraycopyName ∈ wsAll := wsAll_mem (by decide +kernel) (by decide +kernel)
theorem ac_3 : Cond.initialized "java/lang/System" ∈ wsAll := wsAll_mem (by decide +kernel) (by decide +kernel)

theorem inX0 : ∀ w ∈ u_ws RX0 TX0 12, w ∈ wsAll := by decide +kernel
theorem inX3 : ∀ w ∈ u_ws RX3 TX3 2, w ∈ wsAll := by decide +kernel
theorem inX4 : ∀ w ∈ u_ws RX4 TX4 4, w ∈ wsAll := by decide +kernel
theorem inX5 : ∀ w ∈ u_ws RX5 TX5 2, w ∈ wsAll := by decide +kernel
theorem inX6 : ∀ w ∈ u_ws RX6 TX6 7, w ∈ wsAll := by decide +kernel
theorem inX7 : ∀ w ∈ u_ws RX7 TX7 12, w ∈ wsAll := by decide +kernel
theorem inX8 : ∀ w ∈ u_ws RX8 TX8 16, w ∈ wsAll := by decide +kernel
section BX2
variable {p : Program} {l : Launch} {e : Env} {R : Room} {s : State} {m : MethodId} {args : Array Value} {below : List Frame} {meth : Method} {c : Code} {nL : Nat} {E : bx_E} {A : Nat → Prop} {Q : State → Prop} {ce sl : Nat} {b : ByteArray} {own : String} {ty : Option FieldType}
variable {pc : Nat} {lv : List (Nat × Value)} {rest : List Value} {ws : va_W}
theorem bx_iald_k (C : bx_C p R s m args meth c b nL own ty E A ce sl) {a N : Nat} {f : Nat → Int32} {i : Int32} (n q0 k0 : Nat) (d : decode b pc = .ok (.iaload, 1)) (he : ws[q0]? = some (a, .inl (E.2 0, N, .inl f))) (hi : vp_in i N) (hk : i.toNatClampNeg = k0) (hn : pc + 1 = n) (k : bx_S p l e R s m args below meth c nL E A Q ce sl n lv (.int (f k0) :: rest) ws) : bx_S p l e R s m args below meth c nL E A Q ce sl pc lv (.int i :: .ref a :: rest) ws := by
  subst hk
  exact bx_iald C n q0 d he hi hn k
theorem bx_zald_k (C : bx_C p R s m args meth c b nL own ty E A ce sl) {a N : Nat} {f : Nat → Int32} {i : Int32} (n q0 k0 : Nat) (d : decode b pc = .ok (.baload, 1)) (he : ws[q0]? = some (a, .inl (E.2 1, N, .inl f))) (hi : vp_in i N) (hk : i.toNatClampNeg = k0) (hn : pc + 1 = n) (k : bx_S p l e R s m args below meth c nL E A Q ce sl n lv (.int (f k0) :: rest) ws) : bx_S p l e R s m args below meth c nL E A Q ce sl pc lv (.int i :: .ref a :: rest) ws := by
  subst hk
  exact bx_zald C n q0 d he hi hn k
theorem bx_bald_k (C : bx_C p R s m args meth c b nL own ty E A ce sl) {a N : Nat} {f : Nat → Int32} {i : Int32} (n q0 k0 : Nat) (d : decode b pc = .ok (.baload, 1)) (he : ws[q0]? = some (a, .inl (E.2 2, N, .inl f))) (hi : vp_in i N) (hk : i.toNatClampNeg = k0) (hn : pc + 1 = n) (k : bx_S p l e R s m args below meth c nL E A Q ce sl n lv (.int (f k0) :: rest) ws) : bx_S p l e R s m args below meth c nL E A Q ce sl pc lv (.int i :: .ref a :: rest) ws := by
  subst hk
  exact bx_bald C n q0 d he hi hn k
theorem bx_iast_k (C : bx_C p R s m args meth c b nL own ty E A ce sl) {a N : Nat} {f : Nat → Int32} {i x : Int32} (n q0 k0 : Nat) (ws' : va_W) (d : decode b pc = .ok (.iastore, 1)) (he : ws[q0]? = some (a, .inl (E.2 0, N, .inl f))) (hi : vp_in i N) (hk : i.toNatClampNeg = k0) (hw : ws.set q0 (a, .inl (E.2 0, N, .inl (upd f k0 x))) = ws') (hn : pc + 1 = n) (k : bx_S p l e R s m args below meth c nL E A Q ce sl n lv rest ws') : bx_S p l e R s m args below meth c nL E A Q ce sl pc lv (.int x :: .int i :: .ref a :: rest) ws := by
  subst hk
  exact bx_iast C n q0 ws' d he hi hw hn k
theorem bx_zast_k (C : bx_C p R s m args meth c b nL own ty E A ce sl) {a N : Nat} {f : Nat → Int32} {i x : Int32} (n q0 k0 : Nat) (ws' : va_W) (d : decode b pc = .ok (.bastore, 1)) (he : ws[q0]? = some (a, .inl (E.2 1, N, .inl f))) (hi : vp_in i N) (hk : i.toNatClampNeg = k0) (hw : ws.set q0 (a, .inl (E.2 1, N, .inl (upd f k0 (vp_nar .boolean x)))) = ws') (hn : pc + 1 = n) (k : bx_S p l e R s m args below meth c nL E A Q ce sl n lv rest ws') : bx_S p l e R s m args below meth c nL E A Q ce sl pc lv (.int x :: .int i :: .ref a :: rest) ws := by
  subst hk
  exact bx_zast C n q0 ws' d he hi hw hn k
theorem bx_bast_k (C : bx_C p R s m args meth c b nL own ty E A ce sl) {a N : Nat} {f : Nat → Int32} {i x : Int32} (n q0 k0 : Nat) (ws' : va_W) (d : decode b pc = .ok (.bastore, 1)) (he : ws[q0]? = some (a, .inl (E.2 2, N, .inl f))) (hi : vp_in i N) (hk : i.toNatClampNeg = k0) (hw : ws.set q0 (a, .inl (E.2 2, N, .inl (upd f k0 (vp_nar .byte x)))) = ws') (hn : pc + 1 = n) (k : bx_S p l e R s m args below meth c nL E A Q ce sl n lv rest ws') : bx_S p l e R s m args below meth c nL E A Q ce sl pc lv (.int x :: .int i :: .ref a :: rest) ws := by
  subst hk
  exact bx_bast C n q0 ws' d he hi hw hn k
theorem bx_copyi (C : bx_C p R s m args meth c b nL own ty E A ce sl) {a0 a1 i n0 n1 : Nat} {f g : Nat → Int32} {sp dp len : Int32} (n q0 q1 : Nat) (ws' : va_W) (hl : Cond.methodLink own i arraycopyName ∈ wsAll) (d : decode b pc = .ok (.invokestatic i, 3)) (hR : 1 ≤ R.frames ∧ 32 ≤ R.locals) (he0 : ws[q0]? = some (a0, .inl (E.2 0, n0, .inl f))) (he1 : ws[q1]? = some (a1, .inl (E.2 0, n1, .inl g))) (hc : bx_cin sp dp len n0 n1) (hw : ws.set q1 (a1, .inl (E.2 0, n1, .inl (va_cpy f g sp.toNatClampNeg dp.toNatClampNeg len.toNatClampNeg))) = ws') (hn : pc + 3 = n) (k : bx_S p l e R s m args below meth c nL E A Q ce sl n lv [] ws') : bx_S p l e R s m args below meth c nL E A Q ce sl pc lv [.int len, .int dp, .ref a1, .int sp, .ref a0] ws := by
  subst hn
  subst hw
  have hts := C.2.2.2.2.1
  exact fun H locs ls hP hD hS hlv => va_copyi C.1 C.2.1 (C.2.2.1.trans hlv.1.symm) C.2.2.2.1 (hts _ hl) (hts _ ac_1) (hts _ ac_2) (hts _ ac_3) C.2.2.2.2.2.1 hP hD hS q0 q1 0 0 he0 he1 rfl rfl rfl hc.1 hc.2.1 hc.2.2.1 hc.2.2.2.1 hc.2.2.2.2 (fun _ _ => rfl) hR.1 (Nat.le_trans (by decide) hR.2) d (fun H1 locs1 hP hD hS => k H1 locs1 ls hP hD hS hlv)
theorem bx_pVi (C : bx_C p R s m args meth c b nL own ty E A ce sl) {y : MethodName} {cd : ByteArray} {nc ar i : Nat} {tyc : Option FieldType} {rm : Room} {wc : va_W} {K : Int32 → Prop} {As st : List Value} {K2 : String} {T : u_T} {N ci a0 : Nat} {fs : List Value} (q0 : Nat) (hq : ws[q0]? = some (a0, .inr (ci, fs))) (hcl : vwCl[ci]? = some (K2, T, N)) (n : Nat) (F : bx_FV own i K2 y cd nc tyc ar) (hM : bx_Mi l E y cd nc tyc rm (.ref a0 :: As) (fun (_ : Unit) => wc) () (fun r (_ : Unit) => K r)) (d : decode b pc = .ok (.invokevirtual i, 3)) (hR : rm.cells = 0 ∧ rm.slots = 0 ∧ rm.frames + 1 ≤ R.frames ∧ 8 + (nc + 11) + rm.locals ≤ R.locals) (ps : List Nat) (hps : ps.map (fun i => ws[i]?) = wc.map some) (hnd : va_nd ps = true) (hlen : As.length = ar) (hst : st = As.reverse ++ .ref a0 :: rest) (hrest : (rest.map fun v => v.category).sum ≤ 8) (hn : pc + 3 = n) (kk : ∀ r : Int32, K r → bx_S p l e R s m args below meth c nL E A Q ce sl n lv (.int r :: rest) ws) : bx_S p l e R s m args below meth c nL E A Q ce sl pc lv st ws :=
  bx_callVi C q0 hq hcl n F hM d hR ps hps hnd (fun _ => rfl) hlen hst hrest hn (fun r _ h => by rw [bx_put_same ps ws wc hps]; exact kk r h)
theorem bx_qVi (C : bx_C p R s m args meth c b nL own ty E A ce sl) {y : MethodName} {cd : ByteArray} {nc ar i : Nat} {tyc : Option FieldType} {rm : Room} {σ : Type} {wf : σ → va_W} {u0 : σ} {K : Int32 → σ → Prop} {As st : List Value} {K2 : String} {T : u_T} {N ci a0 : Nat} {fs : List Value} (q0 : Nat) (hq : ws[q0]? = some (a0, .inr (ci, fs))) (hcl : vwCl[ci]? = some (K2, T, N)) (n : Nat) (F : bx_FV own i K2 y cd nc tyc ar) (hM : bx_Mi l E y cd nc tyc rm (.ref a0 :: As) wf u0 K) (d : decode b pc = .ok (.invokevirtual i, 3)) (hR : rm.cells = 0 ∧ rm.slots = 0 ∧ rm.frames + 1 ≤ R.frames ∧ 8 + (nc + 11) + rm.locals ≤ R.locals) (ps : List Nat) (wn : σ → va_W) (hps : ps.map (fun i => ws[i]?) = (wf u0).map some) (hnd : va_nd ps = true) (hadr : ∀ u : σ, (wf u).map (fun q => q.1) = (wf u0).map (fun q => q.1)) (hwn : ∀ u : σ, bx_put ws ps (wf u) = wn u) (hlen : As.length = ar) (hst : st = As.reverse ++ .ref a0 :: rest) (hrest : (rest.map fun v => v.category).sum ≤ 8) (hn : pc + 3 = n) (kk : ∀ (r : Int32) (u : σ), K r u → bx_S p l e R s m args below meth c nL E A Q ce sl n lv (.int r :: rest) (wn u)) : bx_S p l e R s m args below meth c nL E A Q ce sl pc lv st ws :=
  bx_callVi C q0 hq hcl n F hM d hR ps hps hnd hadr hlen hst hrest hn (fun r u h => by rw [hwn u]; exact kk r u h)
theorem bx_pVl (C : bx_C p R s m args meth c b nL own ty E A ce sl) {y : MethodName} {cd : ByteArray} {nc ar i : Nat} {tyc : Option FieldType} {rm : Room} {wc : va_W} {K : Int64 → Prop} {As st : List Value} {K2 : String} {T : u_T} {N ci a0 : Nat} {fs : List Value} (q0 : Nat) (hq : ws[q0]? = some (a0, .inr (ci, fs))) (hcl : vwCl[ci]? = some (K2, T, N)) (n : Nat) (F : bx_FV own i K2 y cd nc tyc ar) (hM : bx_Ml l E y cd nc tyc rm (.ref a0 :: As) (fun (_ : Unit) => wc) () (fun r (_ : Unit) => K r)) (d : decode b pc = .ok (.invokevirtual i, 3)) (hR : rm.cells = 0 ∧ rm.slots = 0 ∧ rm.frames + 1 ≤ R.frames ∧ 8 + (nc + 11) + rm.locals ≤ R.locals) (ps : List Nat) (hps : ps.map (fun i => ws[i]?) = wc.map some) (hnd : va_nd ps = true) (hlen : As.length = ar) (hst : st = As.reverse ++ .ref a0 :: rest) (hrest : (rest.map fun v => v.category).sum ≤ 8) (hn : pc + 3 = n) (kk : ∀ r : Int64, K r → bx_S p l e R s m args below meth c nL E A Q ce sl n lv (.long r :: rest) ws) : bx_S p l e R s m args below meth c nL E A Q ce sl pc lv st ws :=
  bx_callVl C q0 hq hcl n F hM d hR ps hps hnd (fun _ => rfl) hlen hst hrest hn (fun r _ h => by rw [bx_put_same ps ws wc hps]; exact kk r h)
theorem bx_qVl (C : bx_C p R s m args meth c b nL own ty E A ce sl) {y : MethodName} {cd : ByteArray} {nc ar i : Nat} {tyc : Option FieldType} {rm : Room} {σ : Type} {wf : σ → va_W} {u0 : σ} {K : Int64 → σ → Prop} {As st : List Value} {K2 : String} {T : u_T} {N ci a0 : Nat} {fs : List Value} (q0 : Nat) (hq : ws[q0]? = some (a0, .inr (ci, fs))) (hcl : vwCl[ci]? = some (K2, T, N)) (n : Nat) (F : bx_FV own i K2 y cd nc tyc ar) (hM : bx_Ml l E y cd nc tyc rm (.ref a0 :: As) wf u0 K) (d : decode b pc = .ok (.invokevirtual i, 3)) (hR : rm.cells = 0 ∧ rm.slots = 0 ∧ rm.frames + 1 ≤ R.frames ∧ 8 + (nc + 11) + rm.locals ≤ R.locals) (ps : List Nat) (wn : σ → va_W) (hps : ps.map (fun i => ws[i]?) = (wf u0).map some) (hnd : va_nd ps = true) (hadr : ∀ u : σ, (wf u).map (fun q => q.1) = (wf u0).map (fun q => q.1)) (hwn : ∀ u : σ, bx_put ws ps (wf u) = wn u) (hlen : As.length = ar) (hst : st = As.reverse ++ .ref a0 :: rest) (hrest : (rest.map fun v => v.category).sum ≤ 8) (hn : pc + 3 = n) (kk : ∀ (r : Int64) (u : σ), K r u → bx_S p l e R s m args below meth c nL E A Q ce sl n lv (.long r :: rest) (wn u)) : bx_S p l e R s m args below meth c nL E A Q ce sl pc lv st ws :=
  bx_callVl C q0 hq hcl n F hM d hR ps hps hnd hadr hlen hst hrest hn (fun r u h => by rw [hwn u]; exact kk r u h)
theorem bx_qVv (C : bx_C p R s m args meth c b nL own ty E A ce sl) {y : MethodName} {cd : ByteArray} {nc ar i : Nat} {tyc : Option FieldType} {rm : Room} {σ : Type} {wf : σ → va_W} {u0 : σ} {K : σ → Prop} {As st : List Value} {K2 : String} {T : u_T} {N ci a0 : Nat} {fs : List Value} (q0 : Nat) (hq : ws[q0]? = some (a0, .inr (ci, fs))) (hcl : vwCl[ci]? = some (K2, T, N)) (n : Nat) (F : bx_FV own i K2 y cd nc tyc ar) (hM : bx_Mv l E y cd nc tyc rm (.ref a0 :: As) wf u0 K) (d : decode b pc = .ok (.invokevirtual i, 3)) (hR : rm.cells = 0 ∧ rm.slots = 0 ∧ rm.frames + 1 ≤ R.frames ∧ 8 + (nc + 11) + rm.locals ≤ R.locals) (ps : List Nat) (wn : σ → va_W) (hps : ps.map (fun i => ws[i]?) = (wf u0).map some) (hnd : va_nd ps = true) (hadr : ∀ u : σ, (wf u).map (fun q => q.1) = (wf u0).map (fun q => q.1)) (hwn : ∀ u : σ, bx_put ws ps (wf u) = wn u) (hlen : As.length = ar) (hst : st = As.reverse ++ .ref a0 :: rest) (hrest : (rest.map fun v => v.category).sum ≤ 8) (hn : pc + 3 = n) (kk : ∀ u : σ, K u → bx_S p l e R s m args below meth c nL E A Q ce sl n lv rest (wn u)) : bx_S p l e R s m args below meth c nL E A Q ce sl pc lv st ws :=
  bx_callVv C q0 hq hcl n F hM d hR ps hps hnd hadr hlen hst hrest hn (fun u h => by rw [hwn u]; exact kk u h)
theorem bx_pSi (C : bx_C p R s m args meth c b nL own ty E A ce sl) {y : MethodName} {cd : ByteArray} {nc ar i : Nat} {tyc : Option FieldType} {rm : Room} {wc : va_W} {K : Int32 → Prop} {As st : List Value} (n : Nat) (F : bx_FS own i y cd nc tyc ar) (hM : bx_Mi l E y cd nc tyc rm As (fun (_ : Unit) => wc) () (fun r (_ : Unit) => K r)) (d : decode b pc = .ok (.invokestatic i, 3)) (hR : rm.cells = 0 ∧ rm.slots = 0 ∧ rm.frames + 1 ≤ R.frames ∧ 8 + (nc + 11) + rm.locals ≤ R.locals) (ps : List Nat) (hps : ps.map (fun i => ws[i]?) = wc.map some) (hnd : va_nd ps = true) (hlen : As.length = ar) (hst : st = As.reverse ++ rest) (hrest : (rest.map fun v => v.category).sum ≤ 8) (hn : pc + 3 = n) (kk : ∀ r : Int32, K r → bx_S p l e R s m args below meth c nL E A Q ce sl n lv (.int r :: rest) ws) : bx_S p l e R s m args below meth c nL E A Q ce sl pc lv st ws :=
  bx_callSi C n F hM d hR ps hps hnd (fun _ => rfl) hlen hst hrest hn (fun r _ h => by rw [bx_put_same ps ws wc hps]; exact kk r h)
theorem bx_qSi (C : bx_C p R s m args meth c b nL own ty E A ce sl) {y : MethodName} {cd : ByteArray} {nc ar i : Nat} {tyc : Option FieldType} {rm : Room} {σ : Type} {wf : σ → va_W} {u0 : σ} {K : Int32 → σ → Prop} {As st : List Value} (n : Nat) (F : bx_FS own i y cd nc tyc ar) (hM : bx_Mi l E y cd nc tyc rm As wf u0 K) (d : decode b pc = .ok (.invokestatic i, 3)) (hR : rm.cells = 0 ∧ rm.slots = 0 ∧ rm.frames + 1 ≤ R.frames ∧ 8 + (nc + 11) + rm.locals ≤ R.locals) (ps : List Nat) (wn : σ → va_W) (hps : ps.map (fun i => ws[i]?) = (wf u0).map some) (hnd : va_nd ps = true) (hadr : ∀ u : σ, (wf u).map (fun q => q.1) = (wf u0).map (fun q => q.1)) (hwn : ∀ u : σ, bx_put ws ps (wf u) = wn u) (hlen : As.length = ar) (hst : st = As.reverse ++ rest) (hrest : (rest.map fun v => v.category).sum ≤ 8) (hn : pc + 3 = n) (kk : ∀ (r : Int32) (u : σ), K r u → bx_S p l e R s m args below meth c nL E A Q ce sl n lv (.int r :: rest) (wn u)) : bx_S p l e R s m args below meth c nL E A Q ce sl pc lv st ws :=
  bx_callSi C n F hM d hR ps hps hnd hadr hlen hst hrest hn (fun r u h => by rw [hwn u]; exact kk r u h)
theorem bx_pSl (C : bx_C p R s m args meth c b nL own ty E A ce sl) {y : MethodName} {cd : ByteArray} {nc ar i : Nat} {tyc : Option FieldType} {rm : Room} {wc : va_W} {K : Int64 → Prop} {As st : List Value} (n : Nat) (F : bx_FS own i y cd nc tyc ar) (hM : bx_Ml l E y cd nc tyc rm As (fun (_ : Unit) => wc) () (fun r (_ : Unit) => K r)) (d : decode b pc = .ok (.invokestatic i, 3)) (hR : rm.cells = 0 ∧ rm.slots = 0 ∧ rm.frames + 1 ≤ R.frames ∧ 8 + (nc + 11) + rm.locals ≤ R.locals) (ps : List Nat) (hps : ps.map (fun i => ws[i]?) = wc.map some) (hnd : va_nd ps = true) (hlen : As.length = ar) (hst : st = As.reverse ++ rest) (hrest : (rest.map fun v => v.category).sum ≤ 8) (hn : pc + 3 = n) (kk : ∀ r : Int64, K r → bx_S p l e R s m args below meth c nL E A Q ce sl n lv (.long r :: rest) ws) : bx_S p l e R s m args below meth c nL E A Q ce sl pc lv st ws :=
  bx_callSl C n F hM d hR ps hps hnd (fun _ => rfl) hlen hst hrest hn (fun r _ h => by rw [bx_put_same ps ws wc hps]; exact kk r h)
theorem bx_qSl (C : bx_C p R s m args meth c b nL own ty E A ce sl) {y : MethodName} {cd : ByteArray} {nc ar i : Nat} {tyc : Option FieldType} {rm : Room} {σ : Type} {wf : σ → va_W} {u0 : σ} {K : Int64 → σ → Prop} {As st : List Value} (n : Nat) (F : bx_FS own i y cd nc tyc ar) (hM : bx_Ml l E y cd nc tyc rm As wf u0 K) (d : decode b pc = .ok (.invokestatic i, 3)) (hR : rm.cells = 0 ∧ rm.slots = 0 ∧ rm.frames + 1 ≤ R.frames ∧ 8 + (nc + 11) + rm.locals ≤ R.locals) (ps : List Nat) (wn : σ → va_W) (hps : ps.map (fun i => ws[i]?) = (wf u0).map some) (hnd : va_nd ps = true) (hadr : ∀ u : σ, (wf u).map (fun q => q.1) = (wf u0).map (fun q => q.1)) (hwn : ∀ u : σ, bx_put ws ps (wf u) = wn u) (hlen : As.length = ar) (hst : st = As.reverse ++ rest) (hrest : (rest.map fun v => v.category).sum ≤ 8) (hn : pc + 3 = n) (kk : ∀ (r : Int64) (u : σ), K r u → bx_S p l e R s m args below meth c nL E A Q ce sl n lv (.long r :: rest) (wn u)) : bx_S p l e R s m args below meth c nL E A Q ce sl pc lv st ws :=
  bx_callSl C n F hM d hR ps hps hnd hadr hlen hst hrest hn (fun r u h => by rw [hwn u]; exact kk r u h)
theorem bx_qSv (C : bx_C p R s m args meth c b nL own ty E A ce sl) {y : MethodName} {cd : ByteArray} {nc ar i : Nat} {tyc : Option FieldType} {rm : Room} {σ : Type} {wf : σ → va_W} {u0 : σ} {K : σ → Prop} {As st : List Value} (n : Nat) (F : bx_FS own i y cd nc tyc ar) (hM : bx_Mv l E y cd nc tyc rm As wf u0 K) (d : decode b pc = .ok (.invokestatic i, 3)) (hR : rm.cells = 0 ∧ rm.slots = 0 ∧ rm.frames + 1 ≤ R.frames ∧ 8 + (nc + 11) + rm.locals ≤ R.locals) (ps : List Nat) (wn : σ → va_W) (hps : ps.map (fun i => ws[i]?) = (wf u0).map some) (hnd : va_nd ps = true) (hadr : ∀ u : σ, (wf u).map (fun q => q.1) = (wf u0).map (fun q => q.1)) (hwn : ∀ u : σ, bx_put ws ps (wf u) = wn u) (hlen : As.length = ar) (hst : st = As.reverse ++ rest) (hrest : (rest.map fun v => v.category).sum ≤ 8) (hn : pc + 3 = n) (kk : ∀ u : σ, K u → bx_S p l e R s m args below meth c nL E A Q ce sl n lv rest (wn u)) : bx_S p l e R s m args below meth c nL E A Q ce sl pc lv st ws :=
  bx_callSv C n F hM d hR ps hps hnd hadr hlen hst hrest hn (fun u h => by rw [hwn u]; exact kk u h)
theorem bx_pSNi (C : bx_C p R s m args meth c b nL own ty E A ce sl) {y : MethodName} {cd : ByteArray} {nc ar i : Nat} {tyc : Option FieldType} {rm : Room} {wc : va_W} {K : Int32 → Prop} {As st : List Value} (n : Nat) (F : bx_FN own i y cd nc tyc ar) (hM : bx_Mi l E y cd nc tyc rm As (fun (_ : Unit) => wc) () (fun r (_ : Unit) => K r)) (d : decode b pc = .ok (.invokestatic i, 3)) (hR : rm.cells = 0 ∧ rm.slots = 0 ∧ rm.frames + 1 ≤ R.frames ∧ 8 + (nc + 11) + rm.locals ≤ R.locals) (ps : List Nat) (hps : ps.map (fun i => ws[i]?) = wc.map some) (hnd : va_nd ps = true) (hlen : As.length = ar) (hst : st = As.reverse ++ rest) (hrest : (rest.map fun v => v.category).sum ≤ 8) (hn : pc + 3 = n) (kk : ∀ r : Int32, K r → bx_S p l e R s m args below meth c nL E A Q ce sl n lv (.int r :: rest) ws) : bx_S p l e R s m args below meth c nL E A Q ce sl pc lv st ws :=
  bx_callSNi C n F hM d hR ps hps hnd (fun _ => rfl) hlen hst hrest hn (fun r _ h => by rw [bx_put_same ps ws wc hps]; exact kk r h)
theorem bx_qSNi (C : bx_C p R s m args meth c b nL own ty E A ce sl) {y : MethodName} {cd : ByteArray} {nc ar i : Nat} {tyc : Option FieldType} {rm : Room} {σ : Type} {wf : σ → va_W} {u0 : σ} {K : Int32 → σ → Prop} {As st : List Value} (n : Nat) (F : bx_FN own i y cd nc tyc ar) (hM : bx_Mi l E y cd nc tyc rm As wf u0 K) (d : decode b pc = .ok (.invokestatic i, 3)) (hR : rm.cells = 0 ∧ rm.slots = 0 ∧ rm.frames + 1 ≤ R.frames ∧ 8 + (nc + 11) + rm.locals ≤ R.locals) (ps : List Nat) (wn : σ → va_W) (hps : ps.map (fun i => ws[i]?) = (wf u0).map some) (hnd : va_nd ps = true) (hadr : ∀ u : σ, (wf u).map (fun q => q.1) = (wf u0).map (fun q => q.1)) (hwn : ∀ u : σ, bx_put ws ps (wf u) = wn u) (hlen : As.length = ar) (hst : st = As.reverse ++ rest) (hrest : (rest.map fun v => v.category).sum ≤ 8) (hn : pc + 3 = n) (kk : ∀ (r : Int32) (u : σ), K r u → bx_S p l e R s m args below meth c nL E A Q ce sl n lv (.int r :: rest) (wn u)) : bx_S p l e R s m args below meth c nL E A Q ce sl pc lv st ws :=
  bx_callSNi C n F hM d hR ps hps hnd hadr hlen hst hrest hn (fun r u h => by rw [hwn u]; exact kk r u h)
theorem bx_pSNl (C : bx_C p R s m args meth c b nL own ty E A ce sl) {y : MethodName} {cd : ByteArray} {nc ar i : Nat} {tyc : Option FieldType} {rm : Room} {wc : va_W} {K : Int64 → Prop} {As st : List Value} (n : Nat) (F : bx_FN own i y cd nc tyc ar) (hM : bx_Ml l E y cd nc tyc rm As (fun (_ : Unit) => wc) () (fun r (_ : Unit) => K r)) (d : decode b pc = .ok (.invokestatic i, 3)) (hR : rm.cells = 0 ∧ rm.slots = 0 ∧ rm.frames + 1 ≤ R.frames ∧ 8 + (nc + 11) + rm.locals ≤ R.locals) (ps : List Nat) (hps : ps.map (fun i => ws[i]?) = wc.map some) (hnd : va_nd ps = true) (hlen : As.length = ar) (hst : st = As.reverse ++ rest) (hrest : (rest.map fun v => v.category).sum ≤ 8) (hn : pc + 3 = n) (kk : ∀ r : Int64, K r → bx_S p l e R s m args below meth c nL E A Q ce sl n lv (.long r :: rest) ws) : bx_S p l e R s m args below meth c nL E A Q ce sl pc lv st ws :=
  bx_callSNl C n F hM d hR ps hps hnd (fun _ => rfl) hlen hst hrest hn (fun r _ h => by rw [bx_put_same ps ws wc hps]; exact kk r h)
theorem bx_qSNl (C : bx_C p R s m args meth c b nL own ty E A ce sl) {y : MethodName} {cd : ByteArray} {nc ar i : Nat} {tyc : Option FieldType} {rm : Room} {σ : Type} {wf : σ → va_W} {u0 : σ} {K : Int64 → σ → Prop} {As st : List Value} (n : Nat) (F : bx_FN own i y cd nc tyc ar) (hM : bx_Ml l E y cd nc tyc rm As wf u0 K) (d : decode b pc = .ok (.invokestatic i, 3)) (hR : rm.cells = 0 ∧ rm.slots = 0 ∧ rm.frames + 1 ≤ R.frames ∧ 8 + (nc + 11) + rm.locals ≤ R.locals) (ps : List Nat) (wn : σ → va_W) (hps : ps.map (fun i => ws[i]?) = (wf u0).map some) (hnd : va_nd ps = true) (hadr : ∀ u : σ, (wf u).map (fun q => q.1) = (wf u0).map (fun q => q.1)) (hwn : ∀ u : σ, bx_put ws ps (wf u) = wn u) (hlen : As.length = ar) (hst : st = As.reverse ++ rest) (hrest : (rest.map fun v => v.category).sum ≤ 8) (hn : pc + 3 = n) (kk : ∀ (r : Int64) (u : σ), K r u → bx_S p l e R s m args below meth c nL E A Q ce sl n lv (.long r :: rest) (wn u)) : bx_S p l e R s m args below meth c nL E A Q ce sl pc lv st ws :=
  bx_callSNl C n F hM d hR ps hps hnd hadr hlen hst hrest hn (fun r u h => by rw [hwn u]; exact kk r u h)
theorem bx_qSNv (C : bx_C p R s m args meth c b nL own ty E A ce sl) {y : MethodName} {cd : ByteArray} {nc ar i : Nat} {tyc : Option FieldType} {rm : Room} {σ : Type} {wf : σ → va_W} {u0 : σ} {K : σ → Prop} {As st : List Value} (n : Nat) (F : bx_FN own i y cd nc tyc ar) (hM : bx_Mv l E y cd nc tyc rm As wf u0 K) (d : decode b pc = .ok (.invokestatic i, 3)) (hR : rm.cells = 0 ∧ rm.slots = 0 ∧ rm.frames + 1 ≤ R.frames ∧ 8 + (nc + 11) + rm.locals ≤ R.locals) (ps : List Nat) (wn : σ → va_W) (hps : ps.map (fun i => ws[i]?) = (wf u0).map some) (hnd : va_nd ps = true) (hadr : ∀ u : σ, (wf u).map (fun q => q.1) = (wf u0).map (fun q => q.1)) (hwn : ∀ u : σ, bx_put ws ps (wf u) = wn u) (hlen : As.length = ar) (hst : st = As.reverse ++ rest) (hrest : (rest.map fun v => v.category).sum ≤ 8) (hn : pc + 3 = n) (kk : ∀ u : σ, K u → bx_S p l e R s m args below meth c nL E A Q ce sl n lv rest (wn u)) : bx_S p l e R s m args below meth c nL E A Q ce sl pc lv st ws :=
  bx_callSNv C n F hM d hR ps hps hnd hadr hlen hst hrest hn (fun u h => by rw [hwn u]; exact kk u h)
theorem bx_ldcw (C : bx_C p R s m args meth c b nL own ty E A ce sl) {i : Nat} {v : Int32} (n : Nat) (hc : Cond.constant own i v ∈ wsAll) (d : decode b pc = .ok (.ldc_w i, 3)) (hn : pc + 3 = n) (k : bx_S p l e R s m args below meth c nL E A Q ce sl n lv (.int v :: rest) ws) : bx_S p l e R s m args below meth c nL E A Q ce sl pc lv rest ws := by
  subst hn
  exact fun H locs ls hP hD hS hl => lv_ldcw C.1 C.2.1 C.2.2.2.1 (C.2.2.2.2.1 _ hc) d (k H locs ls hP hD hS hl)
theorem bx_lin (C : bx_C p R s m args meth c b nL own ty E A ce sl) {dflt : Int} {pp : Array (Int × Int)} {len : Nat} {x : Int32} {off : Int} (tgt : Nat) (v : Int32) (d : decode b pc = .ok (.lookupswitch dflt pp, len)) (hx : x = v) (hp : (pp.toList.zip (pp.toList.drop 1)).all (fun (a, next) => a.1 < next.1) = true) (ho : Op.lookupswitch.offset pp.toList dflt v.toInt = off) (ht : (pc : Int) + off = (tgt : Int)) (k : bx_S p l e R s m args below meth c nL E A Q ce sl tgt lv rest ws) : bx_S p l e R s m args below meth c nL E A Q ce sl pc lv (.int x :: rest) ws := by
  subst hx
  exact fun H locs ls hP hD hS hl => lv_lookup C.1 C.2.1 d hp ho ht (k H locs ls hP hD hS hl)
theorem bx_lout (C : bx_C p R s m args meth c b nL own ty E A ce sl) {dflt o0 o1 : Int} {len : Nat} {x : Int32} (tgt : Nat) (d : decode b pc = .ok (.lookupswitch dflt #[(0, o0), (1, o1)], len)) (h0 : ¬ x = 0) (h1 : ¬ x = 1) (ht : (pc : Int) + dflt = (tgt : Int)) (k : bx_S p l e R s m args below meth c nL E A Q ce sl tgt lv rest ws) : bx_S p l e R s m args below meth c nL E A Q ce sl pc lv (.int x :: rest) ws :=
  fun H locs ls hP hD hS hl => lv_lookup C.1 C.2.1 d rfl (by show Op.lookupswitch.offset [(0, o0), (1, o1)] dflt x.toInt = dflt; rw [lv_osw h0 (by decide), lv_osw h1 (by decide)]; rfl) ht (k H locs ls hP hD hS hl)
end BX2
abbrev TS : Type := (Nat → Int32) × Int32
abbrev HS : Type := (Nat → Int32) × (Nat → Int32) × (Nat → Int32) × (Nat → Int32) × Int32 × Int32 × Int32 × Int32 × TS × TS × TS × TS
abbrev XS : Type := HS × (Nat → Int32) × Int32 × Int32 × Int32 × Int32 × Int32
abbrev US : Type := HS × HS × HS × HS × (Nat → Int32) × XS × TS × TS × Int64 × Int64 × Int32 × Int32 × Int32
abbrev MS : Type := (Nat → Int32) × (Nat → Int32) × (Nat → Int32) × (Nat → Int32) × Int64 × Int64 × (Nat → Int32) × (Nat → Int32) × Int32 × Int32 × Int32 × Int32 × Int32 × (Nat → Int32) × (Nat → Int32) × (Nat → Int32)
def w_T (E : bx_E) (a : Nat → Nat) (lim wid : Int32) (len : Nat) (u : TS) : va_W := [((a 0), .inr (2, [.int lim, .int wid, .ref (a 1), .int u.2])), ((a 1), .inl (E.2 0, len, .inl u.1))]
def w_H (E : bx_E) (a : Nat → Nat) (u : HS) : va_W := [((a 0), .inr (0, [.ref (a 1), .ref (a 2), .ref (a 3), .ref (a 4), .int u.2.2.2.2.1, .int u.2.2.2.2.2.1, .int u.2.2.2.2.2.2.1, .int u.2.2.2.2.2.2.2.1, .ref (a 5), .ref (a 7), .ref (a 9), .ref (a 11)])), ((a 1), .inl (E.2 0, 5, .inl u.1)), ((a 2), .inl (E.2 0, 7, .inl u.2.1)), ((a 3), .inl (E.2 0, 7, .inl u.2.2.1)), ((a 4), .inl (E.2 0, 7, .inl u.2.2.2.1)), ((a 5), .inr (2, [.int 5, .int 3, .ref (a 6), .int u.2.2.2.2.2.2.2.2.1.2])), ((a 6), .inl (E.2 0, 15, .inl u.2.2.2.2.2.2.2.2.1.1)), ((a 7), .inr (2, [.int 6, .int 3, .ref (a 8), .int u.2.2.2.2.2.2.2.2.2.1.2])), ((a 8), .inl (E.2 0, 18, .inl u.2.2.2.2.2.2.2.2.2.1.1)), ((a 9), .inr (2, [.int 6, .int 4, .ref (a 10), .int u.2.2.2.2.2.2.2.2.2.2.1.2])), ((a 10), .inl (E.2 0, 24, .inl u.2.2.2.2.2.2.2.2.2.2.1.1)), ((a 11), .inr (2, [.int 8, .int 10, .ref (a 12), .int u.2.2.2.2.2.2.2.2.2.2.2.2])), ((a 12), .inl (E.2 0, 80, .inl u.2.2.2.2.2.2.2.2.2.2.2.1))]
def w_P (E : bx_E) (a : Nat → Nat) (u : TS) : va_W := [((a 0), .inr (1, [.ref (a 1), .int u.2])), ((a 1), .inl (E.2 0, 128, .inl u.1))]
def w_Y (E : bx_E) (a : Nat → Nat) (u : TS) : va_W := [((a 0), .inr (3, [.ref (a 1), .int u.2])), ((a 1), .inl (E.2 0, 16, .inl u.1))]
def w_X (E : bx_E) (a : Nat → Nat) (u : XS) : va_W := [((a 0), .inr (4, [.ref (a 1), .ref (a 14), .int u.2.2.1, .int u.2.2.2.1, .int u.2.2.2.2.1, .int u.2.2.2.2.2.1, .int u.2.2.2.2.2.2])), ((a 1), .inr (0, [.ref (a 2), .ref (a 3), .ref (a 4), .ref (a 5), .int u.1.2.2.2.2.1, .int u.1.2.2.2.2.2.1, .int u.1.2.2.2.2.2.2.1, .int u.1.2.2.2.2.2.2.2.1, .ref (a 6), .ref (a 8), .ref (a 10), .ref (a 12)])), ((a 2), .inl (E.2 0, 5, .inl u.1.1)), ((a 3), .inl (E.2 0, 7, .inl u.1.2.1)), ((a 4), .inl (E.2 0, 7, .inl u.1.2.2.1)), ((a 5), .inl (E.2 0, 7, .inl u.1.2.2.2.1)), ((a 6), .inr (2, [.int 5, .int 3, .ref (a 7), .int u.1.2.2.2.2.2.2.2.2.1.2])), ((a 7), .inl (E.2 0, 15, .inl u.1.2.2.2.2.2.2.2.2.1.1)), ((a 8), .inr (2, [.int 6, .int 3, .ref (a 9), .int u.1.2.2.2.2.2.2.2.2.2.1.2])), ((a 9), .inl (E.2 0, 18, .inl u.1.2.2.2.2.2.2.2.2.2.1.1)), ((a 10), .inr (2, [.int 6, .int 4, .ref (a 11), .int u.1.2.2.2.2.2.2.2.2.2.2.1.2])), ((a 11), .inl (E.2 0, 24, .inl u.1.2.2.2.2.2.2.2.2.2.2.1.1)), ((a 12), .inr (2, [.int 8, .int 10, .ref (a 13), .int u.1.2.2.2.2.2.2.2.2.2.2.2.2])), ((a 13), .inl (E.2 0, 80, .inl u.1.2.2.2.2.2.2.2.2.2.2.2.1)), ((a 14), .inl (E.2 2, 150, .inl u.2.1))]
def w_M (E : bx_E) (a : Nat → Nat) (u : MS) : va_W := [((a 0), .inr (6, [.ref (a 1), .ref (a 2), .ref (a 3), .ref (a 4), .long u.2.2.2.2.1, .long u.2.2.2.2.2.1, .ref (a 5), .ref (a 6), .int u.2.2.2.2.2.2.2.2.1, .int u.2.2.2.2.2.2.2.2.2.1, .int u.2.2.2.2.2.2.2.2.2.2.1, .int u.2.2.2.2.2.2.2.2.2.2.2.1, .int u.2.2.2.2.2.2.2.2.2.2.2.2.1, .ref (a 7), .ref (a 8), .ref (a 9)])), ((a 1), .inl (E.2 0, 171, .inl u.1)), ((a 2), .inl (E.2 0, 171, .inl u.2.1)), ((a 3), .inl (E.2 0, 342, .inl u.2.2.1)), ((a 4), .inl (E.2 1, 2, .inl u.2.2.2.1)), ((a 5), .inl (E.2 0, 3, .inl u.2.2.2.2.2.2.1)), ((a 6), .inl (E.2 0, 150, .inl u.2.2.2.2.2.2.2.1)), ((a 7), .inl (E.2 0, 7, .inl u.2.2.2.2.2.2.2.2.2.2.2.2.2.1)), ((a 8), .inl (E.2 0, 7, .inl u.2.2.2.2.2.2.2.2.2.2.2.2.2.2.1)), ((a 9), .inl (E.2 0, 41, .inl u.2.2.2.2.2.2.2.2.2.2.2.2.2.2.2))]
def w_A (E : bx_E) (a : Nat → Nat) (u : (Nat → Int32)) : va_W := [((a 0), .inl (E.2 0, 171, .inl u))]
def w_U (E : bx_E) (a : Nat → Nat) (u : US) : va_W := ((a 0), .inr (5, [.ref (a 1), .ref (a 14), .ref (a 27), .ref (a 54), .ref (a 55), .ref (a 70), .ref (a 72), .long u.2.2.2.2.2.2.2.2.1, .long u.2.2.2.2.2.2.2.2.2.1, .int u.2.2.2.2.2.2.2.2.2.2.1, .int u.2.2.2.2.2.2.2.2.2.2.2.1, .int u.2.2.2.2.2.2.2.2.2.2.2.2])) :: (w_H E (fun k => a (1 + k)) u.1 ++ (w_H E (fun k => a (14 + k)) u.2.1 ++ (((a 27), .inl (E.2 3, 2, .inr (.inr (.inr (.inr (fun j => if j = 0 then some (a 28) else if j = 1 then some (a 41) else none)))))) :: (w_H E (fun k => a (28 + k)) u.2.2.1 ++ (w_H E (fun k => a (41 + k)) u.2.2.2.1 ++ (((a 54), .inl (E.2 1, 2, .inl u.2.2.2.2.1)) :: (w_X E (fun k => a (55 + k)) u.2.2.2.2.2.1 ++ (w_P E (fun k => a (70 + k)) u.2.2.2.2.2.2.1 ++ w_Y E (fun k => a (72 + k)) u.2.2.2.2.2.2.2.1))))))))
end
section
theorem oi_1 : Cond.instanceMethod objectInit ∈ wsAll := wsAll_mem (by decide +kernel) (by decide +kernel)
theorem oi_2 : Cond.code objectInit ⟨#[0xb1]⟩ 1 none ∈ wsAll := wsAll_mem (by decide +kernel) (by decide +kernel)
theorem va_nd_of : ∀ l : List Nat, l.Nodup → va_nd l = true
  | [], _ => rfl
  | a :: l, h => by
    rw [List.nodup_cons] at h
    simp only [va_nd, Bool.and_eq_true, decide_eq_true_eq]
    exact ⟨h.1, va_nd_of l h.2⟩
theorem bx_map_pre (ws w2 : va_W) : (List.range ws.length).map (fun i => (ws ++ w2)[i]?) = ws.map some := by
  apply List.ext_getElem?
  intro i
  rw [List.getElem?_map, List.getElem?_map]
  by_cases hi : i < ws.length
  · simp [hi, List.getElem?_append_left hi]
  · simp [hi]
abbrev bx_FI (own : String) (i : Nat) (y : MethodName) (cd : ByteArray) (nc : Nat) (ar : Nat) : Prop := bx_FL own i y cd nc none ar ∧ y.name = "<init>" ∧ Cond.instanceMethod y ∈ wsAll
abbrev bx_FJ (own : String) (i : Nat) (y : MethodName) (cd : ByteArray) (nc : Nat) (ar : Nat) : Prop := bx_FB y cd nc none ar ∧ (own, i, y, "UsherRows") ∈ bx_nest ∧ y.name = "<init>" ∧ Cond.instanceMethod y ∈ wsAll
/-- a constructor's contract: new cells come -/
def bx_Mn (l : Launch) (E : bx_E) (y : MethodName) (cd : ByteArray) (nL : Nat) (rm : Room) (mc ms : Nat) (av : List Value) (w0 : va_W) {σ : Type} (post : σ → Prop) (wf : σ → va_W) : Prop := ∀ sz : Nat, Met l y (bx_ws y cd nL none) rm (va_Pc av (bx_U E sz w0)) (va_Qv post (fun u t => bx_B E (va_A w0 sz) (wf u) t) (va_A w0 sz)) mc ms (va_A w0 sz)
section BI
variable {p : Program} {l : Launch} {e : Env} {R : Room} {s : State} {m : MethodId} {args : Array Value} {below : List Frame} {meth : Method} {c : Code} {nL : Nat} {E : bx_E} {A : Nat → Prop} {Q : State → Prop} {ce sl : Nat} {b : ByteArray} {own : String} {ty : Option FieldType}
variable {pc : Nat} {lv : List (Nat × Value)} {rest : List Value} {ws : va_W}
theorem bi_grow (C : bx_C p R s m args meth c b nL own ty E A ce sl) {ce2 sl2 : Nat} (h : ce2 ≤ R.cells ∧ sl2 ≤ R.slots) : bx_C p R s m args meth c b nL own ty E A ce2 sl2 := by
  obtain ⟨h1, h2, h3, h4, h5, h6, h7, h8, h9, h10, -, h12⟩ := C
  exact ⟨h1, h2, h3, h4, h5, h6, h7, h8, h9, h10, h, h12⟩
theorem bx_obj (C : bx_C p R s m args meth c b nL own ty E A ce sl) {i a : Nat} (n : Nat) (hl : Cond.methodLink own i objectInit ∈ wsAll) (d : decode b pc = .ok (.invokespecial i, 3)) (hR : 1 ≤ R.frames ∧ 20 ≤ R.locals) (hrest : (rest.map fun v => v.category).sum ≤ 8) (hn : pc + 3 = n) (k : bx_S p l e R s m args below meth c nL E A Q ce sl n lv rest ws) : bx_S p l e R s m args below meth c nL E A Q ce sl pc lv (.ref a :: rest) ws := by
  subst hn
  have hts := C.2.2.2.2.1
  exact fun H locs ls hP hD hS hl2 => W.objInit C.1 C.2.1 C.2.2.2.1 (hts _ hl) (hts _ oi_1) (hts _ oi_2) rfl (by rw [C.2.2.1]; exact hl2.1) rfl d hR.1 (by show 2 * 0 + _ + 12 ≤ _; have := hR.2; omega) (k H locs ls hP hD hS hl2)
theorem bi_new (C : bx_C p R s m args meth c b nL own ty E A ce sl) {K : String} {T : u_T} {N ci i : Nat} (n ce2 sl2 : Nat) (fs : List Value) (hin : ∀ w ∈ u_ws K T N, w ∈ wsAll) (t0 : Nat → FieldType) (hty : ∀ k, k < N → parseFieldDescriptor (T k).2.2.1 = some (t0 k)) (hc : vwCl[ci]? = some (K, T, N)) (hcl : Cond.classLink own i K ∈ wsAll) (hinst : Cond.instantiable K N ∈ wsAll) (hini : Cond.initialized K ∈ wsAll) (hfs : ∀ j, j < N → defaultValue (t0 j) = vp_V fs j) (d : decode b pc = .ok (.new i, 3)) (he : ce + 1 = ce2) (hs : sl + N = sl2) (hce : ce2 ≤ R.cells ∧ sl2 ≤ R.slots) (hn : pc + 3 = n) (k : ∀ q : Nat, bx_S p l e R s m args below meth c nL E A Q ce2 sl2 n lv (.ref q :: rest) (ws ++ [(q, .inr (ci, fs))])) : bx_S p l e R s m args below meth c nL E A Q ce sl pc lv rest ws := by
  subst hn; subst he; subst hs
  have hts := C.2.2.2.2.1
  exact fun H locs ls hP hD hS hl2 => va_new C.1 C.2.1 hts hin t0 hty C.2.2.2.1 (hts _ hcl) (hts _ hinst) (hts _ hini) C.2.2.2.2.2.1 hP hD hS C.2.2.2.2.2.2.2.2.2.1 hc hfs hce.1 hce.2 d (fun q H1 hP hD hS => k q H1 locs ls hP hD hS hl2)
theorem bx_putF (C : bx_C p R s m args meth c b nL own ty E A ce sl) (hnm0 : meth.name = "<init>") {K : String} {T : u_T} {N ci i a : Nat} {fs : List Value} {v : Value} (n q0 f : Nat) (ws' : va_W) (hin : ∀ w ∈ u_ws K T N, w ∈ wsAll) (t0 : Nat → FieldType) (hty : ∀ k, k < N → parseFieldDescriptor (T k).2.2.1 = some (t0 k)) (hnm : ∀ a, a < N → ∀ b, b < N → a ≠ b → (T a).2.1 ≠ (T b).2.1) (hc : vwCl[ci]? = some (K, T, N)) (hf : f < N) (hl : Cond.fieldLink own i (T f).1 (T f).2.1 (T f).2.2.1 ∈ wsAll) (hfin : (T f).2.2.2 = true) (hdecl : (T f).1 = own) (d : decode b pc = .ok (.putfield i, 3)) (he : ws[q0]? = some (a, .inr (ci, fs))) (hna : narrow (t0 f) v = v) (hfit : fits (t0 f) v = true) (hlen : f < fs.length) (hw : ws.set q0 (a, .inr (ci, fs.set f v)) = ws') (hn : pc + 3 = n) (k : bx_S p l e R s m args below meth c nL E A Q ce sl n lv rest ws') : bx_S p l e R s m args below meth c nL E A Q ce sl pc lv (v :: .ref a :: rest) ws := by
  subst hn; subst hw
  exact fun H locs ls hP hD hS hlv => va_putF C.1 C.2.1 C.2.2.2.2.1 hin t0 hty hnm C.2.2.2.1 C.2.2.2.2.2.1 hP hD hS q0 he hc f hf (C.2.2.2.2.1 _ hl) (fun _ h => h) hfin hnm0 hdecl (hty f hf) hna hfit hlen d (fun H1 locs1 hP hD hS => k H1 locs1 ls hP hD hS hlv)
theorem bx_newa_int (C : bx_C p R s m args meth c b nL own ty E A ce sl) {z : Int32} (n N ce2 sl2 : Nat) (har : Cond.arrayClass .int ∈ wsAll) (hz : ¬ z < 0) (hN : z.toNatClampNeg = N) (hb4 : N * componentBytes .int ≤ 536870912) (d : decode b pc = .ok (.newarray .int, 2)) (he : ce + 1 = ce2) (hs : sl + N = sl2) (hce : ce2 ≤ R.cells ∧ sl2 ≤ R.slots) (hn : pc + 2 = n) (k : ∀ q : Nat, bx_S p l e R s m args below meth c nL E A Q ce2 sl2 n lv (.ref q :: rest) (ws ++ [(q, .inl (E.2 0, N, .inl (fun _ => 0)))])) : bx_S p l e R s m args below meth c nL E A Q ce sl pc lv (.int z :: rest) ws := by
  subst hn; subst he; subst hs
  have hts := C.2.2.2.2.1
  intro H locs ls hP hD hS hl2
  refine va_newa C.1 C.2.1 (atype := .int) (hts _ har) (ty := .int) rfl C.2.2.2.2.2.1 hP hD hS C.2.2.2.2.2.2.2.2.2.1 (a0 := (N, .inl (fun _ => 0))) (fun _ => rfl) hz hN hb4 hce.1 hce.2 d (fun q cA H1 hK hP hD hS => ?_)
  have h1 : va_RA s cA .int := (hK.2 4 (cA, .int) rfl).2
  have h2 : va_RA s (E.2 0) .int := (C.2.2.2.2.2.1.2 0 (E.2 0, .int) rfl).2
  have h3 : cA = E.2 0 := Option.some.inj (h1.symm.trans h2)
  subst h3
  exact k q H1 locs ls hP hD hS hl2
theorem bx_newa_boolean (C : bx_C p R s m args meth c b nL own ty E A ce sl) {z : Int32} (n N ce2 sl2 : Nat) (har : Cond.arrayClass .boolean ∈ wsAll) (hz : ¬ z < 0) (hN : z.toNatClampNeg = N) (hb4 : N * componentBytes .boolean ≤ 536870912) (d : decode b pc = .ok (.newarray .boolean, 2)) (he : ce + 1 = ce2) (hs : sl + N = sl2) (hce : ce2 ≤ R.cells ∧ sl2 ≤ R.slots) (hn : pc + 2 = n) (k : ∀ q : Nat, bx_S p l e R s m args below meth c nL E A Q ce2 sl2 n lv (.ref q :: rest) (ws ++ [(q, .inl (E.2 1, N, .inl (fun _ => 0)))])) : bx_S p l e R s m args below meth c nL E A Q ce sl pc lv (.int z :: rest) ws := by
  subst hn; subst he; subst hs
  have hts := C.2.2.2.2.1
  intro H locs ls hP hD hS hl2
  refine va_newa C.1 C.2.1 (atype := .boolean) (hts _ har) (ty := .boolean) rfl C.2.2.2.2.2.1 hP hD hS C.2.2.2.2.2.2.2.2.2.1 (a0 := (N, .inl (fun _ => 0))) (fun _ => rfl) hz hN hb4 hce.1 hce.2 d (fun q cA H1 hK hP hD hS => ?_)
  have h1 : va_RA s cA .boolean := (hK.2 4 (cA, .boolean) rfl).2
  have h2 : va_RA s (E.2 1) .boolean := (C.2.2.2.2.2.1.2 1 (E.2 1, .boolean) rfl).2
  have h3 : cA = E.2 1 := Option.some.inj (h1.symm.trans h2)
  subst h3
  exact k q H1 locs ls hP hD hS hl2
theorem bx_newa_byte (C : bx_C p R s m args meth c b nL own ty E A ce sl) {z : Int32} (n N ce2 sl2 : Nat) (har : Cond.arrayClass .byte ∈ wsAll) (hz : ¬ z < 0) (hN : z.toNatClampNeg = N) (hb4 : N * componentBytes .byte ≤ 536870912) (d : decode b pc = .ok (.newarray .byte, 2)) (he : ce + 1 = ce2) (hs : sl + N = sl2) (hce : ce2 ≤ R.cells ∧ sl2 ≤ R.slots) (hn : pc + 2 = n) (k : ∀ q : Nat, bx_S p l e R s m args below meth c nL E A Q ce2 sl2 n lv (.ref q :: rest) (ws ++ [(q, .inl (E.2 2, N, .inl (fun _ => 0)))])) : bx_S p l e R s m args below meth c nL E A Q ce sl pc lv (.int z :: rest) ws := by
  subst hn; subst he; subst hs
  have hts := C.2.2.2.2.1
  intro H locs ls hP hD hS hl2
  refine va_newa C.1 C.2.1 (atype := .byte) (hts _ har) (ty := .byte) rfl C.2.2.2.2.2.1 hP hD hS C.2.2.2.2.2.2.2.2.2.1 (a0 := (N, .inl (fun _ => 0))) (fun _ => rfl) hz hN hb4 hce.1 hce.2 d (fun q cA H1 hK hP hD hS => ?_)
  have h1 : va_RA s cA .byte := (hK.2 4 (cA, .byte) rfl).2
  have h2 : va_RA s (E.2 2) .byte := (C.2.2.2.2.2.1.2 2 (E.2 2, .byte) rfl).2
  have h3 : cA = E.2 2 := Option.some.inj (h1.symm.trans h2)
  subst h3
  exact k q H1 locs ls hP hD hS hl2
theorem bx_newq (C : bx_C p R s m args meth c b nL own ty E A ce sl) {z : Int32} {i : Nat} (n N ce2 sl2 : Nat) (hcl : Cond.classLink own i "UsherRows$Hall" ∈ wsAll) (hz : ¬ z < 0) (hN : z.toNatClampNeg = N) (hb4 : N * 4 ≤ 536870912) (d : decode b pc = .ok (.anewarray i, 3)) (he : ce + 1 = ce2) (hs : sl + N = sl2) (hce : ce2 ≤ R.cells ∧ sl2 ≤ R.slots) (hn : pc + 3 = n) (k : ∀ q : Nat, bx_S p l e R s m args below meth c nL E A Q ce2 sl2 n lv (.ref q :: rest) (ws ++ [(q, .inl (E.2 3, N, .inr (.inr (.inr (.inr (fun _ => none))))))])) : bx_S p l e R s m args below meth c nL E A Q ce sl pc lv (.int z :: rest) ws := by
  subst hn; subst he; subst hs
  have hts := C.2.2.2.2.1
  intro H locs ls hP hD hS hl2
  refine va_newq C.1 C.2.1 C.2.2.2.1 (hts _ hcl) C.2.2.2.2.2.2.2.2.2.2.2.2.2.2.2 C.2.2.2.2.2.1 hP hD hS C.2.2.2.2.2.2.2.2.2.1 hz hN hb4 hce.1 hce.2 d (fun q cA H1 hK hP hD hS => ?_)
  obtain ⟨_, _, _, _, _, h1⟩ : va_RA s cA (.object "UsherRows$Hall") := (hK.2 4 (cA, .object "UsherRows$Hall") rfl).2
  obtain ⟨_, _, _, _, _, h2⟩ : va_RA s (E.2 3) (.object "UsherRows$Hall") := (C.2.2.2.2.2.1.2 3 (E.2 3, .object "UsherRows$Hall") rfl).2
  have h3 : cA = E.2 3 := Option.some.inj (h1.symm.trans h2)
  subst h3
  exact k q H1 locs ls hP hD hS hl2
theorem bx_aast (C : bx_C p R s m args meth c b nL own ty E A ce sl) {a N v : Nat} {f : Nat → Option Nat} {i : Int32} {vs : List Value} (n q0 qk : Nat) (ws' : va_W) (d : decode b pc = .ok (.aastore, 1)) (he : ws[q0]? = some (a, .inl (E.2 3, N, .inr (.inr (.inr (.inr f)))))) (hv : ws[qk]? = some (v, .inr (0, vs))) (hi : vp_in i N) (hw : ws.set q0 (a, .inl (E.2 3, N, .inr (.inr (.inr (.inr (va_up f i.toNatClampNeg (some v))))))) = ws') (hn : pc + 1 = n) (k : bx_S p l e R s m args below meth c nL E A Q ce sl n lv rest ws') : bx_S p l e R s m args below meth c nL E A Q ce sl pc lv (.ref v :: .int i :: .ref a :: rest) ws := by
  subst hn; subst hw
  exact fun H locs ls hP hD hS hlv => va_astq (r := (RX0, TX0, 12)) C.1 C.2.1 C.2.2.2.2.2.1 hP hD hS q0 3 qk 0 he rfl hv rfl hi d (fun H1 locs1 hP hD hS => k H1 locs1 ls hP hD hS hlv)
theorem bx_init (C : bx_C p R s m args meth c b nL own ty E A ce sl) {y : MethodName} {cd : ByteArray} {nc ar i mc ms : Nat} {rm : Room} {σ : Type} {wf : σ → va_W} {post : σ → Prop} {q : Nat} {e0 : va_E} {As st : List Value} (n ce2 sl2 : Nat) (wr : va_W) (F : bx_FI own i y cd nc ar) (hM : bx_Mn l E y cd nc rm mc ms (.ref q :: As) [(q, e0)] post wf) (d : decode b pc = .ok (.invokespecial i, 3)) (hR : rm.cells = mc ∧ rm.slots = ms ∧ rm.frames + 1 ≤ R.frames ∧ 8 + (nc + 11) + rm.locals ≤ R.locals) (he : ce + mc = ce2) (hs : sl + ms = sl2) (hce : ce2 ≤ R.cells ∧ sl2 ≤ R.slots) (hw : ws = wr ++ [(q, e0)]) (hlen : As.length = ar) (hst : st = As.reverse ++ .ref q :: rest) (hrest : (rest.map fun v => v.category).sum ≤ 8) (hn : pc + 3 = n) (kk : ∀ u : σ, post u → bx_S p l e R s m args below meth c nL E A Q ce2 sl2 n lv rest (wr ++ wf u)) : bx_S p l e R s m args below meth c nL E A Q ce sl pc lv st ws := by
  subst hn; subst hst; subst he; subst hs; subst hw
  intro H locs ls hP hD hS hl
  have hps : [wr.length].map (fun i => (wr ++ [(q, e0)])[i]?) = [(q, e0)].map some := by simp
  obtain ⟨hx, hb, hml, hown, hts, hK, hNe, hr, hlk, hA, -⟩ := id C
  have hFc := va_free (wc := [(q, e0)]) hD hS hA [wr.length] hps
  have hpre := bx_pre (As := .ref q :: As) C hP hD hS hFc hps rfl rfl
  refine va_callv (va_runI ⟨hx, hb, hml, hown, hts⟩ (hM H.size) ⟨callB_of (Ts := wsAll) ar hts (bx_good (y := y) (cd := cd) (nL := nL) (ty := ty) F.1.1.1) rfl hR.1 hR.2.1 (hts _ F.1.1.2.1) (hts _ F.1.2) F.1.1.2.2 ⟨hR.2.2.1, hR.2.2.2⟩, F.2.1, hts _ F.2.2⟩ hpre rfl hlen hl.1 rfl (lv_room hrest) d hce) hS (fun q _ h => hFc q h) hFc (fun u t H1 locs1 ht hvm hw hB hz hk hS1 => ?_)
  obtain ⟨hP1, hD1⟩ := hB
  rw [ht] at hP1
  obtain ⟨hP2, hD2⟩ := va_join (wr := wr) (w1 := wf u) hP hD [wr.length] (List.range wr.length) hps (bx_map_pre wr _) (va_nd_of _ List.nodup_range) (fun i hi => by simp at hi ⊢; omega) hk hFc hP1 hD1
  exact kk u hw H1 locs1 ls hP2 hD2 hS1 hl
theorem bx_inin (C : bx_C p R s m args meth c b nL own ty E A ce sl) {y : MethodName} {cd : ByteArray} {nc ar i mc ms : Nat} {rm : Room} {σ : Type} {wf : σ → va_W} {post : σ → Prop} {q : Nat} {e0 : va_E} {As st : List Value} (n ce2 sl2 : Nat) (wr : va_W) (F : bx_FJ own i y cd nc ar) (hM : bx_Mn l E y cd nc rm mc ms (.ref q :: As) [(q, e0)] post wf) (d : decode b pc = .ok (.invokespecial i, 3)) (hR : rm.cells = mc ∧ rm.slots = ms ∧ rm.frames + 1 ≤ R.frames ∧ 8 + (nc + 11) + rm.locals ≤ R.locals) (he : ce + mc = ce2) (hs : sl + ms = sl2) (hce : ce2 ≤ R.cells ∧ sl2 ≤ R.slots) (hw : ws = wr ++ [(q, e0)]) (hlen : As.length = ar) (hst : st = As.reverse ++ .ref q :: rest) (hrest : (rest.map fun v => v.category).sum ≤ 8) (hn : pc + 3 = n) (kk : ∀ u : σ, post u → bx_S p l e R s m args below meth c nL E A Q ce2 sl2 n lv rest (wr ++ wf u)) : bx_S p l e R s m args below meth c nL E A Q ce sl pc lv st ws := by
  subst hn; subst hst; subst he; subst hs; subst hw
  intro H locs ls hP hD hS hl
  have hps : [wr.length].map (fun i => (wr ++ [(q, e0)])[i]?) = [(q, e0)].map some := by simp
  obtain ⟨hx, hb, hml, hown, hts, hK, hNe, hr, hlk, hA, -⟩ := id C
  have hFc := va_free (wc := [(q, e0)]) hD hS hA [wr.length] hps
  have hpre := bx_pre (As := .ref q :: As) C hP hD hS hFc hps rfl rfl
  refine va_callv (va_runIN (host := "UsherRows") ⟨hx, hb, hml, hown, hts⟩ (hM H.size) ⟨va_cnB ar hts (bx_good (y := y) (cd := cd) (nL := nL) (ty := ty) F.1.1) rfl hR.1 hR.2.1 (hNe _ F.2.1) (hts _ F.1.2.1) F.1.2.2 ⟨hR.2.2.1, hR.2.2.2⟩, F.2.2.1, hts _ F.2.2.2⟩ hpre rfl hlen hl.1 rfl (lv_room hrest) d hce) hS (fun q _ h => hFc q h) hFc (fun u t H1 locs1 ht hvm hw hB hz hk hS1 => ?_)
  obtain ⟨hP1, hD1⟩ := hB
  rw [ht] at hP1
  obtain ⟨hP2, hD2⟩ := va_join (wr := wr) (w1 := wf u) hP hD [wr.length] (List.range wr.length) hps (bx_map_pre wr _) (va_nd_of _ List.nodup_range) (fun i hi => by simp at hi ⊢; omega) hk hFc hP1 hD1
  exact kk u hw H1 locs1 ls hP2 hD2 hS1 hl
end BI
theorem bx_metn {l : Launch} {E : bx_E} {y : MethodName} {cd : ByteArray} {nL mc ms : Nat} {rm : Room} {av : List Value} {w0 : va_W} {σ : Type} {post : σ → Prop} {wf : σ → va_W} (hy : plainName y.cls = true) (hlv : (lg_sl av).length ≤ nL) (body : ∀ (p : Program) (e : Env) (s : State) (m : MethodId) (below : List Frame) (meth : Method) (c : Code), meth.name = y.name → bx_C p rm s m av.toArray meth c cd nL y.cls none E (va_A w0 s.heap.size) 0 0 → bx_S p l e rm s m av.toArray below meth c nL E (va_A w0 s.heap.size) (MQ below (va_Qv post (fun u t => bx_B E (va_A w0 s.heap.size) (wf u) t) (va_A w0 s.heap.size)) av.toArray s mc ms (va_A w0 s.heap.size)) 0 0 0 (lv_args 0 av) [] w0) : bx_Mn l E y cd nL rm mc ms av w0 post wf := by
  intro sz
  refine Met.ofW (cc := cd) (maxL := nL) (ret := none) hy rfl ?_
  intro p e s m args below meth c s₁ B hml hv
  obtain ⟨rfl, hsz, hP, hK, hD0, hN, hstr⟩ := hv
  have hts := atoms_spec (ws := bx_ws y cd nL none) B.pre
  have hown : s.vm.findClass y.cls = some m.cls := findClass_of_methodNamed B.named
  subst hsz
  have hD := hD0.self (sz := s.heap.size)
  have C : bx_C p rm s m av.toArray meth c cd nL y.cls none E (va_A w0 s.heap.size) 0 0 := ⟨B.exec, B.bytes, hml, hown, fun w hw => hts w (List.mem_cons_of_mem _ hw), hK, hN, B.returns, B.notSynchronized, fun q h => Or.inr h, ⟨Nat.zero_le _, Nat.zero_le _⟩, hstr⟩
  rw [lg_entry_eq]
  exact body p e s m below meth c (name_of_methodNamed B.named B.method).1 C s.heap [] _ hP hD va_S.rf (lv_entry av hlv)
end
