section
-- ===== PART A: goes FIRST, ahead of the names: the tables' words, and 'selects' of the private methods out of them =====
/-- a private method of a class that the tables say can be made, by its rows of tables_1 -/
def lw_okq (q : MethodName × Nat) : Prop := (q.1.cls ≠ "java/lang/invoke/MethodHandle" ∧ q.1.cls ≠ "java/lang/invoke/VarHandle") ∧ Cond.instantiable q.1.cls q.2 ∈ tables_1 ∧ Cond.privateMethod q.1 ∈ tables_1 ∧ Cond.instanceMethod q.1 ∈ tables_1
theorem lw_p0 : lw_okq (⟨"LinenSigns", "finding", "(I)I"⟩, 9) := ⟨⟨by decide +kernel, by decide +kernel⟩, List.mem_of_getElem? (i := 19) (by decide +kernel), List.mem_of_getElem? (i := 261) (by decide +kernel), List.mem_of_getElem? (i := 262) (by decide +kernel)⟩
theorem lw_p1 : lw_okq (⟨"LinenSigns$Row", "put", "(IIII)V"⟩, 4) := ⟨⟨by decide +kernel, by decide +kernel⟩, List.mem_of_getElem? (i := 34) (by decide +kernel), List.mem_of_getElem? (i := 270) (by decide +kernel), List.mem_of_getElem? (i := 271) (by decide +kernel)⟩
theorem lw_p2 : lw_okq (⟨"LinenSigns", "isGarment", "(II)Z"⟩, 9) := ⟨⟨by decide +kernel, by decide +kernel⟩, List.mem_of_getElem? (i := 19) (by decide +kernel), List.mem_of_getElem? (i := 278) (by decide +kernel), List.mem_of_getElem? (i := 279) (by decide +kernel)⟩
theorem lw_p3 : lw_okq (⟨"LinenSigns", "worthBehind", "(LLinenSigns$Row;I)I"⟩, 9) := ⟨⟨by decide +kernel, by decide +kernel⟩, List.mem_of_getElem? (i := 19) (by decide +kernel), List.mem_of_getElem? (i := 297) (by decide +kernel), List.mem_of_getElem? (i := 298) (by decide +kernel)⟩
theorem lw_p4 : lw_okq (⟨"LinenSigns", "worthOf", "(LLinenSigns$Row;I)I"⟩, 9) := ⟨⟨by decide +kernel, by decide +kernel⟩, List.mem_of_getElem? (i := 19) (by decide +kernel), List.mem_of_getElem? (i := 443) (by decide +kernel), List.mem_of_getElem? (i := 444) (by decide +kernel)⟩
theorem lw_p5 : lw_okq (⟨"LinenSigns", "readNow", "(LLinenSigns$Row;)I"⟩, 9) := ⟨⟨by decide +kernel, by decide +kernel⟩, List.mem_of_getElem? (i := 19) (by decide +kernel), List.mem_of_getElem? (i := 455) (by decide +kernel), List.mem_of_getElem? (i := 456) (by decide +kernel)⟩
theorem lw_p6 : lw_okq (⟨"LinenSigns", "windsReadAs", "(LLinenSigns$Row;I)I"⟩, 9) := ⟨⟨by decide +kernel, by decide +kernel⟩, List.mem_of_getElem? (i := 19) (by decide +kernel), List.mem_of_getElem? (i := 463) (by decide +kernel), List.mem_of_getElem? (i := 464) (by decide +kernel)⟩
theorem lw_p7 : lw_okq (⟨"LinenSigns", "readWithout", "(LLinenSigns$Row;I)I"⟩, 9) := ⟨⟨by decide +kernel, by decide +kernel⟩, List.mem_of_getElem? (i := 19) (by decide +kernel), List.mem_of_getElem? (i := 471) (by decide +kernel), List.mem_of_getElem? (i := 472) (by decide +kernel)⟩
theorem lw_p8 : lw_okq (⟨"LinenSigns", "fewestOff", "(LLinenSigns$Row;I)I"⟩, 9) := ⟨⟨by decide +kernel, by decide +kernel⟩, List.mem_of_getElem? (i := 19) (by decide +kernel), List.mem_of_getElem? (i := 479) (by decide +kernel), List.mem_of_getElem? (i := 480) (by decide +kernel)⟩
theorem lw_p9 : lw_okq (⟨"LinenSigns", "readWithOneMore", "(LLinenSigns$Row;I)I"⟩, 9) := ⟨⟨by decide +kernel, by decide +kernel⟩, List.mem_of_getElem? (i := 19) (by decide +kernel), List.mem_of_getElem? (i := 502) (by decide +kernel), List.mem_of_getElem? (i := 503) (by decide +kernel)⟩
theorem lw_p10 : lw_okq (⟨"LinenSigns$Orders", "findTwins", "()V"⟩, 16) := ⟨⟨by decide +kernel, by decide +kernel⟩, List.mem_of_getElem? (i := 108) (by decide +kernel), List.mem_of_getElem? (i := 519) (by decide +kernel), List.mem_of_getElem? (i := 520) (by decide +kernel)⟩
theorem lw_p11 : lw_okq (⟨"LinenSigns$Orders", "saying", "(I)I"⟩, 16) := ⟨⟨by decide +kernel, by decide +kernel⟩, List.mem_of_getElem? (i := 108) (by decide +kernel), List.mem_of_getElem? (i := 523) (by decide +kernel), List.mem_of_getElem? (i := 524) (by decide +kernel)⟩
theorem lw_p12 : lw_okq (⟨"LinenSigns$Orders", "hangNext", "(III)V"⟩, 16) := ⟨⟨by decide +kernel, by decide +kernel⟩, List.mem_of_getElem? (i := 108) (by decide +kernel), List.mem_of_getElem? (i := 528) (by decide +kernel), List.mem_of_getElem? (i := 529) (by decide +kernel)⟩
theorem lw_p13 : lw_okq (⟨"LinenSigns$Orders", "arrive", "(I)V"⟩, 16) := ⟨⟨by decide +kernel, by decide +kernel⟩, List.mem_of_getElem? (i := 108) (by decide +kernel), List.mem_of_getElem? (i := 532) (by decide +kernel), List.mem_of_getElem? (i := 533) (by decide +kernel)⟩
theorem lw_p14 : lw_okq (⟨"LinenSigns$Orders", "mayHang", "(I)Z"⟩, 16) := ⟨⟨by decide +kernel, by decide +kernel⟩, List.mem_of_getElem? (i := 108) (by decide +kernel), List.mem_of_getElem? (i := 543) (by decide +kernel), List.mem_of_getElem? (i := 544) (by decide +kernel)⟩
theorem lw_p15 : lw_okq (⟨"LinenSigns$Orders", "isHanging", "(I)Z"⟩, 16) := ⟨⟨by decide +kernel, by decide +kernel⟩, List.mem_of_getElem? (i := 108) (by decide +kernel), List.mem_of_getElem? (i := 547) (by decide +kernel), List.mem_of_getElem? (i := 548) (by decide +kernel)⟩
def lw_privs_1 : List (MethodName × Nat) := [(⟨"LinenSigns", "finding", "(I)I"⟩, 9), (⟨"LinenSigns$Row", "put", "(IIII)V"⟩, 4), (⟨"LinenSigns", "isGarment", "(II)Z"⟩, 9), (⟨"LinenSigns", "worthBehind", "(LLinenSigns$Row;I)I"⟩, 9), (⟨"LinenSigns", "worthOf", "(LLinenSigns$Row;I)I"⟩, 9), (⟨"LinenSigns", "readNow", "(LLinenSigns$Row;)I"⟩, 9), (⟨"LinenSigns", "windsReadAs", "(LLinenSigns$Row;I)I"⟩, 9), (⟨"LinenSigns", "readWithout", "(LLinenSigns$Row;I)I"⟩, 9), (⟨"LinenSigns", "fewestOff", "(LLinenSigns$Row;I)I"⟩, 9), (⟨"LinenSigns", "readWithOneMore", "(LLinenSigns$Row;I)I"⟩, 9), (⟨"LinenSigns$Orders", "findTwins", "()V"⟩, 16), (⟨"LinenSigns$Orders", "saying", "(I)I"⟩, 16), (⟨"LinenSigns$Orders", "hangNext", "(III)V"⟩, 16), (⟨"LinenSigns$Orders", "arrive", "(I)V"⟩, 16), (⟨"LinenSigns$Orders", "mayHang", "(I)Z"⟩, 16), (⟨"LinenSigns$Orders", "isHanging", "(I)Z"⟩, 16)]
theorem lw_r1 : ∀ q ∈ lw_privs_1, lw_okq q := List.forall_mem_cons.mpr ⟨lw_p0, List.forall_mem_cons.mpr ⟨lw_p1, List.forall_mem_cons.mpr ⟨lw_p2, List.forall_mem_cons.mpr ⟨lw_p3, List.forall_mem_cons.mpr ⟨lw_p4, List.forall_mem_cons.mpr ⟨lw_p5, List.forall_mem_cons.mpr ⟨lw_p6, List.forall_mem_cons.mpr ⟨lw_p7, List.forall_mem_cons.mpr ⟨lw_p8, List.forall_mem_cons.mpr ⟨lw_p9, List.forall_mem_cons.mpr ⟨lw_p10, List.forall_mem_cons.mpr ⟨lw_p11, List.forall_mem_cons.mpr ⟨lw_p12, List.forall_mem_cons.mpr ⟨lw_p13, List.forall_mem_cons.mpr ⟨lw_p14, List.forall_mem_cons.mpr ⟨lw_p15, fun _ h => absurd h List.not_mem_nil⟩⟩⟩⟩⟩⟩⟩⟩⟩⟩⟩⟩⟩⟩⟩⟩
theorem lw_p16 : lw_okq (⟨"LinenSigns$Orders", "meaningBit", "(I)I"⟩, 16) := ⟨⟨by decide +kernel, by decide +kernel⟩, List.mem_of_getElem? (i := 108) (by decide +kernel), List.mem_of_getElem? (i := 593) (by decide +kernel), List.mem_of_getElem? (i := 594) (by decide +kernel)⟩
theorem lw_p17 : lw_okq (⟨"LinenSigns", "worthJoined", "(LLinenSigns$Row;LLinenSigns$Row;I)I"⟩, 9) := ⟨⟨by decide +kernel, by decide +kernel⟩, List.mem_of_getElem? (i := 19) (by decide +kernel), List.mem_of_getElem? (i := 601) (by decide +kernel), List.mem_of_getElem? (i := 602) (by decide +kernel)⟩
theorem lw_p18 : lw_okq (⟨"LinenSigns$Tape", "step", "()V"⟩, 6) := ⟨⟨by decide +kernel, by decide +kernel⟩, List.mem_of_getElem? (i := 170) (by decide +kernel), List.mem_of_getElem? (i := 644) (by decide +kernel), List.mem_of_getElem? (i := 645) (by decide +kernel)⟩
theorem lw_p19 : lw_okq (⟨"LinenSigns$Tape", "isWord", "(Ljava/lang/String;)Z"⟩, 6) := ⟨⟨by decide +kernel, by decide +kernel⟩, List.mem_of_getElem? (i := 170) (by decide +kernel), List.mem_of_getElem? (i := 652) (by decide +kernel), List.mem_of_getElem? (i := 653) (by decide +kernel)⟩
theorem lw_p20 : lw_okq (⟨"LinenSigns$Tape", "lineItem", "(LLinenSigns$Town;)Z"⟩, 6) := ⟨⟨by decide +kernel, by decide +kernel⟩, List.mem_of_getElem? (i := 170) (by decide +kernel), List.mem_of_getElem? (i := 704) (by decide +kernel), List.mem_of_getElem? (i := 705) (by decide +kernel)⟩
theorem lw_p21 : lw_okq (⟨"LinenSigns$Tape", "takeNumber", "(II)Z"⟩, 6) := ⟨⟨by decide +kernel, by decide +kernel⟩, List.mem_of_getElem? (i := 170) (by decide +kernel), List.mem_of_getElem? (i := 708) (by decide +kernel), List.mem_of_getElem? (i := 709) (by decide +kernel)⟩
theorem lw_p22 : lw_okq (⟨"LinenSigns$Tape", "numberHere", "()I"⟩, 6) := ⟨⟨by decide +kernel, by decide +kernel⟩, List.mem_of_getElem? (i := 170) (by decide +kernel), List.mem_of_getElem? (i := 712) (by decide +kernel), List.mem_of_getElem? (i := 713) (by decide +kernel)⟩
theorem lw_p23 : lw_okq (⟨"LinenSigns$Tape", "garment", "(LLinenSigns$Row;)Z"⟩, 6) := ⟨⟨by decide +kernel, by decide +kernel⟩, List.mem_of_getElem? (i := 170) (by decide +kernel), List.mem_of_getElem? (i := 718) (by decide +kernel), List.mem_of_getElem? (i := 719) (by decide +kernel)⟩
theorem lw_p24 : lw_okq (⟨"LinenSigns$Tape", "kindTold", "()I"⟩, 6) := ⟨⟨by decide +kernel, by decide +kernel⟩, List.mem_of_getElem? (i := 170) (by decide +kernel), List.mem_of_getElem? (i := 722) (by decide +kernel), List.mem_of_getElem? (i := 723) (by decide +kernel)⟩
theorem lw_p25 : lw_okq (⟨"LinenSigns$Tape", "windItem", "(LLinenSigns$Town;)Z"⟩, 6) := ⟨⟨by decide +kernel, by decide +kernel⟩, List.mem_of_getElem? (i := 170) (by decide +kernel), List.mem_of_getElem? (i := 738) (by decide +kernel), List.mem_of_getElem? (i := 739) (by decide +kernel)⟩
theorem lw_p26 : lw_okq (⟨"LinenSigns$Tape", "meaningItem", "(LLinenSigns$Town;)Z"⟩, 6) := ⟨⟨by decide +kernel, by decide +kernel⟩, List.mem_of_getElem? (i := 170) (by decide +kernel), List.mem_of_getElem? (i := 743) (by decide +kernel), List.mem_of_getElem? (i := 744) (by decide +kernel)⟩
theorem lw_p27 : lw_okq (⟨"LinenSigns$Tape", "forgetItem", "(LLinenSigns$Town;)Z"⟩, 6) := ⟨⟨by decide +kernel, by decide +kernel⟩, List.mem_of_getElem? (i := 170) (by decide +kernel), List.mem_of_getElem? (i := 748) (by decide +kernel), List.mem_of_getElem? (i := 749) (by decide +kernel)⟩
theorem lw_p28 : lw_okq (⟨"LinenSigns", "sheetFinding", "(I)I"⟩, 9) := ⟨⟨by decide +kernel, by decide +kernel⟩, List.mem_of_getElem? (i := 19) (by decide +kernel), List.mem_of_getElem? (i := 773) (by decide +kernel), List.mem_of_getElem? (i := 774) (by decide +kernel)⟩
theorem lw_p29 : lw_okq (⟨"LinenSigns", "sheetAndLineFinding", "(II)I"⟩, 9) := ⟨⟨by decide +kernel, by decide +kernel⟩, List.mem_of_getElem? (i := 19) (by decide +kernel), List.mem_of_getElem? (i := 795) (by decide +kernel), List.mem_of_getElem? (i := 796) (by decide +kernel)⟩
theorem lw_p30 : lw_okq (⟨"LinenSignsModel", "finds", "(I)I"⟩, 21) := ⟨⟨by decide +kernel, by decide +kernel⟩, List.mem_of_getElem? (i := 832) (by decide +kernel), List.mem_of_getElem? (i := 918) (by decide +kernel), List.mem_of_getElem? (i := 919) (by decide +kernel)⟩
theorem lw_p31 : lw_okq (⟨"LinenSignsModel", "hangs", "(IIII)V"⟩, 21) := ⟨⟨by decide +kernel, by decide +kernel⟩, List.mem_of_getElem? (i := 832) (by decide +kernel), List.mem_of_getElem? (i := 923) (by decide +kernel), List.mem_of_getElem? (i := 924) (by decide +kernel)⟩
def lw_privs_2 : List (MethodName × Nat) := [(⟨"LinenSigns$Orders", "meaningBit", "(I)I"⟩, 16), (⟨"LinenSigns", "worthJoined", "(LLinenSigns$Row;LLinenSigns$Row;I)I"⟩, 9), (⟨"LinenSigns$Tape", "step", "()V"⟩, 6), (⟨"LinenSigns$Tape", "isWord", "(Ljava/lang/String;)Z"⟩, 6), (⟨"LinenSigns$Tape", "lineItem", "(LLinenSigns$Town;)Z"⟩, 6), (⟨"LinenSigns$Tape", "takeNumber", "(II)Z"⟩, 6), (⟨"LinenSigns$Tape", "numberHere", "()I"⟩, 6), (⟨"LinenSigns$Tape", "garment", "(LLinenSigns$Row;)Z"⟩, 6), (⟨"LinenSigns$Tape", "kindTold", "()I"⟩, 6), (⟨"LinenSigns$Tape", "windItem", "(LLinenSigns$Town;)Z"⟩, 6), (⟨"LinenSigns$Tape", "meaningItem", "(LLinenSigns$Town;)Z"⟩, 6), (⟨"LinenSigns$Tape", "forgetItem", "(LLinenSigns$Town;)Z"⟩, 6), (⟨"LinenSigns", "sheetFinding", "(I)I"⟩, 9), (⟨"LinenSigns", "sheetAndLineFinding", "(II)I"⟩, 9), (⟨"LinenSignsModel", "finds", "(I)I"⟩, 21), (⟨"LinenSignsModel", "hangs", "(IIII)V"⟩, 21)]
theorem lw_r2 : ∀ q ∈ lw_privs_2, lw_okq q := List.forall_mem_cons.mpr ⟨lw_p16, List.forall_mem_cons.mpr ⟨lw_p17, List.forall_mem_cons.mpr ⟨lw_p18, List.forall_mem_cons.mpr ⟨lw_p19, List.forall_mem_cons.mpr ⟨lw_p20, List.forall_mem_cons.mpr ⟨lw_p21, List.forall_mem_cons.mpr ⟨lw_p22, List.forall_mem_cons.mpr ⟨lw_p23, List.forall_mem_cons.mpr ⟨lw_p24, List.forall_mem_cons.mpr ⟨lw_p25, List.forall_mem_cons.mpr ⟨lw_p26, List.forall_mem_cons.mpr ⟨lw_p27, List.forall_mem_cons.mpr ⟨lw_p28, List.forall_mem_cons.mpr ⟨lw_p29, List.forall_mem_cons.mpr ⟨lw_p30, List.forall_mem_cons.mpr ⟨lw_p31, fun _ h => absurd h List.not_mem_nil⟩⟩⟩⟩⟩⟩⟩⟩⟩⟩⟩⟩⟩⟩⟩⟩
theorem lw_p32 : lw_okq (⟨"LinenSignsModel", "isPeg", "(II)Z"⟩, 21) := ⟨⟨by decide +kernel, by decide +kernel⟩, List.mem_of_getElem? (i := 832) (by decide +kernel), List.mem_of_getElem? (i := 934) (by decide +kernel), List.mem_of_getElem? (i := 935) (by decide +kernel)⟩
theorem lw_p33 : lw_okq (⟨"LinenSignsModel", "lays", "(I)V"⟩, 21) := ⟨⟨by decide +kernel, by decide +kernel⟩, List.mem_of_getElem? (i := 832) (by decide +kernel), List.mem_of_getElem? (i := 943) (by decide +kernel), List.mem_of_getElem? (i := 944) (by decide +kernel)⟩
theorem lw_p34 : lw_okq (⟨"LinenSignsModel", "isSeen", "(II)Z"⟩, 21) := ⟨⟨by decide +kernel, by decide +kernel⟩, List.mem_of_getElem? (i := 832) (by decide +kernel), List.mem_of_getElem? (i := 947) (by decide +kernel), List.mem_of_getElem? (i := 948) (by decide +kernel)⟩
theorem lw_p35 : lw_okq (⟨"LinenSignsModel", "worthOfFirst", "(II)I"⟩, 21) := ⟨⟨by decide +kernel, by decide +kernel⟩, List.mem_of_getElem? (i := 832) (by decide +kernel), List.mem_of_getElem? (i := 951) (by decide +kernel), List.mem_of_getElem? (i := 952) (by decide +kernel)⟩
theorem lw_p36 : lw_okq (⟨"LinenSignsModel", "becomesBy", "(III)I"⟩, 21) := ⟨⟨by decide +kernel, by decide +kernel⟩, List.mem_of_getElem? (i := 832) (by decide +kernel), List.mem_of_getElem? (i := 955) (by decide +kernel), List.mem_of_getElem? (i := 956) (by decide +kernel)⟩
theorem lw_p37 : lw_okq (⟨"LinenSignsModel", "becomes", "(II)I"⟩, 21) := ⟨⟨by decide +kernel, by decide +kernel⟩, List.mem_of_getElem? (i := 832) (by decide +kernel), List.mem_of_getElem? (i := 970) (by decide +kernel), List.mem_of_getElem? (i := 971) (by decide +kernel)⟩
theorem lw_p38 : lw_okq (⟨"LinenSignsModel", "hangsAside", "(I)V"⟩, 21) := ⟨⟨by decide +kernel, by decide +kernel⟩, List.mem_of_getElem? (i := 832) (by decide +kernel), List.mem_of_getElem? (i := 1001) (by decide +kernel), List.mem_of_getElem? (i := 1002) (by decide +kernel)⟩
theorem lw_p39 : lw_okq (⟨"LinenSignsModel", "readAs", "(I)I"⟩, 21) := ⟨⟨by decide +kernel, by decide +kernel⟩, List.mem_of_getElem? (i := 832) (by decide +kernel), List.mem_of_getElem? (i := 1039) (by decide +kernel), List.mem_of_getElem? (i := 1040) (by decide +kernel)⟩
theorem lw_p40 : lw_okq (⟨"LinenSignsModel", "orNone", "(I)I"⟩, 21) := ⟨⟨by decide +kernel, by decide +kernel⟩, List.mem_of_getElem? (i := 832) (by decide +kernel), List.mem_of_getElem? (i := 1043) (by decide +kernel), List.mem_of_getElem? (i := 1044) (by decide +kernel)⟩
theorem lw_p41 : lw_okq (⟨"LinenSignsModel", "worthBy", "(II)I"⟩, 21) := ⟨⟨by decide +kernel, by decide +kernel⟩, List.mem_of_getElem? (i := 832) (by decide +kernel), List.mem_of_getElem? (i := 1055) (by decide +kernel), List.mem_of_getElem? (i := 1056) (by decide +kernel)⟩
theorem lw_p42 : lw_okq (⟨"LinenSignsModel", "windsOf", "(II)I"⟩, 21) := ⟨⟨by decide +kernel, by decide +kernel⟩, List.mem_of_getElem? (i := 832) (by decide +kernel), List.mem_of_getElem? (i := 1071) (by decide +kernel), List.mem_of_getElem? (i := 1072) (by decide +kernel)⟩
theorem lw_p43 : lw_okq (⟨"LinenSignsModel", "laysBut", "(II)V"⟩, 21) := ⟨⟨by decide +kernel, by decide +kernel⟩, List.mem_of_getElem? (i := 832) (by decide +kernel), List.mem_of_getElem? (i := 1079) (by decide +kernel), List.mem_of_getElem? (i := 1080) (by decide +kernel)⟩
theorem lw_p44 : lw_okq (⟨"LinenSignsModel", "worthAside", "()I"⟩, 21) := ⟨⟨by decide +kernel, by decide +kernel⟩, List.mem_of_getElem? (i := 832) (by decide +kernel), List.mem_of_getElem? (i := 1083) (by decide +kernel), List.mem_of_getElem? (i := 1084) (by decide +kernel)⟩
theorem lw_p45 : lw_okq (⟨"LinenSignsModel", "fewestSet", "(II)I"⟩, 21) := ⟨⟨by decide +kernel, by decide +kernel⟩, List.mem_of_getElem? (i := 832) (by decide +kernel), List.mem_of_getElem? (i := 1091) (by decide +kernel), List.mem_of_getElem? (i := 1092) (by decide +kernel)⟩
theorem lw_p46 : lw_okq (⟨"LinenSignsModel", "beginsOrders", "(I)V"⟩, 21) := ⟨⟨by decide +kernel, by decide +kernel⟩, List.mem_of_getElem? (i := 832) (by decide +kernel), List.mem_of_getElem? (i := 1110) (by decide +kernel), List.mem_of_getElem? (i := 1111) (by decide +kernel)⟩
theorem lw_p47 : lw_okq (⟨"LinenSignsModel", "hasNext", "(I)Z"⟩, 21) := ⟨⟨by decide +kernel, by decide +kernel⟩, List.mem_of_getElem? (i := 832) (by decide +kernel), List.mem_of_getElem? (i := 1114) (by decide +kernel), List.mem_of_getElem? (i := 1115) (by decide +kernel)⟩
def lw_privs_3 : List (MethodName × Nat) := [(⟨"LinenSignsModel", "isPeg", "(II)Z"⟩, 21), (⟨"LinenSignsModel", "lays", "(I)V"⟩, 21), (⟨"LinenSignsModel", "isSeen", "(II)Z"⟩, 21), (⟨"LinenSignsModel", "worthOfFirst", "(II)I"⟩, 21), (⟨"LinenSignsModel", "becomesBy", "(III)I"⟩, 21), (⟨"LinenSignsModel", "becomes", "(II)I"⟩, 21), (⟨"LinenSignsModel", "hangsAside", "(I)V"⟩, 21), (⟨"LinenSignsModel", "readAs", "(I)I"⟩, 21), (⟨"LinenSignsModel", "orNone", "(I)I"⟩, 21), (⟨"LinenSignsModel", "worthBy", "(II)I"⟩, 21), (⟨"LinenSignsModel", "windsOf", "(II)I"⟩, 21), (⟨"LinenSignsModel", "laysBut", "(II)V"⟩, 21), (⟨"LinenSignsModel", "worthAside", "()I"⟩, 21), (⟨"LinenSignsModel", "fewestSet", "(II)I"⟩, 21), (⟨"LinenSignsModel", "beginsOrders", "(I)V"⟩, 21), (⟨"LinenSignsModel", "hasNext", "(I)Z"⟩, 21)]
theorem lw_r3 : ∀ q ∈ lw_privs_3, lw_okq q := List.forall_mem_cons.mpr ⟨lw_p32, List.forall_mem_cons.mpr ⟨lw_p33, List.forall_mem_cons.mpr ⟨lw_p34, List.forall_mem_cons.mpr ⟨lw_p35, List.forall_mem_cons.mpr ⟨lw_p36, List.forall_mem_cons.mpr ⟨lw_p37, List.forall_mem_cons.mpr ⟨lw_p38, List.forall_mem_cons.mpr ⟨lw_p39, List.forall_mem_cons.mpr ⟨lw_p40, List.forall_mem_cons.mpr ⟨lw_p41, List.forall_mem_cons.mpr ⟨lw_p42, List.forall_mem_cons.mpr ⟨lw_p43, List.forall_mem_cons.mpr ⟨lw_p44, List.forall_mem_cons.mpr ⟨lw_p45, List.forall_mem_cons.mpr ⟨lw_p46, List.forall_mem_cons.mpr ⟨lw_p47, fun _ h => absurd h List.not_mem_nil⟩⟩⟩⟩⟩⟩⟩⟩⟩⟩⟩⟩⟩⟩⟩⟩
theorem lw_p48 : lw_okq (⟨"LinenSignsModel", "swapsOrder", "(II)V"⟩, 21) := ⟨⟨by decide +kernel, by decide +kernel⟩, List.mem_of_getElem? (i := 832) (by decide +kernel), List.mem_of_getElem? (i := 1118) (by decide +kernel), List.mem_of_getElem? (i := 1119) (by decide +kernel)⟩
theorem lw_p49 : lw_okq (⟨"LinenSignsModel", "laysOrder", "(I)V"⟩, 21) := ⟨⟨by decide +kernel, by decide +kernel⟩, List.mem_of_getElem? (i := 832) (by decide +kernel), List.mem_of_getElem? (i := 1122) (by decide +kernel), List.mem_of_getElem? (i := 1123) (by decide +kernel)⟩
theorem lw_p50 : lw_okq (⟨"LinenSignsModel", "furthest", "(II)I"⟩, 21) := ⟨⟨by decide +kernel, by decide +kernel⟩, List.mem_of_getElem? (i := 832) (by decide +kernel), List.mem_of_getElem? (i := 1130) (by decide +kernel), List.mem_of_getElem? (i := 1131) (by decide +kernel)⟩
theorem lw_p51 : lw_okq (⟨"LinenSignsModel", "notesOrder", "()V"⟩, 21) := ⟨⟨by decide +kernel, by decide +kernel⟩, List.mem_of_getElem? (i := 832) (by decide +kernel), List.mem_of_getElem? (i := 1142) (by decide +kernel), List.mem_of_getElem? (i := 1143) (by decide +kernel)⟩
theorem lw_p52 : lw_okq (⟨"LinenSignsModel", "nextToken", "()V"⟩, 21) := ⟨⟨by decide +kernel, by decide +kernel⟩, List.mem_of_getElem? (i := 832) (by decide +kernel), List.mem_of_getElem? (i := 1181) (by decide +kernel), List.mem_of_getElem? (i := 1182) (by decide +kernel)⟩
theorem lw_p53 : lw_okq (⟨"LinenSignsModel", "byteAt", "(I)I"⟩, 21) := ⟨⟨by decide +kernel, by decide +kernel⟩, List.mem_of_getElem? (i := 832) (by decide +kernel), List.mem_of_getElem? (i := 1185) (by decide +kernel), List.mem_of_getElem? (i := 1186) (by decide +kernel)⟩
theorem lw_p54 : lw_okq (⟨"LinenSignsModel", "itemHere", "()Z"⟩, 21) := ⟨⟨by decide +kernel, by decide +kernel⟩, List.mem_of_getElem? (i := 832) (by decide +kernel), List.mem_of_getElem? (i := 1195) (by decide +kernel), List.mem_of_getElem? (i := 1196) (by decide +kernel)⟩
theorem lw_p55 : lw_okq (⟨"LinenSignsModel", "isFour", "(IIII)Z"⟩, 21) := ⟨⟨by decide +kernel, by decide +kernel⟩, List.mem_of_getElem? (i := 832) (by decide +kernel), List.mem_of_getElem? (i := 1199) (by decide +kernel), List.mem_of_getElem? (i := 1200) (by decide +kernel)⟩
theorem lw_p56 : lw_okq (⟨"LinenSignsModel", "isWord", "(I)Z"⟩, 21) := ⟨⟨by decide +kernel, by decide +kernel⟩, List.mem_of_getElem? (i := 832) (by decide +kernel), List.mem_of_getElem? (i := 1203) (by decide +kernel), List.mem_of_getElem? (i := 1204) (by decide +kernel)⟩
theorem lw_p57 : lw_okq (⟨"LinenSignsModel", "has3", "(IIII)Z"⟩, 21) := ⟨⟨by decide +kernel, by decide +kernel⟩, List.mem_of_getElem? (i := 832) (by decide +kernel), List.mem_of_getElem? (i := 1207) (by decide +kernel), List.mem_of_getElem? (i := 1208) (by decide +kernel)⟩
theorem lw_p58 : lw_okq (⟨"LinenSignsModel", "lineHere", "()Z"⟩, 21) := ⟨⟨by decide +kernel, by decide +kernel⟩, List.mem_of_getElem? (i := 832) (by decide +kernel), List.mem_of_getElem? (i := 1211) (by decide +kernel), List.mem_of_getElem? (i := 1212) (by decide +kernel)⟩
theorem lw_p59 : lw_okq (⟨"LinenSignsModel", "isNumber", "(II)Z"⟩, 21) := ⟨⟨by decide +kernel, by decide +kernel⟩, List.mem_of_getElem? (i := 832) (by decide +kernel), List.mem_of_getElem? (i := 1215) (by decide +kernel), List.mem_of_getElem? (i := 1216) (by decide +kernel)⟩
theorem lw_p60 : lw_okq (⟨"LinenSignsModel", "fails", "()Z"⟩, 21) := ⟨⟨by decide +kernel, by decide +kernel⟩, List.mem_of_getElem? (i := 832) (by decide +kernel), List.mem_of_getElem? (i := 1219) (by decide +kernel), List.mem_of_getElem? (i := 1220) (by decide +kernel)⟩
theorem lw_p61 : lw_okq (⟨"LinenSignsModel", "garmentHere", "(I)Z"⟩, 21) := ⟨⟨by decide +kernel, by decide +kernel⟩, List.mem_of_getElem? (i := 832) (by decide +kernel), List.mem_of_getElem? (i := 1223) (by decide +kernel), List.mem_of_getElem? (i := 1224) (by decide +kernel)⟩
theorem lw_p62 : lw_okq (⟨"LinenSignsModel", "kindHere", "()I"⟩, 21) := ⟨⟨by decide +kernel, by decide +kernel⟩, List.mem_of_getElem? (i := 832) (by decide +kernel), List.mem_of_getElem? (i := 1227) (by decide +kernel), List.mem_of_getElem? (i := 1228) (by decide +kernel)⟩
theorem lw_p63 : lw_okq (⟨"LinenSignsModel", "isFive", "(IIIII)Z"⟩, 21) := ⟨⟨by decide +kernel, by decide +kernel⟩, List.mem_of_getElem? (i := 832) (by decide +kernel), List.mem_of_getElem? (i := 1231) (by decide +kernel), List.mem_of_getElem? (i := 1232) (by decide +kernel)⟩
def lw_privs_4 : List (MethodName × Nat) := [(⟨"LinenSignsModel", "swapsOrder", "(II)V"⟩, 21), (⟨"LinenSignsModel", "laysOrder", "(I)V"⟩, 21), (⟨"LinenSignsModel", "furthest", "(II)I"⟩, 21), (⟨"LinenSignsModel", "notesOrder", "()V"⟩, 21), (⟨"LinenSignsModel", "nextToken", "()V"⟩, 21), (⟨"LinenSignsModel", "byteAt", "(I)I"⟩, 21), (⟨"LinenSignsModel", "itemHere", "()Z"⟩, 21), (⟨"LinenSignsModel", "isFour", "(IIII)Z"⟩, 21), (⟨"LinenSignsModel", "isWord", "(I)Z"⟩, 21), (⟨"LinenSignsModel", "has3", "(IIII)Z"⟩, 21), (⟨"LinenSignsModel", "lineHere", "()Z"⟩, 21), (⟨"LinenSignsModel", "isNumber", "(II)Z"⟩, 21), (⟨"LinenSignsModel", "fails", "()Z"⟩, 21), (⟨"LinenSignsModel", "garmentHere", "(I)Z"⟩, 21), (⟨"LinenSignsModel", "kindHere", "()I"⟩, 21), (⟨"LinenSignsModel", "isFive", "(IIIII)Z"⟩, 21)]
theorem lw_r4 : ∀ q ∈ lw_privs_4, lw_okq q := List.forall_mem_cons.mpr ⟨lw_p48, List.forall_mem_cons.mpr ⟨lw_p49, List.forall_mem_cons.mpr ⟨lw_p50, List.forall_mem_cons.mpr ⟨lw_p51, List.forall_mem_cons.mpr ⟨lw_p52, List.forall_mem_cons.mpr ⟨lw_p53, List.forall_mem_cons.mpr ⟨lw_p54, List.forall_mem_cons.mpr ⟨lw_p55, List.forall_mem_cons.mpr ⟨lw_p56, List.forall_mem_cons.mpr ⟨lw_p57, List.forall_mem_cons.mpr ⟨lw_p58, List.forall_mem_cons.mpr ⟨lw_p59, List.forall_mem_cons.mpr ⟨lw_p60, List.forall_mem_cons.mpr ⟨lw_p61, List.forall_mem_cons.mpr ⟨lw_p62, List.forall_mem_cons.mpr ⟨lw_p63, fun _ h => absurd h List.not_mem_nil⟩⟩⟩⟩⟩⟩⟩⟩⟩⟩⟩⟩⟩⟩⟩⟩
theorem lw_p64 : lw_okq (⟨"LinenSignsModel", "windHere", "()Z"⟩, 21) := ⟨⟨by decide +kernel, by decide +kernel⟩, List.mem_of_getElem? (i := 832) (by decide +kernel), List.mem_of_getElem? (i := 1235) (by decide +kernel), List.mem_of_getElem? (i := 1236) (by decide +kernel)⟩
theorem lw_p65 : lw_okq (⟨"LinenSignsModel", "meaningHere", "()Z"⟩, 21) := ⟨⟨by decide +kernel, by decide +kernel⟩, List.mem_of_getElem? (i := 832) (by decide +kernel), List.mem_of_getElem? (i := 1239) (by decide +kernel), List.mem_of_getElem? (i := 1240) (by decide +kernel)⟩
theorem lw_p66 : lw_okq (⟨"LinenSignsModel", "isSix", "(IIIIII)Z"⟩, 21) := ⟨⟨by decide +kernel, by decide +kernel⟩, List.mem_of_getElem? (i := 832) (by decide +kernel), List.mem_of_getElem? (i := 1243) (by decide +kernel), List.mem_of_getElem? (i := 1244) (by decide +kernel)⟩
theorem lw_p67 : lw_okq (⟨"LinenSignsModel", "forgetHere", "()Z"⟩, 21) := ⟨⟨by decide +kernel, by decide +kernel⟩, List.mem_of_getElem? (i := 832) (by decide +kernel), List.mem_of_getElem? (i := 1247) (by decide +kernel), List.mem_of_getElem? (i := 1248) (by decide +kernel)⟩
theorem lw_p68 : lw_okq (⟨"LinenSignsModel", "wants", "(I)I"⟩, 21) := ⟨⟨by decide +kernel, by decide +kernel⟩, List.mem_of_getElem? (i := 832) (by decide +kernel), List.mem_of_getElem? (i := 1275) (by decide +kernel), List.mem_of_getElem? (i := 1276) (by decide +kernel)⟩
theorem lw_p69 : lw_okq (⟨"LinenSignsModel", "garments", "()I"⟩, 21) := ⟨⟨by decide +kernel, by decide +kernel⟩, List.mem_of_getElem? (i := 832) (by decide +kernel), List.mem_of_getElem? (i := 1296) (by decide +kernel), List.mem_of_getElem? (i := 1297) (by decide +kernel)⟩
def lw_privs_5 : List (MethodName × Nat) := [(⟨"LinenSignsModel", "windHere", "()Z"⟩, 21), (⟨"LinenSignsModel", "meaningHere", "()Z"⟩, 21), (⟨"LinenSignsModel", "isSix", "(IIIIII)Z"⟩, 21), (⟨"LinenSignsModel", "forgetHere", "()Z"⟩, 21), (⟨"LinenSignsModel", "wants", "(I)I"⟩, 21), (⟨"LinenSignsModel", "garments", "()I"⟩, 21)]
theorem lw_r5 : ∀ q ∈ lw_privs_5, lw_okq q := List.forall_mem_cons.mpr ⟨lw_p64, List.forall_mem_cons.mpr ⟨lw_p65, List.forall_mem_cons.mpr ⟨lw_p66, List.forall_mem_cons.mpr ⟨lw_p67, List.forall_mem_cons.mpr ⟨lw_p68, List.forall_mem_cons.mpr ⟨lw_p69, fun _ h => absurd h List.not_mem_nil⟩⟩⟩⟩⟩⟩
def lw_privs : List (MethodName × Nat) := lw_privs_1 ++ (lw_privs_2 ++ (lw_privs_3 ++ (lw_privs_4 ++ (lw_privs_5))))
def lw_tbl : List Cond := k2_sels lw_privs ++ tables_1
theorem lw_privs_ok : ∀ q ∈ lw_privs, lw_okq q := by
  show ∀ q ∈ lw_privs_1 ++ (lw_privs_2 ++ (lw_privs_3 ++ (lw_privs_4 ++ (lw_privs_5)))), lw_okq q
  exact List.forall_mem_append.mpr ⟨lw_r1, List.forall_mem_append.mpr ⟨lw_r2, List.forall_mem_append.mpr ⟨lw_r3, List.forall_mem_append.mpr ⟨lw_r4, lw_r5⟩⟩⟩⟩

def RX0 : String := "LinenSigns$Orders"
def TX0 : u_T := fun k => match k with
  | 0 => ("LinenSigns$Orders", "town", "LLinenSigns$Town;", true)
  | 1 => ("LinenSigns$Orders", "row", "LLinenSigns$Row;", true)
  | 2 => ("LinenSigns$Orders", "sayings", "[I", true)
  | 3 => ("LinenSigns$Orders", "twins", "[I", true)
  | 4 => ("LinenSigns$Orders", "pegs", "[I", true)
  | 5 => ("LinenSigns$Orders", "nearestPegs", "[I", true)
  | 6 => ("LinenSigns$Orders", "met", "[J", true)
  | 7 => ("LinenSigns$Orders", "meaning", "I", false)
  | 8 => ("LinenSigns$Orders", "aim", "I", false)
  | 9 => ("LinenSigns$Orders", "weight", "I", false)
  | 10 => ("LinenSigns$Orders", "hungPegs", "I", false)
  | 11 => ("LinenSigns$Orders", "isFirst", "Z", false)
  | 12 => ("LinenSigns$Orders", "readSo", "I", false)
  | 13 => ("LinenSigns$Orders", "greatest", "I", false)
  | 14 => ("LinenSigns$Orders", "smallest", "I", false)
  | _ => ("LinenSigns$Orders", "nearest", "I", false)
def tyX0 : Nat → FieldType := fun k => match k with
  | 0 => .object "LinenSigns$Town"
  | 1 => .object "LinenSigns$Row"
  | 2 => .array .int
  | 3 => .array .int
  | 4 => .array .int
  | 5 => .array .int
  | 6 => .array .long
  | 7 => .int
  | 8 => .int
  | 9 => .int
  | 10 => .int
  | 11 => .boolean
  | 12 => .int
  | 13 => .int
  | 14 => .int
  | _ => .int
abbrev wsX00 : List Cond := u_ws RX0 TX0 16
theorem nmX0 : ∀ a, a < 16 → ∀ b, b < 16 → a ≠ b → (TX0 a).2.1 ≠ (TX0 b).2.1 := by decide +kernel
theorem tyX0_ok : ∀ k, k < 16 → parseFieldDescriptor (TX0 k).2.2.1 = some (tyX0 k) := by decide +kernel
abbrev cX0_init : ByteArray := prog_2_method_1_code
def yX0_init : MethodName := ⟨RX0, "<init>", "(LLinenSigns$Town;)V"⟩
abbrev cX0_walk : ByteArray := prog_2_method_2_code
def yX0_walk : MethodName := ⟨RX0, "walk", "(LLinenSigns$Row;II)V"⟩
abbrev cX0_findTwins : ByteArray := prog_2_method_3_code
def yX0_findTwins : MethodName := ⟨RX0, "findTwins", "()V"⟩
abbrev cX0_saying : ByteArray := prog_2_method_4_code
def yX0_saying : MethodName := ⟨RX0, "saying", "(I)I"⟩
abbrev cX0_hangNext : ByteArray := prog_2_method_5_code
def yX0_hangNext : MethodName := ⟨RX0, "hangNext", "(III)V"⟩
abbrev cX0_mayHang : ByteArray := prog_2_method_6_code
def yX0_mayHang : MethodName := ⟨RX0, "mayHang", "(I)Z"⟩
abbrev cX0_isHanging : ByteArray := prog_2_method_7_code
def yX0_isHanging : MethodName := ⟨RX0, "isHanging", "(I)Z"⟩
abbrev cX0_arrive : ByteArray := prog_2_method_8_code
def yX0_arrive : MethodName := ⟨RX0, "arrive", "(I)V"⟩
abbrev cX0_arrangeNearest : ByteArray := prog_2_method_9_code
def yX0_arrangeNearest : MethodName := ⟨RX0, "arrangeNearest", "(LLinenSigns$Row;)V"⟩
abbrev cX0_unlikeWorths : ByteArray := prog_2_method_10_code
def yX0_unlikeWorths : MethodName := ⟨RX0, "unlikeWorths", "()I"⟩
abbrev cX0_meaningsMet : ByteArray := prog_2_method_11_code
def yX0_meaningsMet : MethodName := ⟨RX0, "meaningsMet", "()I"⟩
abbrev cX0_meaningBit : ByteArray := prog_2_method_12_code
def yX0_meaningBit : MethodName := ⟨RX0, "meaningBit", "(I)I"⟩
def RX1 : String := "LinenSigns$Row"
def TX1 : u_T := fun k => match k with
  | 0 => ("LinenSigns$Row", "kinds", "[I", true)
  | 1 => ("LinenSigns$Row", "sizes", "[I", true)
  | 2 => ("LinenSigns$Row", "wets", "[I", true)
  | _ => ("LinenSigns$Row", "length", "I", false)
def tyX1 : Nat → FieldType := fun k => match k with
  | 0 => .array .int
  | 1 => .array .int
  | 2 => .array .int
  | _ => .int
abbrev wsX10 : List Cond := u_ws RX1 TX1 4
theorem nmX1 : ∀ a, a < 4 → ∀ b, b < 4 → a ≠ b → (TX1 a).2.1 ≠ (TX1 b).2.1 := by decide +kernel
theorem tyX1_ok : ∀ k, k < 4 → parseFieldDescriptor (TX1 k).2.2.1 = some (tyX1 k) := by decide +kernel
abbrev cX1_init : ByteArray := prog_3_method_1_code
def yX1_init : MethodName := ⟨RX1, "<init>", "()V"⟩
abbrev cX1_clear : ByteArray := prog_3_method_2_code
def yX1_clear : MethodName := ⟨RX1, "clear", "()V"⟩
abbrev cX1_add : ByteArray := prog_3_method_3_code
def yX1_add : MethodName := ⟨RX1, "add", "(III)V"⟩
abbrev cX1_put : ByteArray := prog_3_method_4_code
def yX1_put : MethodName := ⟨RX1, "put", "(IIII)V"⟩
abbrev cX1_remove : ByteArray := prog_3_method_5_code
def yX1_remove : MethodName := ⟨RX1, "remove", "(I)V"⟩
abbrev cX1_exchange : ByteArray := prog_3_method_6_code
def yX1_exchange : MethodName := ⟨RX1, "exchange", "(II)V"⟩
abbrev cX1_become : ByteArray := prog_3_method_7_code
def yX1_become : MethodName := ⟨RX1, "become", "(LLinenSigns$Row;)V"⟩
abbrev cX1_isSeenAt : ByteArray := prog_3_method_8_code
def yX1_isSeenAt : MethodName := ⟨RX1, "isSeenAt", "(II)Z"⟩
abbrev cX1_pegsLike : ByteArray := prog_3_method_9_code
def yX1_pegsLike : MethodName := ⟨RX1, "pegsLike", "(LLinenSigns$Row;)I"⟩
abbrev cX1_dry : ByteArray := prog_3_method_10_code
def yX1_dry : MethodName := ⟨RX1, "dry", "(I)I"⟩
def RX2 : String := "LinenSigns$Sheet"
def TX2 : u_T := fun k => match k with
  | 0 => ("LinenSigns$Sheet", "cells", "[J", true)
  | 1 => ("LinenSigns$Sheet", "bits", "I", false)
  | _ => ("LinenSigns$Sheet", "length", "I", false)
def tyX2 : Nat → FieldType := fun k => match k with
  | 0 => .array .long
  | 1 => .int
  | _ => .int
abbrev wsX20 : List Cond := u_ws RX2 TX2 3
theorem nmX2 : ∀ a, a < 3 → ∀ b, b < 3 → a ≠ b → (TX2 a).2.1 ≠ (TX2 b).2.1 := by decide +kernel
theorem tyX2_ok : ∀ k, k < 3 → parseFieldDescriptor (TX2 k).2.2.1 = some (tyX2 k) := by decide +kernel
abbrev cX2_init : ByteArray := prog_4_method_1_code
def yX2_init : MethodName := ⟨RX2, "<init>", "()V"⟩
abbrev cX2_begin : ByteArray := prog_4_method_2_code
def yX2_begin : MethodName := ⟨RX2, "begin", "(II)V"⟩
abbrev cX2_put : ByteArray := prog_4_method_3_code
def yX2_put : MethodName := ⟨RX2, "put", "(IJ)V"⟩
abbrev cX2_hasRange : ByteArray := prog_4_method_4_code
def yX2_hasRange : MethodName := ⟨RX2, "hasRange", "(II)Z"⟩
def RX3 : String := "LinenSigns$Tape"
def TX3 : u_T := fun k => match k with
  | 0 => ("LinenSigns$Tape", "bytes", "[I", true)
  | 1 => ("LinenSigns$Tape", "length", "I", false)
  | 2 => ("LinenSigns$Tape", "start", "I", false)
  | 3 => ("LinenSigns$Tape", "end", "I", false)
  | 4 => ("LinenSigns$Tape", "sort", "I", false)
  | _ => ("LinenSigns$Tape", "told", "I", false)
def tyX3 : Nat → FieldType := fun k => match k with
  | 0 => .array .int
  | 1 => .int
  | 2 => .int
  | 3 => .int
  | 4 => .int
  | _ => .int
abbrev wsX30 : List Cond := u_ws RX3 TX3 6
theorem nmX3 : ∀ a, a < 6 → ∀ b, b < 6 → a ≠ b → (TX3 a).2.1 ≠ (TX3 b).2.1 := by decide +kernel
theorem tyX3_ok : ∀ k, k < 6 → parseFieldDescriptor (TX3 k).2.2.1 = some (tyX3 k) := by decide +kernel
abbrev cX3_init : ByteArray := prog_5_method_1_code
def yX3_init : MethodName := ⟨RX3, "<init>", "()V"⟩
abbrev cX3_add : ByteArray := prog_5_method_2_code
def yX3_add : MethodName := ⟨RX3, "add", "(I)V"⟩
abbrev cX3_tell : ByteArray := prog_5_method_3_code
def yX3_tell : MethodName := ⟨RX3, "tell", "(LLinenSigns$Town;)I"⟩
abbrev cX3_lineItem : ByteArray := prog_5_method_4_code
def yX3_lineItem : MethodName := ⟨RX3, "lineItem", "(LLinenSigns$Town;)Z"⟩
abbrev cX3_garment : ByteArray := prog_5_method_5_code
def yX3_garment : MethodName := ⟨RX3, "garment", "(LLinenSigns$Row;)Z"⟩
abbrev cX3_windItem : ByteArray := prog_5_method_6_code
def yX3_windItem : MethodName := ⟨RX3, "windItem", "(LLinenSigns$Town;)Z"⟩
abbrev cX3_meaningItem : ByteArray := prog_5_method_7_code
def yX3_meaningItem : MethodName := ⟨RX3, "meaningItem", "(LLinenSigns$Town;)Z"⟩
abbrev cX3_forgetItem : ByteArray := prog_5_method_8_code
def yX3_forgetItem : MethodName := ⟨RX3, "forgetItem", "(LLinenSigns$Town;)Z"⟩
abbrev cX3_takeNumber : ByteArray := prog_5_method_9_code
def yX3_takeNumber : MethodName := ⟨RX3, "takeNumber", "(II)Z"⟩
abbrev cX3_kindTold : ByteArray := prog_5_method_10_code
def yX3_kindTold : MethodName := ⟨RX3, "kindTold", "()I"⟩
abbrev cX3_kindName : ByteArray := prog_5_method_11_code
def yX3_kindName : MethodName := ⟨RX3, "kindName", "(I)Ljava/lang/String;"⟩
abbrev cX3_isWord : ByteArray := prog_5_method_12_code
def yX3_isWord : MethodName := ⟨RX3, "isWord", "(Ljava/lang/String;)Z"⟩
abbrev cX3_step : ByteArray := prog_5_method_13_code
def yX3_step : MethodName := ⟨RX3, "step", "()V"⟩
abbrev cX3_numberHere : ByteArray := prog_5_method_14_code
def yX3_numberHere : MethodName := ⟨RX3, "numberHere", "()I"⟩
abbrev cX3_sortOf : ByteArray := prog_5_method_15_code
def yX3_sortOf : MethodName := ⟨RX3, "sortOf", "(I)I"⟩
def RX4 : String := "LinenSigns$Town"
def TX4 : u_T := fun k => match k with
  | 0 => ("LinenSigns$Town", "rows", "[LLinenSigns$Row;", true)
  | 1 => ("LinenSigns$Town", "numbers", "[I", true)
  | 2 => ("LinenSigns$Town", "wind", "I", false)
  | _ => ("LinenSigns$Town", "day", "I", false)
def tyX4 : Nat → FieldType := fun k => match k with
  | 0 => .array (.object "LinenSigns$Row")
  | 1 => .array .int
  | 2 => .int
  | _ => .int
abbrev wsX40 : List Cond := u_ws RX4 TX4 4
theorem nmX4 : ∀ a, a < 4 → ∀ b, b < 4 → a ≠ b → (TX4 a).2.1 ≠ (TX4 b).2.1 := by decide +kernel
theorem tyX4_ok : ∀ k, k < 4 → parseFieldDescriptor (TX4 k).2.2.1 = some (tyX4 k) := by decide +kernel
abbrev cX4_init : ByteArray := prog_6_method_1_code
def yX4_init : MethodName := ⟨RX4, "<init>", "()V"⟩
abbrev cX4_become : ByteArray := prog_6_method_2_code
def yX4_become : MethodName := ⟨RX4, "become", "(LLinenSigns$Town;)V"⟩
abbrev cX4_garments : ByteArray := prog_6_method_3_code
def yX4_garments : MethodName := ⟨RX4, "garments", "()I"⟩
abbrev cX4_letDaysGo : ByteArray := prog_6_method_4_code
def yX4_letDaysGo : MethodName := ⟨RX4, "letDaysGo", "(I)I"⟩
abbrev cX4_hasNumber : ByteArray := prog_6_method_5_code
def yX4_hasNumber : MethodName := ⟨RX4, "hasNumber", "(I)Z"⟩
abbrev cX4_meaningsTold : ByteArray := prog_6_method_6_code
def yX4_meaningsTold : MethodName := ⟨RX4, "meaningsTold", "()I"⟩
abbrev cX4_readAs : ByteArray := prog_6_method_7_code
def yX4_readAs : MethodName := ⟨RX4, "readAs", "(I)I"⟩
abbrev cX4_leastDifference : ByteArray := prog_6_method_8_code
def yX4_leastDifference : MethodName := ⟨RX4, "leastDifference", "()I"⟩
def RX5 : String := "LinenSigns$Voice"
def TX5 : u_T := fun k => match k with
  | 0 => ("LinenSigns$Voice", "worth", "I", false)
  | 1 => ("LinenSigns$Voice", "stockings", "I", false)
  | _ => ("LinenSigns$Voice", "wind", "I", false)
def tyX5 : Nat → FieldType := fun k => match k with
  | 0 => .int
  | 1 => .int
  | _ => .int
abbrev wsX50 : List Cond := u_ws RX5 TX5 3
theorem nmX5 : ∀ a, a < 3 → ∀ b, b < 3 → a ≠ b → (TX5 a).2.1 ≠ (TX5 b).2.1 := by decide +kernel
theorem tyX5_ok : ∀ k, k < 3 → parseFieldDescriptor (TX5 k).2.2.1 = some (tyX5 k) := by decide +kernel
abbrev cX5_init : ByteArray := prog_7_method_1_code
def yX5_init : MethodName := ⟨RX5, "<init>", "()V"⟩
abbrev cX5_begin : ByteArray := prog_7_method_2_code
def yX5_begin : MethodName := ⟨RX5, "begin", "(I)V"⟩
abbrev cX5_hear : ByteArray := prog_7_method_3_code
def yX5_hear : MethodName := ⟨RX5, "hear", "(LLinenSigns$Row;III)V"⟩
abbrev cX5_hearGarment : ByteArray := prog_7_method_4_code
def yX5_hearGarment : MethodName := ⟨RX5, "hearGarment", "(III)V"⟩
def RX6 : String := "LinenSigns"
def TX6 : u_T := fun k => match k with
  | 0 => ("LinenSigns", "town", "LLinenSigns$Town;", true)
  | 1 => ("LinenSigns", "kept", "LLinenSigns$Town;", true)
  | 2 => ("LinenSigns", "draft", "LLinenSigns$Town;", true)
  | 3 => ("LinenSigns", "voice", "LLinenSigns$Voice;", true)
  | 4 => ("LinenSigns", "ways", "LLinenSigns$Orders;", true)
  | 5 => ("LinenSigns", "tape", "LLinenSigns$Tape;", true)
  | 6 => ("LinenSigns", "sheets", "[LLinenSigns$Sheet;", true)
  | 7 => ("LinenSigns", "findings", "[I", true)
  | _ => ("LinenSigns", "isKept", "Z", false)
def tyX6 : Nat → FieldType := fun k => match k with
  | 0 => .object "LinenSigns$Town"
  | 1 => .object "LinenSigns$Town"
  | 2 => .object "LinenSigns$Town"
  | 3 => .object "LinenSigns$Voice"
  | 4 => .object "LinenSigns$Orders"
  | 5 => .object "LinenSigns$Tape"
  | 6 => .array (.object "LinenSigns$Sheet")
  | 7 => .array .int
  | _ => .boolean
abbrev wsX60 : List Cond := u_ws RX6 TX6 9
theorem nmX6 : ∀ a, a < 9 → ∀ b, b < 9 → a ≠ b → (TX6 a).2.1 ≠ (TX6 b).2.1 := by decide +kernel
theorem tyX6_ok : ∀ k, k < 9 → parseFieldDescriptor (TX6 k).2.2.1 = some (tyX6 k) := by decide +kernel
abbrev cX6_init : ByteArray := prog_1_method_1_code
def yX6_init : MethodName := ⟨RX6, "<init>", "()V"⟩
abbrev cX6_hang : ByteArray := prog_1_method_2_code
def yX6_hang : MethodName := ⟨RX6, "hang", "(III)I"⟩
abbrev cX6_off : ByteArray := prog_1_method_3_code
def yX6_off : MethodName := ⟨RX6, "off", "(II)I"⟩
abbrev cX6_of : ByteArray := prog_1_method_4_code
def yX6_of : MethodName := ⟨RX6, "of", "(III)I"⟩
abbrev cX6_set : ByteArray := prog_1_method_5_code
def yX6_set : MethodName := ⟨RX6, "set", "(IIII)I"⟩
abbrev cX6_turn : ByteArray := prog_1_method_6_code
def yX6_turn : MethodName := ⟨RX6, "turn", "(III)I"⟩
abbrev cX6_as : ByteArray := prog_1_method_7_code
def yX6_as : MethodName := ⟨RX6, "as", "(III)I"⟩
abbrev cX6_swap : ByteArray := prog_1_method_8_code
def yX6_swap : MethodName := ⟨RX6, "swap", "(III)I"⟩
abbrev cX6_take : ByteArray := prog_1_method_9_code
def yX6_take : MethodName := ⟨RX6, "take", "(I)I"⟩
abbrev cX6_like : ByteArray := prog_1_method_10_code
def yX6_like : MethodName := ⟨RX6, "like", "(II)I"⟩
abbrev cX6_wind : ByteArray := prog_1_method_11_code
def yX6_wind : MethodName := ⟨RX6, "wind", "(I)I"⟩
abbrev cX6_days : ByteArray := prog_1_method_12_code
def yX6_days : MethodName := ⟨RX6, "days", "(I)I"⟩
abbrev cX6_means : ByteArray := prog_1_method_13_code
def yX6_means : MethodName := ⟨RX6, "means", "(II)I"⟩
abbrev cX6_forget : ByteArray := prog_1_method_14_code
def yX6_forget : MethodName := ⟨RX6, "forget", "(I)I"⟩
abbrev cX6_number : ByteArray := prog_1_method_15_code
def yX6_number : MethodName := ⟨RX6, "number", "(I)I"⟩
abbrev cX6_read : ByteArray := prog_1_method_16_code
def yX6_read : MethodName := ⟨RX6, "read", "(I)I"⟩
abbrev cX6_apart : ByteArray := prog_1_method_17_code
def yX6_apart : MethodName := ⟨RX6, "apart", "()I"⟩
abbrev cX6_worth : ByteArray := prog_1_method_18_code
def yX6_worth : MethodName := ⟨RX6, "worth", "(I)I"⟩
abbrev cX6_worthIn : ByteArray := prog_1_method_19_code
def yX6_worthIn : MethodName := ⟨RX6, "worthIn", "(II)I"⟩
abbrev cX6_says : ByteArray := prog_1_method_20_code
def yX6_says : MethodName := ⟨RX6, "says", "(I)I"⟩
abbrev cX6_winds : ByteArray := prog_1_method_21_code
def yX6_winds : MethodName := ⟨RX6, "winds", "(I)I"⟩
abbrev cX6_lost : ByteArray := prog_1_method_22_code
def yX6_lost : MethodName := ⟨RX6, "lost", "(I)I"⟩
abbrev cX6_fewest : ByteArray := prog_1_method_23_code
def yX6_fewest : MethodName := ⟨RX6, "fewest", "(II)I"⟩
abbrev cX6_which : ByteArray := prog_1_method_24_code
def yX6_which : MethodName := ⟨RX6, "which", "(II)I"⟩
abbrev cX6_more : ByteArray := prog_1_method_25_code
def yX6_more : MethodName := ⟨RX6, "more", "(II)I"⟩
abbrev cX6_orders : ByteArray := prog_1_method_26_code
def yX6_orders : MethodName := ⟨RX6, "orders", "(II)I"⟩
abbrev cX6_most : ByteArray := prog_1_method_27_code
def yX6_most : MethodName := ⟨RX6, "most", "(I)I"⟩
abbrev cX6_least : ByteArray := prog_1_method_28_code
def yX6_least : MethodName := ⟨RX6, "least", "(I)I"⟩
abbrev cX6_order : ByteArray := prog_1_method_29_code
def yX6_order : MethodName := ⟨RX6, "order", "(II)I"⟩
abbrev cX6_worths : ByteArray := prog_1_method_30_code
def yX6_worths : MethodName := ⟨RX6, "worths", "(I)I"⟩
abbrev cX6_can : ByteArray := prog_1_method_31_code
def yX6_can : MethodName := ⟨RX6, "can", "(I)I"⟩
abbrev cX6_join : ByteArray := prog_1_method_32_code
def yX6_join : MethodName := ⟨RX6, "join", "(II)I"⟩
abbrev cX6_same : ByteArray := prog_1_method_33_code
def yX6_same : MethodName := ⟨RX6, "same", "(II)I"⟩
abbrev cX6_best : ByteArray := prog_1_method_34_code
def yX6_best : MethodName := ⟨RX6, "best", "(I)I"⟩
abbrev cX6_feed : ByteArray := prog_1_method_35_code
def yX6_feed : MethodName := ⟨RX6, "feed", "(II)I"⟩
abbrev cX6_wipe : ByteArray := prog_1_method_36_code
def yX6_wipe : MethodName := ⟨RX6, "wipe", "()I"⟩
abbrev cX6_town : ByteArray := prog_1_method_37_code
def yX6_town : MethodName := ⟨RX6, "town", "()I"⟩
abbrev cX6_sheet : ByteArray := prog_1_method_38_code
def yX6_sheet : MethodName := ⟨RX6, "sheet", "(III)I"⟩
abbrev cX6_write : ByteArray := prog_1_method_39_code
def yX6_write : MethodName := ⟨RX6, "write", "(IIJ)J"⟩
abbrev cX6_copy : ByteArray := prog_1_method_40_code
def yX6_copy : MethodName := ⟨RX6, "copy", "(IIIII)I"⟩
abbrev cX6_lays : ByteArray := prog_1_method_41_code
def yX6_lays : MethodName := ⟨RX6, "lays", "(II)I"⟩
abbrev cX6_show : ByteArray := prog_1_method_42_code
def yX6_show : MethodName := ⟨RX6, "show", "(II)I"⟩
abbrev cX6_check : ByteArray := prog_1_method_43_code
def yX6_check : MethodName := ⟨RX6, "check", "(II)I"⟩
abbrev cX6_image : ByteArray := prog_1_method_44_code
def yX6_image : MethodName := ⟨RX6, "image", "()I"⟩
abbrev cX6_undo : ByteArray := prog_1_method_45_code
def yX6_undo : MethodName := ⟨RX6, "undo", "()I"⟩
abbrev cX6_tear : ByteArray := prog_1_method_46_code
def yX6_tear : MethodName := ⟨RX6, "tear", "()I"⟩
abbrev cX6_count : ByteArray := prog_1_method_47_code
def yX6_count : MethodName := ⟨RX6, "count", "(I)I"⟩
abbrev cX6_status : ByteArray := prog_1_method_48_code
def yX6_status : MethodName := ⟨RX6, "status", "(I)I"⟩
abbrev cX6_finding : ByteArray := prog_1_method_49_code
def yX6_finding : MethodName := ⟨RX6, "finding", "(I)I"⟩
abbrev cX6_isGarment : ByteArray := prog_1_method_50_code
def yX6_isGarment : MethodName := ⟨RX6, "isGarment", "(II)Z"⟩
abbrev cX6_sheetFinding : ByteArray := prog_1_method_51_code
def yX6_sheetFinding : MethodName := ⟨RX6, "sheetFinding", "(I)I"⟩
abbrev cX6_sheetAndLineFinding : ByteArray := prog_1_method_52_code
def yX6_sheetAndLineFinding : MethodName := ⟨RX6, "sheetAndLineFinding", "(II)I"⟩
abbrev cX6_isWithin : ByteArray := prog_1_method_53_code
def yX6_isWithin : MethodName := ⟨RX6, "isWithin", "(III)Z"⟩
abbrev cX6_isLine : ByteArray := prog_1_method_54_code
def yX6_isLine : MethodName := ⟨RX6, "isLine", "(I)Z"⟩
abbrev cX6_isKind : ByteArray := prog_1_method_55_code
def yX6_isKind : MethodName := ⟨RX6, "isKind", "(I)Z"⟩
abbrev cX6_isSize : ByteArray := prog_1_method_56_code
def yX6_isSize : MethodName := ⟨RX6, "isSize", "(I)Z"⟩
abbrev cX6_isWind : ByteArray := prog_1_method_57_code
def yX6_isWind : MethodName := ⟨RX6, "isWind", "(I)Z"⟩
abbrev cX6_isMeaning : ByteArray := prog_1_method_58_code
def yX6_isMeaning : MethodName := ⟨RX6, "isMeaning", "(I)Z"⟩
abbrev cX6_isWorth : ByteArray := prog_1_method_59_code
def yX6_isWorth : MethodName := ⟨RX6, "isWorth", "(I)Z"⟩
abbrev cX6_isSheet : ByteArray := prog_1_method_60_code
def yX6_isSheet : MethodName := ⟨RX6, "isSheet", "(I)Z"⟩
abbrev cX6_isBits : ByteArray := prog_1_method_61_code
def yX6_isBits : MethodName := ⟨RX6, "isBits", "(I)Z"⟩
abbrev cX6_isGarmentCode : ByteArray := prog_1_method_62_code
def yX6_isGarmentCode : MethodName := ⟨RX6, "isGarmentCode", "(J)Z"⟩
abbrev cX6_isOfKind : ByteArray := prog_1_method_63_code
def yX6_isOfKind : MethodName := ⟨RX6, "isOfKind", "(II)Z"⟩
abbrev cX6_isSeen : ByteArray := prog_1_method_64_code
def yX6_isSeen : MethodName := ⟨RX6, "isSeen", "(IIII)Z"⟩
abbrev cX6_worthAfter : ByteArray := prog_1_method_65_code
def yX6_worthAfter : MethodName := ⟨RX6, "worthAfter", "(IIII)I"⟩
abbrev cX6_stockingsAfter : ByteArray := prog_1_method_66_code
def yX6_stockingsAfter : MethodName := ⟨RX6, "stockingsAfter", "(II)I"⟩
abbrev cX6_held : ByteArray := prog_1_method_67_code
def yX6_held : MethodName := ⟨RX6, "held", "(I)I"⟩
abbrev cX6_worthOf : ByteArray := prog_1_method_68_code
def yX6_worthOf : MethodName := ⟨RX6, "worthOf", "(LLinenSigns$Row;I)I"⟩
abbrev cX6_worthBehind : ByteArray := prog_1_method_69_code
def yX6_worthBehind : MethodName := ⟨RX6, "worthBehind", "(LLinenSigns$Row;I)I"⟩
abbrev cX6_worthJoined : ByteArray := prog_1_method_70_code
def yX6_worthJoined : MethodName := ⟨RX6, "worthJoined", "(LLinenSigns$Row;LLinenSigns$Row;I)I"⟩
abbrev cX6_readNow : ByteArray := prog_1_method_71_code
def yX6_readNow : MethodName := ⟨RX6, "readNow", "(LLinenSigns$Row;)I"⟩
abbrev cX6_readWithout : ByteArray := prog_1_method_72_code
def yX6_readWithout : MethodName := ⟨RX6, "readWithout", "(LLinenSigns$Row;I)I"⟩
abbrev cX6_readWithOneMore : ByteArray := prog_1_method_73_code
def yX6_readWithOneMore : MethodName := ⟨RX6, "readWithOneMore", "(LLinenSigns$Row;I)I"⟩
abbrev cX6_windsReadAs : ByteArray := prog_1_method_74_code
def yX6_windsReadAs : MethodName := ⟨RX6, "windsReadAs", "(LLinenSigns$Row;I)I"⟩
abbrev cX6_fewestOff : ByteArray := prog_1_method_75_code
def yX6_fewestOff : MethodName := ⟨RX6, "fewestOff", "(LLinenSigns$Row;I)I"⟩
def RX7 : String := "LinenSignsModel"
def TX7 : u_T := fun k => match k with
  | 0 => ("LinenSignsModel", "s", "[I", true)
  | 1 => ("LinenSignsModel", "kept", "[I", true)
  | 2 => ("LinenSignsModel", "before", "[I", true)
  | 3 => ("LinenSignsModel", "isKept", "Z", false)
  | 4 => ("LinenSignsModel", "findings", "[I", true)
  | 5 => ("LinenSignsModel", "tape", "[I", true)
  | 6 => ("LinenSignsModel", "taped", "I", false)
  | 7 => ("LinenSignsModel", "bitsOf", "[I", true)
  | 8 => ("LinenSignsModel", "sizes", "[I", true)
  | 9 => ("LinenSignsModel", "numbers", "[J", true)
  | 10 => ("LinenSignsModel", "row", "[I", true)
  | 11 => ("LinenSignsModel", "rowN", "I", false)
  | 12 => ("LinenSignsModel", "order", "[I", true)
  | 13 => ("LinenSignsModel", "bestOrder", "[I", true)
  | 14 => ("LinenSignsModel", "met", "[I", true)
  | 15 => ("LinenSignsModel", "times", "I", false)
  | 16 => ("LinenSignsModel", "token", "I", false)
  | 17 => ("LinenSignsModel", "from", "I", false)
  | 18 => ("LinenSignsModel", "to", "I", false)
  | 19 => ("LinenSignsModel", "value", "I", false)
  | _ => ("LinenSignsModel", "faultAt", "I", false)
def tyX7 : Nat → FieldType := fun k => match k with
  | 0 => .array .int
  | 1 => .array .int
  | 2 => .array .int
  | 3 => .boolean
  | 4 => .array .int
  | 5 => .array .int
  | 6 => .int
  | 7 => .array .int
  | 8 => .array .int
  | 9 => .array .long
  | 10 => .array .int
  | 11 => .int
  | 12 => .array .int
  | 13 => .array .int
  | 14 => .array .int
  | 15 => .int
  | 16 => .int
  | 17 => .int
  | 18 => .int
  | 19 => .int
  | _ => .int
abbrev wsX70 : List Cond := u_ws RX7 TX7 21
theorem nmX7 : ∀ a, a < 21 → ∀ b, b < 21 → a ≠ b → (TX7 a).2.1 ≠ (TX7 b).2.1 := by decide +kernel
theorem tyX7_ok : ∀ k, k < 21 → parseFieldDescriptor (TX7 k).2.2.1 = some (tyX7 k) := by decide +kernel
abbrev cX7_init : ByteArray := prog_9_method_1_code
def yX7_init : MethodName := ⟨RX7, "<init>", "()V"⟩
abbrev cX7_isIn : ByteArray := prog_9_method_2_code
def yX7_isIn : MethodName := ⟨RX7, "isIn", "(JJJ)Z"⟩
abbrev cX7_finds : ByteArray := prog_9_method_3_code
def yX7_finds : MethodName := ⟨RX7, "finds", "(I)I"⟩
abbrev cX7_becomes : ByteArray := prog_9_method_4_code
def yX7_becomes : MethodName := ⟨RX7, "becomes", "(II)I"⟩
abbrev cX7_isLine : ByteArray := prog_9_method_5_code
def yX7_isLine : MethodName := ⟨RX7, "isLine", "(I)Z"⟩
abbrev cX7_isPeg : ByteArray := prog_9_method_6_code
def yX7_isPeg : MethodName := ⟨RX7, "isPeg", "(II)Z"⟩
abbrev cX7_isMeaning : ByteArray := prog_9_method_7_code
def yX7_isMeaning : MethodName := ⟨RX7, "isMeaning", "(I)Z"⟩
abbrev cX7_placeOf : ByteArray := prog_9_method_8_code
def yX7_placeOf : MethodName := ⟨RX7, "placeOf", "(II)I"⟩
abbrev cX7_copyRow : ByteArray := prog_9_method_9_code
def yX7_copyRow : MethodName := ⟨RX7, "copyRow", "([I[I)V"⟩
abbrev cX7_apartBy : ByteArray := prog_9_method_10_code
def yX7_apartBy : MethodName := ⟨RX7, "apartBy", "(II)I"⟩
abbrev cX7_hangs : ByteArray := prog_9_method_11_code
def yX7_hangs : MethodName := ⟨RX7, "hangs", "(IIII)V"⟩
abbrev cX7_isGarment : ByteArray := prog_9_method_12_code
def yX7_isGarment : MethodName := ⟨RX7, "isGarment", "(II)Z"⟩
abbrev cX7_hang : ByteArray := prog_9_method_13_code
def yX7_hang : MethodName := ⟨RX7, "hang", "(III)I"⟩
abbrev cX7_off : ByteArray := prog_9_method_14_code
def yX7_off : MethodName := ⟨RX7, "off", "(II)I"⟩
abbrev cX7_lays : ByteArray := prog_9_method_15_code
def yX7_lays : MethodName := ⟨RX7, "lays", "(I)V"⟩
abbrev cX7_isSeen : ByteArray := prog_9_method_16_code
def yX7_isSeen : MethodName := ⟨RX7, "isSeen", "(II)Z"⟩
abbrev cX7_kept : ByteArray := prog_9_method_17_code
def yX7_kept : MethodName := ⟨RX7, "kept", "(I)I"⟩
abbrev cX7_isStocking : ByteArray := prog_9_method_18_code
def yX7_isStocking : MethodName := ⟨RX7, "isStocking", "(I)Z"⟩
abbrev cX7_becomesBy : ByteArray := prog_9_method_19_code
def yX7_becomesBy : MethodName := ⟨RX7, "becomesBy", "(III)I"⟩
abbrev cX7_worthOfFirst : ByteArray := prog_9_method_20_code
def yX7_worthOfFirst : MethodName := ⟨RX7, "worthOfFirst", "(II)I"⟩
abbrev cX7_worthBy : ByteArray := prog_9_method_21_code
def yX7_worthBy : MethodName := ⟨RX7, "worthBy", "(II)I"⟩
abbrev cX7_worthAside : ByteArray := prog_9_method_22_code
def yX7_worthAside : MethodName := ⟨RX7, "worthAside", "()I"⟩
abbrev cX7_readAs : ByteArray := prog_9_method_23_code
def yX7_readAs : MethodName := ⟨RX7, "readAs", "(I)I"⟩
abbrev cX7_of : ByteArray := prog_9_method_24_code
def yX7_of : MethodName := ⟨RX7, "of", "(III)I"⟩
abbrev cX7_set : ByteArray := prog_9_method_25_code
def yX7_set : MethodName := ⟨RX7, "set", "(IIII)I"⟩
abbrev cX7_turn : ByteArray := prog_9_method_26_code
def yX7_turn : MethodName := ⟨RX7, "turn", "(III)I"⟩
abbrev cX7_isUnder : ByteArray := prog_9_method_27_code
def yX7_isUnder : MethodName := ⟨RX7, "isUnder", "(II)Z"⟩
abbrev cX7_as : ByteArray := prog_9_method_28_code
def yX7_as : MethodName := ⟨RX7, "as", "(III)I"⟩
abbrev cX7_swap : ByteArray := prog_9_method_29_code
def yX7_swap : MethodName := ⟨RX7, "swap", "(III)I"⟩
abbrev cX7_take : ByteArray := prog_9_method_30_code
def yX7_take : MethodName := ⟨RX7, "take", "(I)I"⟩
abbrev cX7_hangsAside : ByteArray := prog_9_method_31_code
def yX7_hangsAside : MethodName := ⟨RX7, "hangsAside", "(I)V"⟩
abbrev cX7_like : ByteArray := prog_9_method_32_code
def yX7_like : MethodName := ⟨RX7, "like", "(II)I"⟩
abbrev cX7_wind : ByteArray := prog_9_method_33_code
def yX7_wind : MethodName := ⟨RX7, "wind", "(I)I"⟩
abbrev cX7_garments : ByteArray := prog_9_method_34_code
def yX7_garments : MethodName := ⟨RX7, "garments", "()I"⟩
abbrev cX7_days : ByteArray := prog_9_method_35_code
def yX7_days : MethodName := ⟨RX7, "days", "(I)I"⟩
abbrev cX7_means : ByteArray := prog_9_method_36_code
def yX7_means : MethodName := ⟨RX7, "means", "(II)I"⟩
abbrev cX7_forget : ByteArray := prog_9_method_37_code
def yX7_forget : MethodName := ⟨RX7, "forget", "(I)I"⟩
abbrev cX7_number : ByteArray := prog_9_method_38_code
def yX7_number : MethodName := ⟨RX7, "number", "(I)I"⟩
abbrev cX7_orNone : ByteArray := prog_9_method_39_code
def yX7_orNone : MethodName := ⟨RX7, "orNone", "(I)I"⟩
abbrev cX7_read : ByteArray := prog_9_method_40_code
def yX7_read : MethodName := ⟨RX7, "read", "(I)I"⟩
abbrev cX7_apart : ByteArray := prog_9_method_41_code
def yX7_apart : MethodName := ⟨RX7, "apart", "()I"⟩
abbrev cX7_worth : ByteArray := prog_9_method_42_code
def yX7_worth : MethodName := ⟨RX7, "worth", "(I)I"⟩
abbrev cX7_worthIn : ByteArray := prog_9_method_43_code
def yX7_worthIn : MethodName := ⟨RX7, "worthIn", "(II)I"⟩
abbrev cX7_says : ByteArray := prog_9_method_44_code
def yX7_says : MethodName := ⟨RX7, "says", "(I)I"⟩
abbrev cX7_windsOf : ByteArray := prog_9_method_45_code
def yX7_windsOf : MethodName := ⟨RX7, "windsOf", "(II)I"⟩
abbrev cX7_winds : ByteArray := prog_9_method_46_code
def yX7_winds : MethodName := ⟨RX7, "winds", "(I)I"⟩
abbrev cX7_laysBut : ByteArray := prog_9_method_47_code
def yX7_laysBut : MethodName := ⟨RX7, "laysBut", "(II)V"⟩
abbrev cX7_lost : ByteArray := prog_9_method_48_code
def yX7_lost : MethodName := ⟨RX7, "lost", "(I)I"⟩
abbrev cX7_manyIn : ByteArray := prog_9_method_49_code
def yX7_manyIn : MethodName := ⟨RX7, "manyIn", "(I)I"⟩
abbrev cX7_fewestSet : ByteArray := prog_9_method_50_code
def yX7_fewestSet : MethodName := ⟨RX7, "fewestSet", "(II)I"⟩
abbrev cX7_fewest : ByteArray := prog_9_method_51_code
def yX7_fewest : MethodName := ⟨RX7, "fewest", "(II)I"⟩
abbrev cX7_which : ByteArray := prog_9_method_52_code
def yX7_which : MethodName := ⟨RX7, "which", "(II)I"⟩
abbrev cX7_more : ByteArray := prog_9_method_53_code
def yX7_more : MethodName := ⟨RX7, "more", "(II)I"⟩
abbrev cX7_beginsOrders : ByteArray := prog_9_method_54_code
def yX7_beginsOrders : MethodName := ⟨RX7, "beginsOrders", "(I)V"⟩
abbrev cX7_hasNext : ByteArray := prog_9_method_55_code
def yX7_hasNext : MethodName := ⟨RX7, "hasNext", "(I)Z"⟩
abbrev cX7_swapsOrder : ByteArray := prog_9_method_56_code
def yX7_swapsOrder : MethodName := ⟨RX7, "swapsOrder", "(II)V"⟩
abbrev cX7_laysOrder : ByteArray := prog_9_method_57_code
def yX7_laysOrder : MethodName := ⟨RX7, "laysOrder", "(I)V"⟩
abbrev cX7_orders : ByteArray := prog_9_method_58_code
def yX7_orders : MethodName := ⟨RX7, "orders", "(II)I"⟩
abbrev cX7_furthest : ByteArray := prog_9_method_59_code
def yX7_furthest : MethodName := ⟨RX7, "furthest", "(II)I"⟩
abbrev cX7_most : ByteArray := prog_9_method_60_code
def yX7_most : MethodName := ⟨RX7, "most", "(I)I"⟩
abbrev cX7_least : ByteArray := prog_9_method_61_code
def yX7_least : MethodName := ⟨RX7, "least", "(I)I"⟩
abbrev cX7_notesOrder : ByteArray := prog_9_method_62_code
def yX7_notesOrder : MethodName := ⟨RX7, "notesOrder", "()V"⟩
abbrev cX7_order : ByteArray := prog_9_method_63_code
def yX7_order : MethodName := ⟨RX7, "order", "(II)I"⟩
abbrev cX7_worths : ByteArray := prog_9_method_64_code
def yX7_worths : MethodName := ⟨RX7, "worths", "(I)I"⟩
abbrev cX7_can : ByteArray := prog_9_method_65_code
def yX7_can : MethodName := ⟨RX7, "can", "(I)I"⟩
abbrev cX7_join : ByteArray := prog_9_method_66_code
def yX7_join : MethodName := ⟨RX7, "join", "(II)I"⟩
abbrev cX7_same : ByteArray := prog_9_method_67_code
def yX7_same : MethodName := ⟨RX7, "same", "(II)I"⟩
abbrev cX7_best : ByteArray := prog_9_method_68_code
def yX7_best : MethodName := ⟨RX7, "best", "(I)I"⟩
abbrev cX7_feed : ByteArray := prog_9_method_69_code
def yX7_feed : MethodName := ⟨RX7, "feed", "(II)I"⟩
abbrev cX7_wipe : ByteArray := prog_9_method_70_code
def yX7_wipe : MethodName := ⟨RX7, "wipe", "()I"⟩
abbrev cX7_isLetter : ByteArray := prog_9_method_71_code
def yX7_isLetter : MethodName := ⟨RX7, "isLetter", "(I)Z"⟩
abbrev cX7_isDigit : ByteArray := prog_9_method_72_code
def yX7_isDigit : MethodName := ⟨RX7, "isDigit", "(I)Z"⟩
abbrev cX7_byteAt : ByteArray := prog_9_method_73_code
def yX7_byteAt : MethodName := ⟨RX7, "byteAt", "(I)I"⟩
abbrev cX7_nextToken : ByteArray := prog_9_method_74_code
def yX7_nextToken : MethodName := ⟨RX7, "nextToken", "()V"⟩
abbrev cX7_has3 : ByteArray := prog_9_method_75_code
def yX7_has3 : MethodName := ⟨RX7, "has3", "(IIII)Z"⟩
abbrev cX7_isWord : ByteArray := prog_9_method_76_code
def yX7_isWord : MethodName := ⟨RX7, "isWord", "(I)Z"⟩
abbrev cX7_fails : ByteArray := prog_9_method_77_code
def yX7_fails : MethodName := ⟨RX7, "fails", "()Z"⟩
abbrev cX7_isFour : ByteArray := prog_9_method_78_code
def yX7_isFour : MethodName := ⟨RX7, "isFour", "(IIII)Z"⟩
abbrev cX7_isFive : ByteArray := prog_9_method_79_code
def yX7_isFive : MethodName := ⟨RX7, "isFive", "(IIIII)Z"⟩
abbrev cX7_isSix : ByteArray := prog_9_method_80_code
def yX7_isSix : MethodName := ⟨RX7, "isSix", "(IIIIII)Z"⟩
abbrev cX7_kindHere : ByteArray := prog_9_method_81_code
def yX7_kindHere : MethodName := ⟨RX7, "kindHere", "()I"⟩
abbrev cX7_isNumber : ByteArray := prog_9_method_82_code
def yX7_isNumber : MethodName := ⟨RX7, "isNumber", "(II)Z"⟩
abbrev cX7_garmentHere : ByteArray := prog_9_method_83_code
def yX7_garmentHere : MethodName := ⟨RX7, "garmentHere", "(I)Z"⟩
abbrev cX7_lineHere : ByteArray := prog_9_method_84_code
def yX7_lineHere : MethodName := ⟨RX7, "lineHere", "()Z"⟩
abbrev cX7_windHere : ByteArray := prog_9_method_85_code
def yX7_windHere : MethodName := ⟨RX7, "windHere", "()Z"⟩
abbrev cX7_meaningHere : ByteArray := prog_9_method_86_code
def yX7_meaningHere : MethodName := ⟨RX7, "meaningHere", "()Z"⟩
abbrev cX7_forgetHere : ByteArray := prog_9_method_87_code
def yX7_forgetHere : MethodName := ⟨RX7, "forgetHere", "()Z"⟩
abbrev cX7_itemHere : ByteArray := prog_9_method_88_code
def yX7_itemHere : MethodName := ⟨RX7, "itemHere", "()Z"⟩
abbrev cX7_town : ByteArray := prog_9_method_89_code
def yX7_town : MethodName := ⟨RX7, "town", "()I"⟩
abbrev cX7_isSheet : ByteArray := prog_9_method_90_code
def yX7_isSheet : MethodName := ⟨RX7, "isSheet", "(I)Z"⟩
abbrev cX7_narrow : ByteArray := prog_9_method_91_code
def yX7_narrow : MethodName := ⟨RX7, "narrow", "(IJ)J"⟩
abbrev cX7_sheet : ByteArray := prog_9_method_92_code
def yX7_sheet : MethodName := ⟨RX7, "sheet", "(III)I"⟩
abbrev cX7_write : ByteArray := prog_9_method_93_code
def yX7_write : MethodName := ⟨RX7, "write", "(IIJ)J"⟩
abbrev cX7_copy : ByteArray := prog_9_method_94_code
def yX7_copy : MethodName := ⟨RX7, "copy", "(IIIII)I"⟩
abbrev cX7_wants : ByteArray := prog_9_method_95_code
def yX7_wants : MethodName := ⟨RX7, "wants", "(I)I"⟩
abbrev cX7_lays_ : ByteArray := prog_9_method_96_code
def yX7_lays_ : MethodName := ⟨RX7, "lays", "(II)I"⟩
abbrev cX7_show : ByteArray := prog_9_method_97_code
def yX7_show : MethodName := ⟨RX7, "show", "(II)I"⟩
abbrev cX7_check : ByteArray := prog_9_method_98_code
def yX7_check : MethodName := ⟨RX7, "check", "(II)I"⟩
abbrev cX7_image : ByteArray := prog_9_method_99_code
def yX7_image : MethodName := ⟨RX7, "image", "()I"⟩
abbrev cX7_undo : ByteArray := prog_9_method_100_code
def yX7_undo : MethodName := ⟨RX7, "undo", "()I"⟩
abbrev cX7_tear : ByteArray := prog_9_method_101_code
def yX7_tear : MethodName := ⟨RX7, "tear", "()I"⟩
abbrev cX7_count : ByteArray := prog_9_method_102_code
def yX7_count : MethodName := ⟨RX7, "count", "(I)I"⟩
abbrev cX7_status : ByteArray := prog_9_method_103_code
def yX7_status : MethodName := ⟨RX7, "status", "(I)I"⟩
def RJx145de : String := "java/io/Serializable"
def TJx145de : u_T := fun k => match k with
  | _ => ("", "", "", false)
def tyJx145de : Nat → FieldType := fun k => match k with
  | _ => .int
abbrev wsJx145de0 : List Cond := u_ws RJx145de TJx145de 0
theorem nmJx145de : ∀ a, a < 0 → ∀ b, b < 0 → a ≠ b → (TJx145de a).2.1 ≠ (TJx145de b).2.1 := by decide +kernel
theorem tyJx145de_ok : ∀ k, k < 0 → parseFieldDescriptor (TJx145de k).2.2.1 = some (tyJx145de k) := by decide +kernel
def RJx9f9b0 : String := "java/lang/CharSequence"
def TJx9f9b0 : u_T := fun k => match k with
  | _ => ("", "", "", false)
def tyJx9f9b0 : Nat → FieldType := fun k => match k with
  | _ => .int
abbrev wsJx9f9b00 : List Cond := u_ws RJx9f9b0 TJx9f9b0 0
theorem nmJx9f9b0 : ∀ a, a < 0 → ∀ b, b < 0 → a ≠ b → (TJx9f9b0 a).2.1 ≠ (TJx9f9b0 b).2.1 := by decide +kernel
theorem tyJx9f9b0_ok : ∀ k, k < 0 → parseFieldDescriptor (TJx9f9b0 k).2.2.1 = some (tyJx9f9b0 k) := by decide +kernel
def RJxb160c : String := "java/lang/Comparable"
def TJxb160c : u_T := fun k => match k with
  | _ => ("", "", "", false)
def tyJxb160c : Nat → FieldType := fun k => match k with
  | _ => .int
abbrev wsJxb160c0 : List Cond := u_ws RJxb160c TJxb160c 0
theorem nmJxb160c : ∀ a, a < 0 → ∀ b, b < 0 → a ≠ b → (TJxb160c a).2.1 ≠ (TJxb160c b).2.1 := by decide +kernel
theorem tyJxb160c_ok : ∀ k, k < 0 → parseFieldDescriptor (TJxb160c k).2.2.1 = some (tyJxb160c k) := by decide +kernel
def RJ6 : String := "java/lang/Integer"
def TJ6 : u_T := fun k => match k with
  | _ => ("", "", "", false)
def tyJ6 : Nat → FieldType := fun k => match k with
  | _ => .int
abbrev wsJ60 : List Cond := u_ws RJ6 TJ6 0
theorem nmJ6 : ∀ a, a < 0 → ∀ b, b < 0 → a ≠ b → (TJ6 a).2.1 ≠ (TJ6 b).2.1 := by decide +kernel
theorem tyJ6_ok : ∀ k, k < 0 → parseFieldDescriptor (TJ6 k).2.2.1 = some (tyJ6 k) := by decide +kernel
abbrev cJ6_bitCount_0f7a4 : ByteArray := prog_10_method_49_code
def yJ6_bitCount_0f7a4 : MethodName := ⟨RJ6, "bitCount", "(I)I"⟩
def RJ13 : String := "java/lang/Long"
def TJ13 : u_T := fun k => match k with
  | _ => ("", "", "", false)
def tyJ13 : Nat → FieldType := fun k => match k with
  | _ => .int
abbrev wsJ130 : List Cond := u_ws RJ13 TJ13 0
theorem nmJ13 : ∀ a, a < 0 → ∀ b, b < 0 → a ≠ b → (TJ13 a).2.1 ≠ (TJ13 b).2.1 := by decide +kernel
theorem tyJ13_ok : ∀ k, k < 0 → parseFieldDescriptor (TJ13 k).2.2.1 = some (tyJ13 k) := by decide +kernel
abbrev cJ13_bitCount_95d88 : ByteArray := prog_11_method_50_code
def yJ13_bitCount_95d88 : MethodName := ⟨RJ13, "bitCount", "(J)I"⟩
def RJ9 : String := "java/lang/Math"
def TJ9 : u_T := fun k => match k with
  | _ => ("", "", "", false)
def tyJ9 : Nat → FieldType := fun k => match k with
  | _ => .int
abbrev wsJ90 : List Cond := u_ws RJ9 TJ9 0
theorem nmJ9 : ∀ a, a < 0 → ∀ b, b < 0 → a ≠ b → (TJ9 a).2.1 ≠ (TJ9 b).2.1 := by decide +kernel
theorem tyJ9_ok : ∀ k, k < 0 → parseFieldDescriptor (TJ9 k).2.2.1 = some (tyJ9 k) := by decide +kernel
abbrev cJ9_abs_0f7a4 : ByteArray := prog_12_method_59_code
def yJ9_abs_0f7a4 : MethodName := ⟨RJ9, "abs", "(I)I"⟩
abbrev cJ9_max_7cf53 : ByteArray := prog_12_method_65_code
def yJ9_max_7cf53 : MethodName := ⟨RJ9, "max", "(II)I"⟩
abbrev cJ9_min_7cf53 : ByteArray := prog_12_method_69_code
def yJ9_min_7cf53 : MethodName := ⟨RJ9, "min", "(II)I"⟩
def RJ0 : String := "java/lang/String"
def TJ0 : u_T := fun k => match k with
  | _ => ("", "", "", false)
def tyJ0 : Nat → FieldType := fun k => match k with
  | _ => .int
abbrev wsJ00 : List Cond := u_ws RJ0 TJ0 0
theorem nmJ0 : ∀ a, a < 0 → ∀ b, b < 0 → a ≠ b → (TJ0 a).2.1 ≠ (TJ0 b).2.1 := by decide +kernel
theorem tyJ0_ok : ∀ k, k < 0 → parseFieldDescriptor (TJ0 k).2.2.1 = some (tyJ0 k) := by decide +kernel
abbrev cJ0_length_8abf5 : ByteArray := prog_13_method_54_code
def yJ0_length_8abf5 : MethodName := ⟨RJ0, "length", "()I"⟩
abbrev cJ0_charAt_5068e : ByteArray := prog_13_method_56_code
def yJ0_charAt_5068e : MethodName := ⟨RJ0, "charAt", "(I)C"⟩
abbrev cJ0_coder_7d493 : ByteArray := prog_13_method_152_code
def yJ0_coder_7d493 : MethodName := ⟨RJ0, "coder", "()B"⟩
abbrev cJ0_isLatin1_aae02 : ByteArray := prog_13_method_154_code
def yJ0_isLatin1_aae02 : MethodName := ⟨RJ0, "isLatin1", "()Z"⟩
abbrev cJ0_checkIndex_df160 : ByteArray := prog_13_method_155_code
def yJ0_checkIndex_df160 : MethodName := ⟨RJ0, "checkIndex", "(II)V"⟩
def RJ1 : String := "java/lang/StringLatin1"
def TJ1 : u_T := fun k => match k with
  | _ => ("", "", "", false)
def tyJ1 : Nat → FieldType := fun k => match k with
  | _ => .int
abbrev wsJ10 : List Cond := u_ws RJ1 TJ1 0
theorem nmJ1 : ∀ a, a < 0 → ∀ b, b < 0 → a ≠ b → (TJ1 a).2.1 ≠ (TJ1 b).2.1 := by decide +kernel
theorem tyJ1_ok : ∀ k, k < 0 → parseFieldDescriptor (TJ1 k).2.2.1 = some (tyJ1 k) := by decide +kernel
abbrev cJ1_charAt_3b067 : ByteArray := prog_14_method_2_code
def yJ1_charAt_3b067 : MethodName := ⟨RJ1, "charAt", "([BI)C"⟩
def RJ2 : String := "java/lang/StringUTF16"
def TJ2 : u_T := fun k => match k with
  | _ => ("", "", "", false)
def tyJ2 : Nat → FieldType := fun k => match k with
  | _ => .int
abbrev wsJ20 : List Cond := u_ws RJ2 TJ2 0
theorem nmJ2 : ∀ a, a < 0 → ∀ b, b < 0 → a ≠ b → (TJ2 a).2.1 ≠ (TJ2 b).2.1 := by decide +kernel
theorem tyJ2_ok : ∀ k, k < 0 → parseFieldDescriptor (TJ2 k).2.2.1 = some (tyJ2 k) := by decide +kernel
abbrev cJ2_getChar_3b067 : ByteArray := prog_15_method_5_code
def yJ2_getChar_3b067 : MethodName := ⟨RJ2, "getChar", "([BI)C"⟩
abbrev cJ2_length_9d52b : ByteArray := prog_15_method_6_code
def yJ2_length_9d52b : MethodName := ⟨RJ2, "length", "([B)I"⟩
abbrev cJ2_charAt_3b067 : ByteArray := prog_15_method_83_code
def yJ2_charAt_3b067 : MethodName := ⟨RJ2, "charAt", "([BI)C"⟩
abbrev cJ2_checkIndex_2214a : ByteArray := prog_15_method_91_code
def yJ2_checkIndex_2214a : MethodName := ⟨RJ2, "checkIndex", "(I[B)V"⟩
def RJ10 : String := "java/lang/System"
def TJ10 : u_T := fun k => match k with
  | _ => ("", "", "", false)
def tyJ10 : Nat → FieldType := fun k => match k with
  | _ => .int
abbrev wsJ100 : List Cond := u_ws RJ10 TJ10 0
theorem nmJ10 : ∀ a, a < 0 → ∀ b, b < 0 → a ≠ b → (TJ10 a).2.1 ≠ (TJ10 b).2.1 := by decide +kernel
theorem tyJ10_ok : ∀ k, k < 0 → parseFieldDescriptor (TJ10 k).2.2.1 = some (tyJ10 k) := by decide +kernel
def RJxfd54e : String := "java/lang/constant/Constable"
def TJxfd54e : u_T := fun k => match k with
  | _ => ("", "", "", false)
def tyJxfd54e : Nat → FieldType := fun k => match k with
  | _ => .int
abbrev wsJxfd54e0 : List Cond := u_ws RJxfd54e TJxfd54e 0
theorem nmJxfd54e : ∀ a, a < 0 → ∀ b, b < 0 → a ≠ b → (TJxfd54e a).2.1 ≠ (TJxfd54e b).2.1 := by decide +kernel
theorem tyJxfd54e_ok : ∀ k, k < 0 → parseFieldDescriptor (TJxfd54e k).2.2.1 = some (tyJxfd54e k) := by decide +kernel
def RJx3cf43 : String := "java/lang/constant/ConstantDesc"
def TJx3cf43 : u_T := fun k => match k with
  | _ => ("", "", "", false)
def tyJx3cf43 : Nat → FieldType := fun k => match k with
  | _ => .int
abbrev wsJx3cf430 : List Cond := u_ws RJx3cf43 TJx3cf43 0
theorem nmJx3cf43 : ∀ a, a < 0 → ∀ b, b < 0 → a ≠ b → (TJx3cf43 a).2.1 ≠ (TJx3cf43 b).2.1 := by decide +kernel
theorem tyJx3cf43_ok : ∀ k, k < 0 → parseFieldDescriptor (TJx3cf43 k).2.2.1 = some (tyJx3cf43 k) := by decide +kernel
def RJ7 : String := "java/util/Arrays"
def TJ7 : u_T := fun k => match k with
  | _ => ("", "", "", false)
def tyJ7 : Nat → FieldType := fun k => match k with
  | _ => .int
abbrev wsJ70 : List Cond := u_ws RJ7 TJ7 0
theorem nmJ7 : ∀ a, a < 0 → ∀ b, b < 0 → a ≠ b → (TJ7 a).2.1 ≠ (TJ7 b).2.1 := by decide +kernel
theorem tyJ7_ok : ∀ k, k < 0 → parseFieldDescriptor (TJ7 k).2.2.1 = some (tyJ7 k) := by decide +kernel
abbrev cJ7_fill_d0a16 : ByteArray := prog_17_method_101_code
def yJ7_fill_d0a16 : MethodName := ⟨RJ7, "fill", "([JJ)V"⟩
abbrev cJ7_fill_53178 : ByteArray := prog_17_method_103_code
def yJ7_fill_53178 : MethodName := ⟨RJ7, "fill", "([II)V"⟩
def RJ3 : String := "jdk/internal/util/Preconditions"
def TJ3 : u_T := fun k => match k with
  | _ => ("", "", "", false)
def tyJ3 : Nat → FieldType := fun k => match k with
  | _ => .int
abbrev wsJ30 : List Cond := u_ws RJ3 TJ3 0
theorem nmJ3 : ∀ a, a < 0 → ∀ b, b < 0 → a ≠ b → (TJ3 a).2.1 ≠ (TJ3 b).2.1 := by decide +kernel
theorem tyJ3_ok : ∀ k, k < 0 → parseFieldDescriptor (TJ3 k).2.2.1 = some (tyJ3 k) := by decide +kernel
abbrev cJ3_checkIndex_8e157 : ByteArray := prog_18_method_11_code
def yJ3_checkIndex_8e157 : MethodName := ⟨RJ3, "checkIndex", "(IILjava/util/function/BiFunction;)I"⟩
def RL : String := "LinenSignsLaw"
abbrev cL_law : ByteArray := code
def yL_law : MethodName := ⟨RL, "law", "([I)Z"⟩
abbrev vwCl : List vw_C := [(RX0, TX0, 16), (RX1, TX1, 4), (RX2, TX2, 3), (RX3, TX3, 6), (RX4, TX4, 4), (RX5, TX5, 3), (RX6, TX6, 9), (RX7, TX7, 21)]
end
section
abbrev aC : Type := (Nat × List Value) ⊕ (Nat × (Nat → Int32)) ⊕ (Nat × (Nat → Int64)) ⊕ (Nat × Nat × (Nat → Option Nat))
abbrev aH : Type := List aC
/-- an instruction, the next one's place, two numbers of its own (a place, a method, a field), a value of its own -/
abbrev aE : Type := Instr × Nat × Nat × Nat × Value
/-- a method: its code by places (in sixteens), its locals, its answer's type, its class, its number -/
abbrev aM : Type := List (List (Option aE)) × Nat × Option FieldType × Nat × Nat
def oN : Nat → String := fun i => ([RX0, RX1, RX2, RX3, RX4, RX5, RX6, RX7, RL, RJ6, RJ13, RJ9, RJ0, RJ1, RJ7, RJ3] : List String).getD i ""
def tF : Nat → u_T := fun i => match i with
  | 0 => TX0
  | 1 => TX1
  | 2 => TX2
  | 3 => TX3
  | 4 => TX4
  | 5 => TX5
  | 6 => TX6
  | _ => TX7
def tY : Nat → Nat → FieldType := fun i => match i with
  | 0 => tyX0
  | 1 => tyX1
  | 2 => tyX2
  | 3 => tyX3
  | 4 => tyX4
  | 5 => tyX5
  | 6 => tyX6
  | _ => tyX7
def nF : Nat → Nat := fun i => ([16, 4, 3, 6, 4, 3, 9, 21] : List Nat).getD i 0
/-- the fields of a new object -/
def dF : Nat → List Value := fun i => ([[.null, .null, .null, .null, .null, .null, .null, .int 0, .int 0, .int 0, .int 0, .int 0, .int 0, .int 0, .int 0, .int 0],
  [.null, .null, .null, .int 0],
  [.null, .int 0, .int 0],
  [.null, .int 0, .int 0, .int 0, .int 0, .int 0],
  [.null, .null, .int 0, .int 0],
  [.int 0, .int 0, .int 0],
  [.null, .null, .null, .null, .null, .null, .null, .null, .int 0],
  [.null, .null, .null, .int 0, .null, .null, .int 0, .null, .null, .null, .null, .int 0, .null, .null, .null, .int 0, .int 0, .int 0, .int 0, .int 0, .int 0]] : List (List Value)).getD i []
def kX0_init : aM := ([[some (.aload_n 0, 1, 0, 0, .null), some (.invokespecial 5, 4, 900, 1, .null), none, none, some (.aload_n 0, 5, 0, 0, .null), some (.new 11, 8, 1, 0, .null), none, none, some (.dup, 9, 0, 0, .null), some (.invokespecial 13, 12, 12, 1, .null), none, none, some (.putfield 14, 15, 0, 1, .null), none, none, some (.aload_n 0, 16, 0, 0, .null)],
 [some (.bipush 7, 18, 0, 0, .int (7)), none, some (.newarray .int, 20, 0, 0, .null), none, some (.putfield 18, 23, 0, 2, .null), none, none, some (.aload_n 0, 24, 0, 0, .null), some (.bipush 7, 26, 0, 0, .int (7)), none, some (.newarray .int, 28, 0, 0, .null), none, some (.putfield 22, 31, 0, 3, .null), none, none, some (.aload_n 0, 32, 0, 0, .null)],
 [some (.bipush 7, 34, 0, 0, .int (7)), none, some (.newarray .int, 36, 0, 0, .null), none, some (.putfield 25, 39, 0, 4, .null), none, none, some (.aload_n 0, 40, 0, 0, .null), some (.bipush 7, 42, 0, 0, .int (7)), none, some (.newarray .int, 44, 0, 0, .null), none, some (.putfield 28, 47, 0, 5, .null), none, none, some (.aload_n 0, 48, 0, 0, .null)],
 [some (.sipush 313, 51, 0, 0, .int (313)), none, none, some (.newarray .long, 53, 0, 0, .null), none, some (.putfield 31, 56, 0, 6, .null), none, none, some (.aload_n 0, 57, 0, 0, .null), some (.iconst (-1), 58, 0, 0, .int (-1)), some (.putfield 35, 61, 0, 7, .int 0), none, none, some (.aload_n 0, 62, 0, 0, .null), some (.iconst 0, 63, 0, 0, .int (0)), some (.putfield 39, 66, 0, 8, .int 0)],
 [none, none, some (.aload_n 0, 67, 0, 0, .null), some (.iconst 1, 68, 0, 0, .int (1)), some (.putfield 42, 71, 0, 9, .int 0), none, none, some (.aload_n 0, 72, 0, 0, .null), some (.iconst 0, 73, 0, 0, .int (0)), some (.putfield 45, 76, 0, 10, .int 0), none, none, some (.aload_n 0, 77, 0, 0, .null), some (.iconst 1, 78, 0, 0, .int (1)), some (.putfield 48, 81, 0, 11, .int 1), none],
 [none, some (.aload_n 0, 82, 0, 0, .null), some (.iconst 0, 83, 0, 0, .int (0)), some (.putfield 52, 86, 0, 12, .int 0), none, none, some (.aload_n 0, 87, 0, 0, .null), some (.iconst 0, 88, 0, 0, .int (0)), some (.putfield 55, 91, 0, 13, .int 0), none, none, some (.aload_n 0, 92, 0, 0, .null), some (.iconst 0, 93, 0, 0, .int (0)), some (.putfield 58, 96, 0, 14, .int 0), none, none],
 [some (.aload_n 0, 97, 0, 0, .null), some (.iconst 0, 98, 0, 0, .int (0)), some (.putfield 61, 101, 0, 15, .int 0), none, none, some (.aload_n 0, 102, 0, 0, .null), some (.aload_n 1, 103, 1, 0, .null), some (.putfield 64, 106, 0, 0, .null), none, none, some (.return_, 107, 0, 0, .null)]],
  2, none, 0, 0)
def kX0_walk : aM := ([[some (.aload_n 0, 1, 0, 0, .null), some (.getfield 14, 4, 0, 1, .null), none, none, some (.aload_n 1, 5, 1, 0, .null), some (.invokevirtual 68, 8, 18, 2, .retAddr 1), none, none, some (.aload_n 0, 9, 0, 0, .null), some (.iload_n 2, 10, 2, 0, .null), some (.putfield 35, 13, 0, 7, .int 0), none, none, some (.aload_n 0, 14, 0, 0, .null), some (.iload_n 3, 15, 3, 0, .null), some (.putfield 39, 18, 0, 8, .int 0)],
 [none, none, some (.aload_n 0, 19, 0, 0, .null), some (.iconst 0, 20, 0, 0, .int (0)), some (.putfield 52, 23, 0, 12, .int 0), none, none, some (.aload_n 0, 24, 0, 0, .null), some (.iconst 1, 25, 0, 0, .int (1)), some (.putfield 48, 28, 0, 11, .int 1), none, none, some (.aload_n 0, 29, 0, 0, .null), some (.getfield 31, 32, 0, 6, .null), none, none],
 [some (.lconst 0, 33, 0, 0, .long 0), some (.invokestatic 72, 36, 239, 2, .null), none, none, some (.aload_n 0, 37, 0, 0, .null), some (.iconst 0, 38, 0, 0, .int (0)), some (.putfield 45, 41, 0, 10, .int 0), none, none, some (.aload_n 0, 42, 0, 0, .null), some (.invokevirtual 78, 45, 2, 1, .retAddr 0), none, none, some (.aload_n 0, 46, 0, 0, .null), some (.iconst 0, 47, 0, 0, .int (0)), some (.iconst 0, 48, 0, 0, .int (0))],
 [some (.iconst 0, 49, 0, 0, .int (0)), some (.invokevirtual 81, 52, 4, 4, .retAddr 0), none, none, some (.return_, 53, 0, 0, .null)]],
  4, none, 0, 1)
def kX0_findTwins : aM := ([[some (.aload_n 0, 1, 0, 0, .null), some (.iconst 1, 2, 0, 0, .int (1)), some (.putfield 42, 5, 0, 9, .int 0), none, none, some (.iconst 0, 6, 0, 0, .int (0)), some (.istore_n 1, 7, 1, 0, .null), some (.iload_n 1, 8, 1, 0, .null), some (.aload_n 0, 9, 0, 0, .null), some (.getfield 14, 12, 0, 1, .null), none, none, some (.getfield 85, 15, 1, 3, .int 0), none, none, some (.if_icmp .ge 77, 18, 92, 0, .null)],
 [none, none, some (.aload_n 0, 19, 0, 0, .null), some (.getfield 18, 22, 0, 2, .null), none, none, some (.iload_n 1, 23, 1, 0, .null), some (.aload_n 0, 24, 0, 0, .null), some (.iload_n 1, 25, 1, 0, .null), some (.invokevirtual 88, 28, 3, 2, .retAddr 0), none, none, some (.iastore, 29, 0, 0, .null), some (.aload_n 0, 30, 0, 0, .null), some (.getfield 22, 33, 0, 3, .null), none],
 [none, some (.iload_n 1, 34, 1, 0, .null), some (.iconst (-1), 35, 0, 0, .int (-1)), some (.iastore, 36, 0, 0, .null), some (.iconst 1, 37, 0, 0, .int (1)), some (.istore_n 2, 38, 2, 0, .null), some (.iconst 0, 39, 0, 0, .int (0)), some (.istore_n 3, 40, 3, 0, .null), some (.iload_n 3, 41, 3, 0, .null), some (.iload_n 1, 42, 1, 0, .null), some (.if_icmp .ge 34, 45, 76, 0, .null), none, none, some (.aload_n 0, 46, 0, 0, .null), some (.getfield 18, 49, 0, 2, .null), none],
 [none, some (.iload_n 3, 50, 3, 0, .null), some (.iaload, 51, 0, 0, .null), some (.aload_n 0, 52, 0, 0, .null), some (.getfield 18, 55, 0, 2, .null), none, none, some (.iload_n 1, 56, 1, 0, .null), some (.iaload, 57, 0, 0, .null), some (.if_icmp .ne 13, 60, 70, 0, .null), none, none, some (.aload_n 0, 61, 0, 0, .null), some (.getfield 22, 64, 0, 3, .null), none, none],
 [some (.iload_n 1, 65, 1, 0, .null), some (.iload_n 3, 66, 3, 0, .null), some (.iastore, 67, 0, 0, .null), some (.iinc 2 1, 70, 2, 0, .int (1)), none, none, some (.iinc 3 1, 73, 3, 0, .int (1)), none, none, some (.goto (-33), 76, 40, 0, .null), none, none, some (.aload_n 0, 77, 0, 0, .null), some (.dup, 78, 0, 0, .null), some (.getfield 42, 81, 0, 9, .int 0), none],
 [none, some (.iload_n 2, 82, 2, 0, .null), some (.imul, 83, 0, 0, .null), some (.putfield 42, 86, 0, 9, .int 0), none, none, some (.iinc 1 1, 89, 1, 0, .int (1)), none, none, some (.goto (-82), 92, 7, 0, .null), none, none, some (.return_, 93, 0, 0, .null)]],
  4, none, 0, 2)
def kX0_saying : aM := ([[some (.aload_n 0, 1, 0, 0, .null), some (.getfield 14, 4, 0, 1, .null), none, none, some (.iload_n 1, 5, 1, 0, .null), some (.aload_n 0, 6, 0, 0, .null), some (.getfield 64, 9, 0, 0, .null), none, none, some (.getfield 92, 12, 4, 2, .int 0), none, none, some (.invokevirtual 97, 15, 19, 3, .retAddr 1), none, none, some (.ifCond .ne 5, 18, 20, 0, .null)],
 [none, none, some (.iconst 0, 19, 0, 0, .int (0)), some (.ireturn, 20, 0, 0, .null), some (.aload_n 0, 21, 0, 0, .null), some (.getfield 14, 24, 0, 1, .null), none, none, some (.getfield 101, 27, 1, 0, .null), none, none, some (.iload_n 1, 28, 1, 0, .null), some (.iaload, 29, 0, 0, .null), some (.istore_n 2, 30, 2, 0, .null), some (.iload_n 2, 31, 2, 0, .null), some (.ifCond .eq 13, 34, 44, 0, .null)],
 [none, none, some (.iload_n 2, 35, 2, 0, .null), some (.iconst 1, 36, 0, 0, .int (1)), some (.if_icmp .eq 8, 39, 44, 0, .null), none, none, some (.iload_n 2, 40, 2, 0, .null), some (.iconst 4, 41, 0, 0, .int (4)), some (.if_icmp .ne 7, 44, 48, 0, .null), none, none, some (.iconst 1, 45, 0, 0, .int (1)), some (.goto 4, 48, 49, 0, .null), none, none],
 [some (.iconst 0, 49, 0, 0, .int (0)), some (.istore_n 3, 50, 3, 0, .null), some (.bipush 10, 52, 0, 0, .int (10)), none, some (.iload_n 2, 53, 2, 0, .null), some (.imul, 54, 0, 0, .null), some (.iload_n 3, 55, 3, 0, .null), some (.ifCond .eq 15, 58, 70, 0, .null), none, none, some (.aload_n 0, 59, 0, 0, .null), some (.getfield 14, 62, 0, 1, .null), none, none, some (.getfield 104, 65, 1, 1, .null), none],
 [none, some (.iload_n 1, 66, 1, 0, .null), some (.iaload, 67, 0, 0, .null), some (.goto 5, 70, 72, 0, .null), none, none, some (.bipush 9, 72, 0, 0, .int (9)), none, some (.iadd, 73, 0, 0, .null), some (.ireturn, 74, 0, 0, .null)]],
  4, (some .int), 0, 3)
def kX0_hangNext : aM := ([[some (.iload_n 1, 1, 1, 0, .null), some (.aload_n 0, 2, 0, 0, .null), some (.getfield 14, 5, 0, 1, .null), none, none, some (.getfield 85, 8, 1, 3, .int 0), none, none, some (.if_icmp .ge 9, 11, 17, 0, .null), none, none, some (.iload_n 1, 12, 1, 0, .null), some (.bipush 7, 14, 0, 0, .int (7)), none, some (.if_icmp .lt 9, 17, 23, 0, .null), none],
 [none, some (.aload_n 0, 18, 0, 0, .null), some (.iload_n 2, 19, 2, 0, .null), some (.invokevirtual 107, 22, 7, 2, .retAddr 0), none, none, some (.return_, 23, 0, 0, .null), some (.iconst 0, 24, 0, 0, .int (0)), some (.istore 4, 26, 4, 0, .null), none, some (.iload 4, 28, 4, 0, .null), none, some (.aload_n 0, 29, 0, 0, .null), some (.getfield 14, 32, 0, 1, .null), none, none],
 [some (.getfield 85, 35, 1, 3, .int 0), none, none, some (.if_icmp .ge 122, 38, 157, 0, .null), none, none, some (.aload_n 0, 39, 0, 0, .null), some (.iload 4, 41, 4, 0, .null), none, some (.invokevirtual 111, 44, 5, 2, .retAddr 0), none, none, some (.ifCond .eq 107, 47, 151, 0, .null), none, none, some (.aload_n 0, 48, 0, 0, .null)],
 [some (.dup, 49, 0, 0, .null), some (.getfield 45, 52, 0, 10, .int 0), none, none, some (.iconst 1, 53, 0, 0, .int (1)), some (.iload 4, 55, 4, 0, .null), none, some (.ishl, 56, 0, 0, .null), some (.ior, 57, 0, 0, .null), some (.putfield 45, 60, 0, 10, .int 0), none, none, some (.aload_n 0, 61, 0, 0, .null), some (.getfield 25, 64, 0, 4, .null), none, none],
 [some (.iload_n 1, 65, 1, 0, .null), some (.iload 4, 67, 4, 0, .null), none, some (.iastore, 68, 0, 0, .null), some (.aload_n 0, 69, 0, 0, .null), some (.getfield 18, 72, 0, 2, .null), none, none, some (.iload 4, 74, 4, 0, .null), none, some (.iaload, 75, 0, 0, .null), some (.ifCond .ne 15, 78, 90, 0, .null), none, none, some (.aload_n 0, 79, 0, 0, .null), some (.iload_n 1, 80, 1, 0, .null)],
 [some (.iconst 1, 81, 0, 0, .int (1)), some (.iadd, 82, 0, 0, .null), some (.iload_n 2, 83, 2, 0, .null), some (.iload_n 3, 84, 3, 0, .null), some (.invokevirtual 81, 87, 4, 4, .retAddr 0), none, none, some (.goto 49, 90, 136, 0, .null), none, none, some (.aload_n 0, 91, 0, 0, .null), some (.getfield 14, 94, 0, 1, .null), none, none, some (.getfield 101, 97, 1, 0, .null), none],
 [none, some (.iload 4, 99, 4, 0, .null), none, some (.iaload, 100, 0, 0, .null), some (.istore 5, 102, 5, 0, .null), none, some (.iload_n 2, 103, 2, 0, .null), some (.iload_n 3, 104, 3, 0, .null), some (.iload 5, 106, 5, 0, .null), none, some (.aload_n 0, 107, 0, 0, .null), some (.getfield 14, 110, 0, 1, .null), none, none, some (.getfield 104, 113, 1, 1, .null), none],
 [none, some (.iload 4, 115, 4, 0, .null), none, some (.iaload, 116, 0, 0, .null), some (.invokestatic 115, 119, 117, 4, .null), none, none, some (.istore 6, 121, 6, 0, .null), none, some (.aload_n 0, 122, 0, 0, .null), some (.iload_n 1, 123, 1, 0, .null), some (.iconst 1, 124, 0, 0, .int (1)), some (.iadd, 125, 0, 0, .null), some (.iload 6, 127, 6, 0, .null), none, some (.iload_n 3, 128, 3, 0, .null)],
 [some (.iload 5, 130, 5, 0, .null), none, some (.invokestatic 119, 133, 118, 2, .null), none, none, some (.invokevirtual 81, 136, 4, 4, .retAddr 0), none, none, some (.aload_n 0, 137, 0, 0, .null), some (.dup, 138, 0, 0, .null), some (.getfield 45, 141, 0, 10, .int 0), none, none, some (.iconst 1, 142, 0, 0, .int (1)), some (.iload 4, 144, 4, 0, .null), none],
 [some (.ishl, 145, 0, 0, .null), some (.iconst (-1), 146, 0, 0, .int (-1)), some (.ixor, 147, 0, 0, .null), some (.iand, 148, 0, 0, .null), some (.putfield 45, 151, 0, 10, .int 0), none, none, some (.iinc 4 1, 154, 4, 0, .int (1)), none, none, some (.goto (-128), 157, 26, 0, .null), none, none, some (.return_, 158, 0, 0, .null)]],
  7, none, 0, 4)
def kX0_mayHang : aM := ([[some (.aload_n 0, 1, 0, 0, .null), some (.iload_n 1, 2, 1, 0, .null), some (.invokevirtual 123, 5, 6, 2, .retAddr 0), none, none, some (.ifCond .ne 29, 8, 34, 0, .null), none, none, some (.aload_n 0, 9, 0, 0, .null), some (.getfield 22, 12, 0, 3, .null), none, none, some (.iload_n 1, 13, 1, 0, .null), some (.iaload, 14, 0, 0, .null), some (.ifCond .lt 16, 17, 30, 0, .null), none],
 [none, some (.aload_n 0, 18, 0, 0, .null), some (.aload_n 0, 19, 0, 0, .null), some (.getfield 22, 22, 0, 3, .null), none, none, some (.iload_n 1, 23, 1, 0, .null), some (.iaload, 24, 0, 0, .null), some (.invokevirtual 123, 27, 6, 2, .retAddr 0), none, none, some (.ifCond .eq 7, 30, 34, 0, .null), none, none, some (.iconst 1, 31, 0, 0, .int (1)), some (.goto 4, 34, 35, 0, .null)],
 [none, none, some (.iconst 0, 35, 0, 0, .int (0)), some (.ireturn, 36, 0, 0, .null)]],
  2, (some .boolean), 0, 5)
def kX0_isHanging : aM := ([[some (.aload_n 0, 1, 0, 0, .null), some (.getfield 45, 4, 0, 10, .int 0), none, none, some (.iload_n 1, 5, 1, 0, .null), some (.ishr, 6, 0, 0, .null), some (.iconst 1, 7, 0, 0, .int (1)), some (.iand, 8, 0, 0, .null), some (.ifCond .eq 7, 11, 15, 0, .null), none, none, some (.iconst 1, 12, 0, 0, .int (1)), some (.goto 4, 15, 16, 0, .null), none, none, some (.iconst 0, 16, 0, 0, .int (0))],
 [some (.ireturn, 17, 0, 0, .null)]],
  2, (some .boolean), 0, 6)
def kX0_arrive : aM := ([[some (.iload_n 1, 1, 1, 0, .null), some (.sipush 9999, 4, 0, 0, .int (9999)), none, none, some (.iadd, 5, 0, 0, .null), some (.istore_n 2, 6, 2, 0, .null), some (.aload_n 0, 7, 0, 0, .null), some (.getfield 31, 10, 0, 6, .null), none, none, some (.iload_n 2, 11, 2, 0, .null), some (.bipush 6, 13, 0, 0, .int (6)), none, some (.ishr, 14, 0, 0, .null), some (.dup2, 15, 0, 0, .null), some (.laload, 16, 0, 0, .null)],
 [some (.lconst 1, 17, 0, 0, .long 1), some (.iload_n 2, 18, 2, 0, .null), some (.bipush 63, 20, 0, 0, .int (63)), none, some (.iand, 21, 0, 0, .null), some (.lshl, 22, 0, 0, .null), some (.lor, 23, 0, 0, .null), some (.lastore, 24, 0, 0, .null), some (.aload_n 0, 25, 0, 0, .null), some (.getfield 35, 28, 0, 7, .int 0), none, none, some (.iconst (-1), 29, 0, 0, .int (-1)), some (.if_icmp .eq 31, 32, 60, 0, .null), none, none],
 [some (.aload_n 0, 33, 0, 0, .null), some (.getfield 64, 36, 0, 0, .null), none, none, some (.iload_n 1, 37, 1, 0, .null), some (.invokevirtual 126, 40, 47, 2, .retAddr 4), none, none, some (.aload_n 0, 41, 0, 0, .null), some (.getfield 35, 44, 0, 7, .int 0), none, none, some (.if_icmp .ne 16, 47, 60, 0, .null), none, none, some (.aload_n 0, 48, 0, 0, .null)],
 [some (.dup, 49, 0, 0, .null), some (.getfield 52, 52, 0, 12, .int 0), none, none, some (.aload_n 0, 53, 0, 0, .null), some (.getfield 42, 56, 0, 9, .int 0), none, none, some (.iadd, 57, 0, 0, .null), some (.putfield 52, 60, 0, 12, .int 0), none, none, some (.aload_n 0, 61, 0, 0, .null), some (.getfield 48, 64, 0, 11, .int 1), none, none],
 [some (.ifCond .ne 27, 67, 91, 0, .null), none, none, some (.iload_n 1, 68, 1, 0, .null), some (.aload_n 0, 69, 0, 0, .null), some (.getfield 39, 72, 0, 8, .int 0), none, none, some (.isub, 73, 0, 0, .null), some (.invokestatic 129, 76, 902, 1, .null), none, none, some (.aload_n 0, 77, 0, 0, .null), some (.getfield 61, 80, 0, 15, .int 0), none, none],
 [some (.aload_n 0, 81, 0, 0, .null), some (.getfield 39, 84, 0, 8, .int 0), none, none, some (.isub, 85, 0, 0, .null), some (.invokestatic 129, 88, 902, 1, .null), none, none, some (.if_icmp .ge 23, 91, 111, 0, .null), none, none, some (.aload_n 0, 92, 0, 0, .null), some (.iload_n 1, 93, 1, 0, .null), some (.putfield 61, 96, 0, 15, .int 0), none, none],
 [some (.aload_n 0, 97, 0, 0, .null), some (.getfield 25, 100, 0, 4, .null), none, none, some (.iconst 0, 101, 0, 0, .int (0)), some (.aload_n 0, 102, 0, 0, .null), some (.getfield 28, 105, 0, 5, .null), none, none, some (.iconst 0, 106, 0, 0, .int (0)), some (.bipush 7, 108, 0, 0, .int (7)), none, some (.invokestatic 134, 111, 901, 5, .null), none, none, some (.aload_n 0, 112, 0, 0, .null)],
 [some (.aload_n 0, 113, 0, 0, .null), some (.getfield 48, 116, 0, 11, .int 1), none, none, some (.ifCond .eq 7, 119, 123, 0, .null), none, none, some (.iload_n 1, 120, 1, 0, .null), some (.goto 11, 123, 131, 0, .null), none, none, some (.aload_n 0, 124, 0, 0, .null), some (.getfield 55, 127, 0, 13, .int 0), none, none, some (.iload_n 1, 128, 1, 0, .null)],
 [some (.invokestatic 140, 131, 903, 2, .null), none, none, some (.putfield 55, 134, 0, 13, .int 0), none, none, some (.aload_n 0, 135, 0, 0, .null), some (.aload_n 0, 136, 0, 0, .null), some (.getfield 48, 139, 0, 11, .int 1), none, none, some (.ifCond .eq 7, 142, 146, 0, .null), none, none, some (.iload_n 1, 143, 1, 0, .null), some (.goto 11, 146, 154, 0, .null)],
 [none, none, some (.aload_n 0, 147, 0, 0, .null), some (.getfield 58, 150, 0, 14, .int 0), none, none, some (.iload_n 1, 151, 1, 0, .null), some (.invokestatic 143, 154, 904, 2, .null), none, none, some (.putfield 58, 157, 0, 14, .int 0), none, none, some (.aload_n 0, 158, 0, 0, .null), some (.iconst 0, 159, 0, 0, .int (0)), some (.putfield 48, 162, 0, 11, .int 1)],
 [none, none, some (.return_, 163, 0, 0, .null)]],
  3, none, 0, 7)
def kX0_arrangeNearest : aM := ([[some (.aload_n 1, 1, 1, 0, .null), some (.invokevirtual 146, 4, 13, 1, .retAddr 1), none, none, some (.iconst 0, 5, 0, 0, .int (0)), some (.istore_n 2, 6, 2, 0, .null), some (.iload_n 2, 7, 2, 0, .null), some (.aload_n 0, 8, 0, 0, .null), some (.getfield 14, 11, 0, 1, .null), none, none, some (.getfield 85, 14, 1, 3, .int 0), none, none, some (.if_icmp .ge 47, 17, 61, 0, .null), none],
 [none, some (.aload_n 0, 18, 0, 0, .null), some (.getfield 28, 21, 0, 5, .null), none, none, some (.iload_n 2, 22, 2, 0, .null), some (.iaload, 23, 0, 0, .null), some (.istore_n 3, 24, 3, 0, .null), some (.aload_n 1, 25, 1, 0, .null), some (.aload_n 0, 26, 0, 0, .null), some (.getfield 14, 29, 0, 1, .null), none, none, some (.getfield 101, 32, 1, 0, .null), none, none],
 [some (.iload_n 3, 33, 3, 0, .null), some (.iaload, 34, 0, 0, .null), some (.aload_n 0, 35, 0, 0, .null), some (.getfield 14, 38, 0, 1, .null), none, none, some (.getfield 104, 41, 1, 1, .null), none, none, some (.iload_n 3, 42, 3, 0, .null), some (.iaload, 43, 0, 0, .null), some (.aload_n 0, 44, 0, 0, .null), some (.getfield 14, 47, 0, 1, .null), none, none, some (.getfield 149, 50, 1, 2, .null)],
 [none, none, some (.iload_n 3, 51, 3, 0, .null), some (.iaload, 52, 0, 0, .null), some (.invokevirtual 152, 55, 14, 4, .retAddr 1), none, none, some (.iinc 2 1, 58, 2, 0, .int (1)), none, none, some (.goto (-52), 61, 6, 0, .null), none, none, some (.return_, 62, 0, 0, .null)]],
  4, none, 0, 8)
def kX0_unlikeWorths : aM := ([[some (.iconst 0, 1, 0, 0, .int (0)), some (.istore_n 1, 2, 1, 0, .null), some (.iconst 0, 3, 0, 0, .int (0)), some (.istore_n 2, 4, 2, 0, .null), some (.iload_n 2, 5, 2, 0, .null), some (.sipush 313, 8, 0, 0, .int (313)), none, none, some (.if_icmp .ge 21, 11, 29, 0, .null), none, none, some (.iload_n 1, 12, 1, 0, .null), some (.aload_n 0, 13, 0, 0, .null), some (.getfield 31, 16, 0, 6, .null), none, none],
 [some (.iload_n 2, 17, 2, 0, .null), some (.laload, 18, 0, 0, .null), some (.invokestatic 155, 21, 232, 1, .null), none, none, some (.iadd, 22, 0, 0, .null), some (.istore_n 1, 23, 1, 0, .null), some (.iinc 2 1, 26, 2, 0, .int (1)), none, none, some (.goto (-22), 29, 4, 0, .null), none, none, some (.iload_n 1, 30, 1, 0, .null), some (.ireturn, 31, 0, 0, .null)]],
  3, (some .int), 0, 9)
def kX0_meaningsMet : aM := ([[some (.iconst 0, 1, 0, 0, .int (0)), some (.istore_n 1, 2, 1, 0, .null), some (.iconst 0, 3, 0, 0, .int (0)), some (.istore_n 2, 4, 2, 0, .null), some (.iload_n 2, 5, 2, 0, .null), some (.sipush 313, 8, 0, 0, .int (313)), none, none, some (.if_icmp .ge 68, 11, 76, 0, .null), none, none, some (.iconst 0, 12, 0, 0, .int (0)), some (.istore_n 3, 13, 3, 0, .null), some (.iload_n 3, 14, 3, 0, .null), some (.bipush 64, 16, 0, 0, .int (64)), none],
 [some (.if_icmp .ge 54, 19, 70, 0, .null), none, none, some (.aload_n 0, 20, 0, 0, .null), some (.getfield 31, 23, 0, 6, .null), none, none, some (.iload_n 2, 24, 2, 0, .null), some (.laload, 25, 0, 0, .null), some (.iload_n 3, 26, 3, 0, .null), some (.lushr, 27, 0, 0, .null), some (.lconst 0, 28, 0, 0, .long 0), some (.lcmp, 29, 0, 0, .null), some (.ifCond .eq 41, 32, 70, 0, .null), none, none],
 [some (.aload_n 0, 33, 0, 0, .null), some (.getfield 31, 36, 0, 6, .null), none, none, some (.iload_n 2, 37, 2, 0, .null), some (.laload, 38, 0, 0, .null), some (.iload_n 3, 39, 3, 0, .null), some (.lushr, 40, 0, 0, .null), some (.lconst 1, 41, 0, 0, .long 1), some (.land, 42, 0, 0, .null), some (.lconst 0, 43, 0, 0, .long 0), some (.lcmp, 44, 0, 0, .null), some (.ifCond .eq 20, 47, 64, 0, .null), none, none, some (.iload_n 1, 48, 1, 0, .null)],
 [some (.aload_n 0, 49, 0, 0, .null), some (.bipush 64, 51, 0, 0, .int (64)), none, some (.iload_n 2, 52, 2, 0, .null), some (.imul, 53, 0, 0, .null), some (.iload_n 3, 54, 3, 0, .null), some (.iadd, 55, 0, 0, .null), some (.sipush 9999, 58, 0, 0, .int (9999)), none, none, some (.isub, 59, 0, 0, .null), some (.invokevirtual 161, 62, 11, 2, .retAddr 0), none, none, some (.ior, 63, 0, 0, .null), some (.istore_n 1, 64, 1, 0, .null)],
 [some (.iinc 3 1, 67, 3, 0, .int (1)), none, none, some (.goto (-54), 70, 13, 0, .null), none, none, some (.iinc 2 1, 73, 2, 0, .int (1)), none, none, some (.goto (-69), 76, 4, 0, .null), none, none, some (.iload_n 1, 77, 1, 0, .null), some (.ireturn, 78, 0, 0, .null)]],
  4, (some .int), 0, 10)
def kX0_meaningBit : aM := ([[some (.aload_n 0, 1, 0, 0, .null), some (.getfield 64, 4, 0, 0, .null), none, none, some (.iload_n 1, 5, 1, 0, .null), some (.invokevirtual 126, 8, 47, 2, .retAddr 4), none, none, some (.istore_n 2, 9, 2, 0, .null), some (.iload_n 2, 10, 2, 0, .null), some (.iconst (-1), 11, 0, 0, .int (-1)), some (.if_icmp .ne 7, 14, 18, 0, .null), none, none, some (.iconst 0, 15, 0, 0, .int (0)), some (.goto 6, 18, 21, 0, .null)],
 [none, none, some (.iconst 1, 19, 0, 0, .int (1)), some (.iload_n 2, 20, 2, 0, .null), some (.ishl, 21, 0, 0, .null), some (.ireturn, 22, 0, 0, .null)]],
  3, (some .int), 0, 11)
def kX1_init : aM := ([[some (.aload_n 0, 1, 0, 0, .null), some (.invokespecial 3, 4, 900, 1, .null), none, none, some (.aload_n 0, 5, 0, 0, .null), some (.bipush 7, 7, 0, 0, .int (7)), none, some (.newarray .int, 9, 0, 0, .null), none, some (.putfield 9, 12, 1, 0, .null), none, none, some (.aload_n 0, 13, 0, 0, .null), some (.bipush 7, 15, 0, 0, .int (7)), none, some (.newarray .int, 17, 0, 0, .null)],
 [none, some (.putfield 15, 20, 1, 1, .null), none, none, some (.aload_n 0, 21, 0, 0, .null), some (.bipush 7, 23, 0, 0, .int (7)), none, some (.newarray .int, 25, 0, 0, .null), none, some (.putfield 18, 28, 1, 2, .null), none, none, some (.aload_n 0, 29, 0, 0, .null), some (.iconst 0, 30, 0, 0, .int (0)), some (.putfield 21, 33, 1, 3, .int 0), none],
 [none, some (.return_, 34, 0, 0, .null)]],
  1, none, 1, 12)
def kX1_clear : aM := ([[some (.aload_n 0, 1, 0, 0, .null), some (.iconst 0, 2, 0, 0, .int (0)), some (.putfield 21, 5, 1, 3, .int 0), none, none, some (.return_, 6, 0, 0, .null)]],
  1, none, 1, 13)
def kX1_add : aM := ([[some (.aload_n 0, 1, 0, 0, .null), some (.getfield 21, 4, 1, 3, .int 0), none, none, some (.bipush 7, 6, 0, 0, .int (7)), none, some (.if_icmp .ge 24, 9, 30, 0, .null), none, none, some (.aload_n 0, 10, 0, 0, .null), some (.aload_n 0, 11, 0, 0, .null), some (.getfield 21, 14, 1, 3, .int 0), none, none, some (.iload_n 1, 15, 1, 0, .null), some (.iload_n 2, 16, 2, 0, .null)],
 [some (.iload_n 3, 17, 3, 0, .null), some (.invokevirtual 25, 20, 15, 5, .retAddr 1), none, none, some (.aload_n 0, 21, 0, 0, .null), some (.dup, 22, 0, 0, .null), some (.getfield 21, 25, 1, 3, .int 0), none, none, some (.iconst 1, 26, 0, 0, .int (1)), some (.iadd, 27, 0, 0, .null), some (.putfield 21, 30, 1, 3, .int 0), none, none, some (.return_, 31, 0, 0, .null)]],
  4, none, 1, 14)
def kX1_put : aM := ([[some (.aload_n 0, 1, 0, 0, .null), some (.getfield 9, 4, 1, 0, .null), none, none, some (.iload_n 1, 5, 1, 0, .null), some (.iload_n 2, 6, 2, 0, .null), some (.iastore, 7, 0, 0, .null), some (.aload_n 0, 8, 0, 0, .null), some (.getfield 15, 11, 1, 1, .null), none, none, some (.iload_n 1, 12, 1, 0, .null), some (.iload_n 3, 13, 3, 0, .null), some (.iastore, 14, 0, 0, .null), some (.aload_n 0, 15, 0, 0, .null), some (.getfield 18, 18, 1, 2, .null)],
 [none, none, some (.iload_n 1, 19, 1, 0, .null), some (.iload 4, 21, 4, 0, .null), none, some (.iastore, 22, 0, 0, .null), some (.return_, 23, 0, 0, .null)]],
  5, none, 1, 15)
def kX1_remove : aM := ([[some (.iload_n 1, 1, 1, 0, .null), some (.iconst 1, 2, 0, 0, .int (1)), some (.iadd, 3, 0, 0, .null), some (.istore_n 2, 4, 2, 0, .null), some (.iload_n 2, 5, 2, 0, .null), some (.aload_n 0, 6, 0, 0, .null), some (.getfield 21, 9, 1, 3, .int 0), none, none, some (.if_icmp .ge 34, 12, 43, 0, .null), none, none, some (.aload_n 0, 13, 0, 0, .null), some (.iload_n 2, 14, 2, 0, .null), some (.iconst 1, 15, 0, 0, .int (1)), some (.isub, 16, 0, 0, .null)],
 [some (.aload_n 0, 17, 0, 0, .null), some (.getfield 9, 20, 1, 0, .null), none, none, some (.iload_n 2, 21, 2, 0, .null), some (.iaload, 22, 0, 0, .null), some (.aload_n 0, 23, 0, 0, .null), some (.getfield 15, 26, 1, 1, .null), none, none, some (.iload_n 2, 27, 2, 0, .null), some (.iaload, 28, 0, 0, .null), some (.aload_n 0, 29, 0, 0, .null), some (.getfield 18, 32, 1, 2, .null), none, none],
 [some (.iload_n 2, 33, 2, 0, .null), some (.iaload, 34, 0, 0, .null), some (.invokevirtual 25, 37, 15, 5, .retAddr 1), none, none, some (.iinc 2 1, 40, 2, 0, .int (1)), none, none, some (.goto (-36), 43, 4, 0, .null), none, none, some (.aload_n 0, 44, 0, 0, .null), some (.dup, 45, 0, 0, .null), some (.getfield 21, 48, 1, 3, .int 0), none, none],
 [some (.iconst 1, 49, 0, 0, .int (1)), some (.isub, 50, 0, 0, .null), some (.putfield 21, 53, 1, 3, .int 0), none, none, some (.return_, 54, 0, 0, .null)]],
  3, none, 1, 16)
def kX1_exchange : aM := ([[some (.aload_n 0, 1, 0, 0, .null), some (.getfield 9, 4, 1, 0, .null), none, none, some (.iload_n 1, 5, 1, 0, .null), some (.iaload, 6, 0, 0, .null), some (.istore_n 3, 7, 3, 0, .null), some (.aload_n 0, 8, 0, 0, .null), some (.getfield 15, 11, 1, 1, .null), none, none, some (.iload_n 1, 12, 1, 0, .null), some (.iaload, 13, 0, 0, .null), some (.istore 4, 15, 4, 0, .null), none, some (.aload_n 0, 16, 0, 0, .null)],
 [some (.getfield 18, 19, 1, 2, .null), none, none, some (.iload_n 1, 20, 1, 0, .null), some (.iaload, 21, 0, 0, .null), some (.istore 5, 23, 5, 0, .null), none, some (.aload_n 0, 24, 0, 0, .null), some (.iload_n 1, 25, 1, 0, .null), some (.aload_n 0, 26, 0, 0, .null), some (.getfield 9, 29, 1, 0, .null), none, none, some (.iload_n 2, 30, 2, 0, .null), some (.iaload, 31, 0, 0, .null), some (.aload_n 0, 32, 0, 0, .null)],
 [some (.getfield 15, 35, 1, 1, .null), none, none, some (.iload_n 2, 36, 2, 0, .null), some (.iaload, 37, 0, 0, .null), some (.aload_n 0, 38, 0, 0, .null), some (.getfield 18, 41, 1, 2, .null), none, none, some (.iload_n 2, 42, 2, 0, .null), some (.iaload, 43, 0, 0, .null), some (.invokevirtual 25, 46, 15, 5, .retAddr 1), none, none, some (.aload_n 0, 47, 0, 0, .null), some (.iload_n 2, 48, 2, 0, .null)],
 [some (.iload_n 3, 49, 3, 0, .null), some (.iload 4, 51, 4, 0, .null), none, some (.iload 5, 53, 5, 0, .null), none, some (.invokevirtual 25, 56, 15, 5, .retAddr 1), none, none, some (.return_, 57, 0, 0, .null)]],
  6, none, 1, 17)
def kX1_become : aM := ([[some (.iconst 0, 1, 0, 0, .int (0)), some (.istore_n 2, 2, 2, 0, .null), some (.iload_n 2, 3, 2, 0, .null), some (.aload_n 1, 4, 1, 0, .null), some (.getfield 21, 7, 1, 3, .int 0), none, none, some (.if_icmp .ge 32, 10, 39, 0, .null), none, none, some (.aload_n 0, 11, 0, 0, .null), some (.iload_n 2, 12, 2, 0, .null), some (.aload_n 1, 13, 1, 0, .null), some (.getfield 9, 16, 1, 0, .null), none, none],
 [some (.iload_n 2, 17, 2, 0, .null), some (.iaload, 18, 0, 0, .null), some (.aload_n 1, 19, 1, 0, .null), some (.getfield 15, 22, 1, 1, .null), none, none, some (.iload_n 2, 23, 2, 0, .null), some (.iaload, 24, 0, 0, .null), some (.aload_n 1, 25, 1, 0, .null), some (.getfield 18, 28, 1, 2, .null), none, none, some (.iload_n 2, 29, 2, 0, .null), some (.iaload, 30, 0, 0, .null), some (.invokevirtual 25, 33, 15, 5, .retAddr 1), none],
 [none, some (.iinc 2 1, 36, 2, 0, .int (1)), none, none, some (.goto (-34), 39, 2, 0, .null), none, none, some (.aload_n 0, 40, 0, 0, .null), some (.aload_n 1, 41, 1, 0, .null), some (.getfield 21, 44, 1, 3, .int 0), none, none, some (.putfield 21, 47, 1, 3, .int 0), none, none, some (.return_, 48, 0, 0, .null)]],
  3, none, 1, 18)
def kX1_isSeenAt : aM := ([[some (.aload_n 0, 1, 0, 0, .null), some (.getfield 9, 4, 1, 0, .null), none, none, some (.iload_n 1, 5, 1, 0, .null), some (.iaload, 6, 0, 0, .null), some (.aload_n 0, 7, 0, 0, .null), some (.getfield 15, 10, 1, 1, .null), none, none, some (.iload_n 1, 11, 1, 0, .null), some (.iaload, 12, 0, 0, .null), some (.aload_n 0, 13, 0, 0, .null), some (.getfield 18, 16, 1, 2, .null), none, none],
 [some (.iload_n 1, 17, 1, 0, .null), some (.iaload, 18, 0, 0, .null), some (.iload_n 2, 19, 2, 0, .null), some (.invokestatic 29, 22, 116, 4, .null), none, none, some (.ireturn, 23, 0, 0, .null)]],
  3, (some .boolean), 1, 19)
def kX1_pegsLike : aM := ([[some (.iconst 0, 1, 0, 0, .int (0)), some (.istore_n 2, 2, 2, 0, .null), some (.aload_n 0, 3, 0, 0, .null), some (.getfield 21, 6, 1, 3, .int 0), none, none, some (.aload_n 1, 7, 1, 0, .null), some (.getfield 21, 10, 1, 3, .int 0), none, none, some (.invokestatic 33, 13, 904, 2, .null), none, none, some (.istore_n 3, 14, 3, 0, .null), some (.iconst 0, 15, 0, 0, .int (0)), some (.istore 4, 17, 4, 0, .null)],
 [none, some (.iload 4, 19, 4, 0, .null), none, some (.iload_n 3, 20, 3, 0, .null), some (.if_icmp .ge 46, 23, 66, 0, .null), none, none, some (.aload_n 0, 24, 0, 0, .null), some (.getfield 9, 27, 1, 0, .null), none, none, some (.iload 4, 29, 4, 0, .null), none, some (.iaload, 30, 0, 0, .null), some (.aload_n 1, 31, 1, 0, .null), some (.getfield 9, 34, 1, 0, .null)],
 [none, none, some (.iload 4, 36, 4, 0, .null), none, some (.iaload, 37, 0, 0, .null), some (.if_icmp .ne 23, 40, 60, 0, .null), none, none, some (.aload_n 0, 41, 0, 0, .null), some (.getfield 15, 44, 1, 1, .null), none, none, some (.iload 4, 46, 4, 0, .null), none, some (.iaload, 47, 0, 0, .null), some (.aload_n 1, 48, 1, 0, .null)],
 [some (.getfield 15, 51, 1, 1, .null), none, none, some (.iload 4, 53, 4, 0, .null), none, some (.iaload, 54, 0, 0, .null), some (.if_icmp .ne 6, 57, 60, 0, .null), none, none, some (.iinc 2 1, 60, 2, 0, .int (1)), none, none, some (.iinc 4 1, 63, 4, 0, .int (1)), none, none, some (.goto (-46), 66, 17, 0, .null)],
 [none, none, some (.iload_n 2, 67, 2, 0, .null), some (.ireturn, 68, 0, 0, .null)]],
  5, (some .int), 1, 20)
def kX1_dry : aM := ([[some (.iconst 0, 1, 0, 0, .int (0)), some (.istore_n 2, 2, 2, 0, .null), some (.iconst 0, 3, 0, 0, .int (0)), some (.istore_n 3, 4, 3, 0, .null), some (.iload_n 3, 5, 3, 0, .null), some (.aload_n 0, 6, 0, 0, .null), some (.getfield 21, 9, 1, 3, .int 0), none, none, some (.if_icmp .ge 39, 12, 48, 0, .null), none, none, some (.aload_n 0, 13, 0, 0, .null), some (.getfield 18, 16, 1, 2, .null), none, none],
 [some (.iload_n 3, 17, 3, 0, .null), some (.iconst 0, 18, 0, 0, .int (0)), some (.aload_n 0, 19, 0, 0, .null), some (.getfield 18, 22, 1, 2, .null), none, none, some (.iload_n 3, 23, 3, 0, .null), some (.iaload, 24, 0, 0, .null), some (.iload_n 1, 25, 1, 0, .null), some (.isub, 26, 0, 0, .null), some (.invokestatic 39, 29, 903, 2, .null), none, none, some (.iastore, 30, 0, 0, .null), some (.aload_n 0, 31, 0, 0, .null), some (.getfield 18, 34, 1, 2, .null)],
 [none, none, some (.iload_n 3, 35, 3, 0, .null), some (.iaload, 36, 0, 0, .null), some (.ifCond .ne 6, 39, 42, 0, .null), none, none, some (.iinc 2 1, 42, 2, 0, .int (1)), none, none, some (.iinc 3 1, 45, 3, 0, .int (1)), none, none, some (.goto (-41), 48, 4, 0, .null), none, none],
 [some (.iload_n 2, 49, 2, 0, .null), some (.ireturn, 50, 0, 0, .null)]],
  4, (some .int), 1, 21)
def kX2_init : aM := ([[some (.aload_n 0, 1, 0, 0, .null), some (.invokespecial 3, 4, 900, 1, .null), none, none, some (.aload_n 0, 5, 0, 0, .null), some (.bipush 40, 7, 0, 0, .int (40)), none, some (.newarray .long, 9, 0, 0, .null), none, some (.putfield 9, 12, 2, 0, .null), none, none, some (.aload_n 0, 13, 0, 0, .null), some (.iconst 0, 14, 0, 0, .int (0)), some (.putfield 15, 17, 2, 1, .int 0), none],
 [none, some (.aload_n 0, 18, 0, 0, .null), some (.iconst 0, 19, 0, 0, .int (0)), some (.putfield 19, 22, 2, 2, .int 0), none, none, some (.return_, 23, 0, 0, .null)]],
  1, none, 2, 22)
def kX2_begin : aM := ([[some (.aload_n 0, 1, 0, 0, .null), some (.iload_n 1, 2, 1, 0, .null), some (.putfield 15, 5, 2, 1, .int 0), none, none, some (.aload_n 0, 6, 0, 0, .null), some (.iload_n 1, 7, 1, 0, .null), some (.ifCond .ne 7, 10, 14, 0, .null), none, none, some (.iconst 0, 11, 0, 0, .int (0)), some (.goto 4, 14, 15, 0, .null), none, none, some (.iload_n 2, 15, 2, 0, .null), some (.putfield 19, 18, 2, 2, .int 0)],
 [none, none, some (.aload_n 0, 19, 0, 0, .null), some (.getfield 9, 22, 2, 0, .null), none, none, some (.lconst 0, 23, 0, 0, .long 0), some (.invokestatic 22, 26, 239, 2, .null), none, none, some (.return_, 27, 0, 0, .null)]],
  3, none, 2, 23)
def kX2_put : aM := ([[some (.aload_n 0, 1, 0, 0, .null), some (.getfield 15, 4, 2, 1, .int 0), none, none, some (.lookupswitch 54 #[(8, 28), (16, 41)], 32, 0, 0, .null), none, none, none, none, none, none, none, none, none, none, none],
 [none, none, none, none, none, none, none, none, none, none, none, none, none, none, none, none],
 [some (.aload_n 0, 33, 0, 0, .null), some (.getfield 9, 36, 2, 0, .null), none, none, some (.iload_n 1, 37, 1, 0, .null), some (.lload_n 2, 38, 2, 0, .null), some (.l2i, 39, 0, 0, .null), some (.i2b, 40, 0, 0, .null), some (.i2l, 41, 0, 0, .null), some (.lastore, 42, 0, 0, .null), some (.goto 23, 45, 65, 0, .null), none, none, some (.aload_n 0, 46, 0, 0, .null), some (.getfield 9, 49, 2, 0, .null), none],
 [none, some (.iload_n 1, 50, 1, 0, .null), some (.lload_n 2, 51, 2, 0, .null), some (.l2i, 52, 0, 0, .null), some (.i2s, 53, 0, 0, .null), some (.i2l, 54, 0, 0, .null), some (.lastore, 55, 0, 0, .null), some (.goto 10, 58, 65, 0, .null), none, none, some (.aload_n 0, 59, 0, 0, .null), some (.getfield 9, 62, 2, 0, .null), none, none, some (.iload_n 1, 63, 1, 0, .null), some (.lload_n 2, 64, 2, 0, .null)],
 [some (.lastore, 65, 0, 0, .null), some (.return_, 66, 0, 0, .null)]],
  4, none, 2, 24)
def kX2_hasRange : aM := ([[some (.iload_n 1, 1, 1, 0, .null), some (.ifCond .lt 29, 4, 30, 0, .null), none, none, some (.iload_n 2, 5, 2, 0, .null), some (.ifCond .lt 25, 8, 30, 0, .null), none, none, some (.iload_n 2, 9, 2, 0, .null), some (.aload_n 0, 10, 0, 0, .null), some (.getfield 19, 13, 2, 2, .int 0), none, none, some (.if_icmp .gt 17, 16, 30, 0, .null), none, none],
 [some (.iload_n 1, 17, 1, 0, .null), some (.aload_n 0, 18, 0, 0, .null), some (.getfield 19, 21, 2, 2, .int 0), none, none, some (.iload_n 2, 22, 2, 0, .null), some (.isub, 23, 0, 0, .null), some (.if_icmp .gt 7, 26, 30, 0, .null), none, none, some (.iconst 1, 27, 0, 0, .int (1)), some (.goto 4, 30, 31, 0, .null), none, none, some (.iconst 0, 31, 0, 0, .int (0)), some (.ireturn, 32, 0, 0, .null)]],
  3, (some .boolean), 2, 25)
def kX3_init : aM := ([[some (.aload_n 0, 1, 0, 0, .null), some (.invokespecial 3, 4, 900, 1, .null), none, none, some (.aload_n 0, 5, 0, 0, .null), some (.bipush 120, 7, 0, 0, .int (120)), none, some (.newarray .int, 9, 0, 0, .null), none, some (.putfield 9, 12, 3, 0, .null), none, none, some (.aload_n 0, 13, 0, 0, .null), some (.iconst 0, 14, 0, 0, .int (0)), some (.putfield 15, 17, 3, 1, .int 0), none],
 [none, some (.aload_n 0, 18, 0, 0, .null), some (.iconst 0, 19, 0, 0, .int (0)), some (.putfield 19, 22, 3, 2, .int 0), none, none, some (.aload_n 0, 23, 0, 0, .null), some (.iconst 0, 24, 0, 0, .int (0)), some (.putfield 22, 27, 3, 3, .int 0), none, none, some (.aload_n 0, 28, 0, 0, .null), some (.iconst 0, 29, 0, 0, .int (0)), some (.putfield 25, 32, 3, 4, .int 0), none, none],
 [some (.aload_n 0, 33, 0, 0, .null), some (.iconst 0, 34, 0, 0, .int (0)), some (.putfield 28, 37, 3, 5, .int 0), none, none, some (.return_, 38, 0, 0, .null)]],
  1, none, 3, 26)
def kX3_add : aM := ([[some (.aload_n 0, 1, 0, 0, .null), some (.getfield 15, 4, 3, 1, .int 0), none, none, some (.bipush 120, 6, 0, 0, .int (120)), none, some (.if_icmp .ge 23, 9, 29, 0, .null), none, none, some (.aload_n 0, 10, 0, 0, .null), some (.getfield 9, 13, 3, 0, .null), none, none, some (.aload_n 0, 14, 0, 0, .null), some (.getfield 15, 17, 3, 1, .int 0), none],
 [none, some (.iload_n 1, 18, 1, 0, .null), some (.iastore, 19, 0, 0, .null), some (.aload_n 0, 20, 0, 0, .null), some (.dup, 21, 0, 0, .null), some (.getfield 15, 24, 3, 1, .int 0), none, none, some (.iconst 1, 25, 0, 0, .int (1)), some (.iadd, 26, 0, 0, .null), some (.putfield 15, 29, 3, 1, .int 0), none, none, some (.return_, 30, 0, 0, .null)]],
  2, none, 3, 27)
def kX3_tell : aM := ([[some (.aload_n 0, 1, 0, 0, .null), some (.iconst 0, 2, 0, 0, .int (0)), some (.putfield 22, 5, 3, 3, .int 0), none, none, some (.aload_n 0, 6, 0, 0, .null), some (.invokevirtual 31, 9, 38, 1, .retAddr 3), none, none, some (.iconst 1, 10, 0, 0, .int (1)), some (.istore_n 2, 11, 2, 0, .null), some (.iload_n 2, 12, 2, 0, .null), some (.bipush 120, 14, 0, 0, .int (120)), none, some (.if_icmp .gt 116, 17, 130, 0, .null), none],
 [none, some (.iconst 0, 18, 0, 0, .int (0)), some (.istore_n 3, 19, 3, 0, .null), some (.aload_n 0, 20, 0, 0, .null), some (.ldc 34, 22, 0, 0, .retAddr 10), none, some (.invokevirtual 36, 25, 37, 2, .retAddr 3), none, none, some (.ifCond .eq 12, 28, 37, 0, .null), none, none, some (.aload_n 0, 29, 0, 0, .null), some (.aload_n 1, 30, 1, 0, .null), some (.invokevirtual 40, 33, 29, 2, .retAddr 3), none],
 [none, some (.istore_n 3, 34, 3, 0, .null), some (.goto 54, 37, 88, 0, .null), none, none, some (.aload_n 0, 38, 0, 0, .null), some (.ldc 44, 40, 0, 0, .retAddr 18), none, some (.invokevirtual 36, 43, 37, 2, .retAddr 3), none, none, some (.ifCond .eq 12, 46, 55, 0, .null), none, none, some (.aload_n 0, 47, 0, 0, .null), some (.aload_n 1, 48, 1, 0, .null)],
 [some (.invokevirtual 46, 51, 31, 2, .retAddr 3), none, none, some (.istore_n 3, 52, 3, 0, .null), some (.goto 36, 55, 88, 0, .null), none, none, some (.aload_n 0, 56, 0, 0, .null), some (.ldc 49, 58, 0, 0, .retAddr 19), none, some (.invokevirtual 36, 61, 37, 2, .retAddr 3), none, none, some (.ifCond .eq 12, 64, 73, 0, .null), none, none],
 [some (.aload_n 0, 65, 0, 0, .null), some (.aload_n 1, 66, 1, 0, .null), some (.invokevirtual 51, 69, 32, 2, .retAddr 3), none, none, some (.istore_n 3, 70, 3, 0, .null), some (.goto 18, 73, 88, 0, .null), none, none, some (.aload_n 0, 74, 0, 0, .null), some (.ldc 54, 76, 0, 0, .retAddr 20), none, some (.invokevirtual 36, 79, 37, 2, .retAddr 3), none, none, some (.ifCond .eq 9, 82, 88, 0, .null)],
 [none, none, some (.aload_n 0, 83, 0, 0, .null), some (.aload_n 1, 84, 1, 0, .null), some (.invokevirtual 56, 87, 33, 2, .retAddr 3), none, none, some (.istore_n 3, 88, 3, 0, .null), some (.iload_n 3, 89, 3, 0, .null), some (.ifCond .eq 12, 92, 101, 0, .null), none, none, some (.aload_n 0, 93, 0, 0, .null), some (.getfield 25, 96, 3, 4, .int 0), none, none],
 [some (.ifCond .ne 5, 99, 101, 0, .null), none, none, some (.iload_n 2, 100, 2, 0, .null), some (.ireturn, 101, 0, 0, .null), some (.iload_n 3, 102, 3, 0, .null), some (.ifCond .eq 11, 105, 113, 0, .null), none, none, some (.aload_n 0, 106, 0, 0, .null), some (.getfield 25, 109, 3, 4, .int 0), none, none, some (.iconst 3, 110, 0, 0, .int (3)), some (.if_icmp .eq 10, 113, 120, 0, .null), none],
 [none, some (.iconst (-1), 114, 0, 0, .int (-1)), some (.aload_n 0, 115, 0, 0, .null), some (.getfield 19, 118, 3, 2, .int 0), none, none, some (.isub, 119, 0, 0, .null), some (.ireturn, 120, 0, 0, .null), some (.aload_n 0, 121, 0, 0, .null), some (.invokevirtual 31, 124, 38, 1, .retAddr 3), none, none, some (.iinc 2 1, 127, 2, 0, .int (1)), none, none, some (.goto (-116), 130, 11, 0, .null)],
 [none, none, some (.iconst (-1), 131, 0, 0, .int (-1)), some (.aload_n 0, 132, 0, 0, .null), some (.getfield 19, 135, 3, 2, .int 0), none, none, some (.isub, 136, 0, 0, .null), some (.ireturn, 137, 0, 0, .null)]],
  4, (some .int), 3, 28)
def kX3_lineItem : aM := ([[some (.aload_n 0, 1, 0, 0, .null), some (.invokevirtual 31, 4, 38, 1, .retAddr 3), none, none, some (.aload_n 0, 5, 0, 0, .null), some (.iconst 0, 6, 0, 0, .int (0)), some (.iconst 3, 7, 0, 0, .int (3)), some (.invokevirtual 59, 10, 34, 3, .retAddr 3), none, none, some (.ifCond .ne 5, 13, 15, 0, .null), none, none, some (.iconst 0, 14, 0, 0, .int (0)), some (.ireturn, 15, 0, 0, .null), some (.aload_n 1, 16, 1, 0, .null)],
 [some (.getfield 63, 19, 4, 0, .null), none, none, some (.aload_n 0, 20, 0, 0, .null), some (.getfield 28, 23, 3, 5, .int 0), none, none, some (.aaload, 24, 0, 0, .null), some (.astore_n 2, 25, 2, 0, .null), some (.aload_n 2, 26, 2, 0, .null), some (.invokevirtual 69, 29, 13, 1, .retAddr 1), none, none, some (.aload_n 0, 30, 0, 0, .null), some (.aload_n 2, 31, 2, 0, .null), some (.invokevirtual 74, 34, 30, 2, .retAddr 3)],
 [none, none, some (.ifCond .ne 5, 37, 39, 0, .null), none, none, some (.iconst 0, 38, 0, 0, .int (0)), some (.ireturn, 39, 0, 0, .null), some (.iconst 1, 40, 0, 0, .int (1)), some (.istore_n 3, 41, 3, 0, .null), some (.iload_n 3, 42, 3, 0, .null), some (.bipush 7, 44, 0, 0, .int (7)), none, some (.if_icmp .gt 26, 47, 70, 0, .null), none, none, some (.aload_n 0, 48, 0, 0, .null)],
 [some (.invokevirtual 78, 51, 35, 1, .retAddr 3), none, none, some (.ifCond .lt 19, 54, 70, 0, .null), none, none, some (.aload_n 0, 55, 0, 0, .null), some (.aload_n 2, 56, 2, 0, .null), some (.invokevirtual 74, 59, 30, 2, .retAddr 3), none, none, some (.ifCond .ne 5, 62, 64, 0, .null), none, none, some (.iconst 0, 63, 0, 0, .int (0)), some (.ireturn, 64, 0, 0, .null)],
 [some (.iinc 3 1, 67, 3, 0, .int (1)), none, none, some (.goto (-26), 70, 41, 0, .null), none, none, some (.iconst 1, 71, 0, 0, .int (1)), some (.ireturn, 72, 0, 0, .null)]],
  4, (some .boolean), 3, 29)
def kX3_garment : aM := ([[some (.aload_n 0, 1, 0, 0, .null), some (.invokevirtual 78, 4, 35, 1, .retAddr 3), none, none, some (.istore_n 2, 5, 2, 0, .null), some (.iload_n 2, 6, 2, 0, .null), some (.ifCond .lt 12, 9, 18, 0, .null), none, none, some (.aload_n 1, 10, 1, 0, .null), some (.getfield 82, 13, 1, 3, .int 0), none, none, some (.bipush 7, 15, 0, 0, .int (7)), none, some (.if_icmp .lt 5, 18, 20, 0, .null)],
 [none, none, some (.iconst 0, 19, 0, 0, .int (0)), some (.ireturn, 20, 0, 0, .null), some (.aload_n 0, 21, 0, 0, .null), some (.invokevirtual 31, 24, 38, 1, .retAddr 3), none, none, some (.aload_n 0, 25, 0, 0, .null), some (.iconst 1, 26, 0, 0, .int (1)), some (.bipush 9, 28, 0, 0, .int (9)), none, some (.invokevirtual 59, 31, 34, 3, .retAddr 3), none, none, some (.ifCond .ne 5, 34, 36, 0, .null)],
 [none, none, some (.iconst 0, 35, 0, 0, .int (0)), some (.ireturn, 36, 0, 0, .null), some (.aload_n 0, 37, 0, 0, .null), some (.getfield 28, 40, 3, 5, .int 0), none, none, some (.istore_n 3, 41, 3, 0, .null), some (.iconst 0, 42, 0, 0, .int (0)), some (.istore 4, 44, 4, 0, .null), none, some (.aload_n 0, 45, 0, 0, .null), some (.ldc 83, 47, 0, 0, .retAddr 17), none, some (.invokevirtual 36, 50, 37, 2, .retAddr 3)],
 [none, none, some (.ifCond .eq 25, 53, 75, 0, .null), none, none, some (.aload_n 0, 54, 0, 0, .null), some (.invokevirtual 31, 57, 38, 1, .retAddr 3), none, none, some (.aload_n 0, 58, 0, 0, .null), some (.iconst 0, 59, 0, 0, .int (0)), some (.bipush 9, 61, 0, 0, .int (9)), none, some (.invokevirtual 59, 64, 34, 3, .retAddr 3), none, none],
 [some (.ifCond .ne 5, 67, 69, 0, .null), none, none, some (.iconst 0, 68, 0, 0, .int (0)), some (.ireturn, 69, 0, 0, .null), some (.aload_n 0, 70, 0, 0, .null), some (.getfield 28, 73, 3, 5, .int 0), none, none, some (.istore 4, 75, 4, 0, .null), none, some (.aload_n 1, 76, 1, 0, .null), some (.iload_n 2, 77, 2, 0, .null), some (.iload_n 3, 78, 3, 0, .null), some (.iload 4, 80, 4, 0, .null), none],
 [some (.invokevirtual 85, 83, 14, 4, .retAddr 1), none, none, some (.iconst 1, 84, 0, 0, .int (1)), some (.ireturn, 85, 0, 0, .null)]],
  5, (some .boolean), 3, 30)
def kX3_windItem : aM := ([[some (.aload_n 0, 1, 0, 0, .null), some (.invokevirtual 31, 4, 38, 1, .retAddr 3), none, none, some (.aload_n 0, 5, 0, 0, .null), some (.iconst 0, 6, 0, 0, .int (0)), some (.bipush 20, 8, 0, 0, .int (20)), none, some (.invokevirtual 59, 11, 34, 3, .retAddr 3), none, none, some (.ifCond .ne 5, 14, 16, 0, .null), none, none, some (.iconst 0, 15, 0, 0, .int (0)), some (.ireturn, 16, 0, 0, .null)],
 [some (.aload_n 1, 17, 1, 0, .null), some (.aload_n 0, 18, 0, 0, .null), some (.getfield 28, 21, 3, 5, .int 0), none, none, some (.putfield 89, 24, 4, 2, .int 0), none, none, some (.iconst 1, 25, 0, 0, .int (1)), some (.ireturn, 26, 0, 0, .null)]],
  2, (some .boolean), 3, 31)
def kX3_meaningItem : aM := ([[some (.aload_n 0, 1, 0, 0, .null), some (.invokevirtual 31, 4, 38, 1, .retAddr 3), none, none, some (.aload_n 0, 5, 0, 0, .null), some (.iconst 0, 6, 0, 0, .int (0)), some (.bipush 9, 8, 0, 0, .int (9)), none, some (.invokevirtual 59, 11, 34, 3, .retAddr 3), none, none, some (.ifCond .ne 5, 14, 16, 0, .null), none, none, some (.iconst 0, 15, 0, 0, .int (0)), some (.ireturn, 16, 0, 0, .null)],
 [some (.aload_n 0, 17, 0, 0, .null), some (.getfield 28, 20, 3, 5, .int 0), none, none, some (.istore_n 2, 21, 2, 0, .null), some (.aload_n 0, 22, 0, 0, .null), some (.getfield 25, 25, 3, 4, .int 0), none, none, some (.iconst 4, 26, 0, 0, .int (4)), some (.if_icmp .ne 7, 29, 33, 0, .null), none, none, some (.iconst 1, 30, 0, 0, .int (1)), some (.goto 4, 33, 34, 0, .null), none],
 [none, some (.iconst 0, 34, 0, 0, .int (0)), some (.istore_n 3, 35, 3, 0, .null), some (.iload_n 3, 36, 3, 0, .null), some (.ifCond .eq 7, 39, 43, 0, .null), none, none, some (.aload_n 0, 40, 0, 0, .null), some (.invokevirtual 31, 43, 38, 1, .retAddr 3), none, none, some (.aload_n 0, 44, 0, 0, .null), some (.iconst 0, 45, 0, 0, .int (0)), some (.iload_n 3, 46, 3, 0, .null), some (.ifCond .eq 9, 49, 55, 0, .null), none],
 [none, some (.sipush 999, 52, 0, 0, .int (999)), none, none, some (.goto 6, 55, 58, 0, .null), none, none, some (.sipush 9999, 58, 0, 0, .int (9999)), none, none, some (.invokevirtual 59, 61, 34, 3, .retAddr 3), none, none, some (.ifCond .ne 5, 64, 66, 0, .null), none, none],
 [some (.iconst 0, 65, 0, 0, .int (0)), some (.ireturn, 66, 0, 0, .null), some (.aload_n 1, 67, 1, 0, .null), some (.getfield 91, 70, 4, 1, .null), none, none, some (.iload_n 2, 71, 2, 0, .null), some (.iload_n 3, 72, 3, 0, .null), some (.ifCond .eq 11, 75, 83, 0, .null), none, none, some (.aload_n 0, 76, 0, 0, .null), some (.getfield 28, 79, 3, 5, .int 0), none, none, some (.ineg, 80, 0, 0, .null)],
 [some (.goto 7, 83, 87, 0, .null), none, none, some (.aload_n 0, 84, 0, 0, .null), some (.getfield 28, 87, 3, 5, .int 0), none, none, some (.iastore, 88, 0, 0, .null), some (.iconst 1, 89, 0, 0, .int (1)), some (.ireturn, 90, 0, 0, .null)]],
  4, (some .boolean), 3, 32)
def kX3_forgetItem : aM := ([[some (.aload_n 0, 1, 0, 0, .null), some (.invokevirtual 31, 4, 38, 1, .retAddr 3), none, none, some (.aload_n 0, 5, 0, 0, .null), some (.iconst 0, 6, 0, 0, .int (0)), some (.bipush 9, 8, 0, 0, .int (9)), none, some (.invokevirtual 59, 11, 34, 3, .retAddr 3), none, none, some (.ifCond .ne 5, 14, 16, 0, .null), none, none, some (.iconst 0, 15, 0, 0, .int (0)), some (.ireturn, 16, 0, 0, .null)],
 [some (.aload_n 1, 17, 1, 0, .null), some (.getfield 91, 20, 4, 1, .null), none, none, some (.aload_n 0, 21, 0, 0, .null), some (.getfield 28, 24, 3, 5, .int 0), none, none, some (.sipush (-1000), 27, 0, 0, .int (-1000)), none, none, some (.iastore, 28, 0, 0, .null), some (.iconst 1, 29, 0, 0, .int (1)), some (.ireturn, 30, 0, 0, .null)]],
  2, (some .boolean), 3, 33)
def kX3_takeNumber : aM := ([[some (.aload_n 0, 1, 0, 0, .null), some (.getfield 25, 4, 3, 4, .int 0), none, none, some (.iconst 2, 5, 0, 0, .int (2)), some (.if_icmp .ne 10, 8, 15, 0, .null), none, none, some (.aload_n 0, 9, 0, 0, .null), some (.invokevirtual 94, 12, 39, 1, .retAddr 3), none, none, some (.goto 4, 15, 16, 0, .null), none, none, some (.iconst (-1), 16, 0, 0, .int (-1))],
 [some (.istore_n 3, 17, 3, 0, .null), some (.iload_n 3, 18, 3, 0, .null), some (.iload_n 1, 19, 1, 0, .null), some (.iload_n 2, 20, 2, 0, .null), some (.invokestatic 97, 23, 105, 3, .null), none, none, some (.ifCond .ne 5, 26, 28, 0, .null), none, none, some (.iconst 0, 27, 0, 0, .int (0)), some (.ireturn, 28, 0, 0, .null), some (.aload_n 0, 29, 0, 0, .null), some (.iload_n 3, 30, 3, 0, .null), some (.putfield 28, 33, 3, 5, .int 0), none],
 [none, some (.aload_n 0, 34, 0, 0, .null), some (.invokevirtual 31, 37, 38, 1, .retAddr 3), none, none, some (.iconst 1, 38, 0, 0, .int (1)), some (.ireturn, 39, 0, 0, .null)]],
  4, (some .boolean), 3, 34)
def kX3_kindTold : aM := ([[some (.iconst 0, 1, 0, 0, .int (0)), some (.istore_n 1, 2, 1, 0, .null), some (.iload_n 1, 3, 1, 0, .null), some (.bipush 6, 5, 0, 0, .int (6)), none, some (.if_icmp .ge 22, 8, 27, 0, .null), none, none, some (.aload_n 0, 9, 0, 0, .null), some (.iload_n 1, 10, 1, 0, .null), some (.invokestatic 101, 13, 36, 1, .null), none, none, some (.invokevirtual 36, 16, 37, 2, .retAddr 3), none, none],
 [some (.ifCond .eq 5, 19, 21, 0, .null), none, none, some (.iload_n 1, 20, 1, 0, .null), some (.ireturn, 21, 0, 0, .null), some (.iinc 1 1, 24, 1, 0, .int (1)), none, none, some (.goto (-22), 27, 2, 0, .null), none, none, some (.iconst (-1), 28, 0, 0, .int (-1)), some (.ireturn, 29, 0, 0, .null)]],
  2, (some .int), 3, 35)
def kX3_kindName : aM := ([[some (.iload_n 0, 1, 0, 0, .null), some (.tableswitch 50 1 5 #[35, 38, 41, 44, 47], 36, 0, 0, .null), none, none, none, none, none, none, none, none, none, none, none, none, none, none],
 [none, none, none, none, none, none, none, none, none, none, none, none, none, none, none, none],
 [none, none, none, none, some (.ldc 105, 38, 0, 0, .retAddr 11), none, some (.areturn, 39, 0, 0, .null), some (.ldc 107, 41, 0, 0, .retAddr 12), none, some (.areturn, 42, 0, 0, .null), some (.ldc 109, 44, 0, 0, .retAddr 13), none, some (.areturn, 45, 0, 0, .null), some (.ldc 111, 47, 0, 0, .retAddr 14), none, some (.areturn, 48, 0, 0, .null)],
 [some (.ldc 113, 50, 0, 0, .retAddr 15), none, some (.areturn, 51, 0, 0, .null), some (.ldc 115, 53, 0, 0, .retAddr 16), none, some (.areturn, 54, 0, 0, .null)]],
  1, (some (.object "java/lang/String")), 3, 36)
def kX3_isWord : aM := ([[some (.aload_n 0, 1, 0, 0, .null), some (.getfield 25, 4, 3, 4, .int 0), none, none, some (.iconst 1, 5, 0, 0, .int (1)), some (.if_icmp .ne 19, 8, 24, 0, .null), none, none, some (.aload_n 0, 9, 0, 0, .null), some (.getfield 22, 12, 3, 3, .int 0), none, none, some (.aload_n 0, 13, 0, 0, .null), some (.getfield 19, 16, 3, 2, .int 0), none, none],
 [some (.isub, 17, 0, 0, .null), some (.aload_n 1, 18, 1, 0, .null), some (.invokevirtual 117, 21, 233, 1, .retAddr 12), none, none, some (.if_icmp .eq 5, 24, 26, 0, .null), none, none, some (.iconst 0, 25, 0, 0, .int (0)), some (.ireturn, 26, 0, 0, .null), some (.iconst 0, 27, 0, 0, .int (0)), some (.istore_n 2, 28, 2, 0, .null), some (.iload_n 2, 29, 2, 0, .null), some (.aload_n 1, 30, 1, 0, .null), some (.invokevirtual 117, 33, 233, 1, .retAddr 12), none],
 [none, some (.if_icmp .ge 30, 36, 63, 0, .null), none, none, some (.aload_n 0, 37, 0, 0, .null), some (.getfield 9, 40, 3, 0, .null), none, none, some (.aload_n 0, 41, 0, 0, .null), some (.getfield 19, 44, 3, 2, .int 0), none, none, some (.iload_n 2, 45, 2, 0, .null), some (.iadd, 46, 0, 0, .null), some (.iaload, 47, 0, 0, .null), some (.aload_n 1, 48, 1, 0, .null)],
 [some (.iload_n 2, 49, 2, 0, .null), some (.invokevirtual 121, 52, 234, 2, .retAddr 12), none, none, some (.if_icmp .eq 5, 55, 57, 0, .null), none, none, some (.iconst 0, 56, 0, 0, .int (0)), some (.ireturn, 57, 0, 0, .null), some (.iinc 2 1, 60, 2, 0, .int (1)), none, none, some (.goto (-32), 63, 28, 0, .null), none, none, some (.iconst 1, 64, 0, 0, .int (1))],
 [some (.ireturn, 65, 0, 0, .null)]],
  3, (some .boolean), 3, 37)
def kX3_step : aM := ([[some (.aload_n 0, 1, 0, 0, .null), some (.aload_n 0, 2, 0, 0, .null), some (.getfield 22, 5, 3, 3, .int 0), none, none, some (.putfield 19, 8, 3, 2, .int 0), none, none, some (.aload_n 0, 9, 0, 0, .null), some (.getfield 19, 12, 3, 2, .int 0), none, none, some (.aload_n 0, 13, 0, 0, .null), some (.getfield 15, 16, 3, 1, .int 0), none, none],
 [some (.if_icmp .ge 30, 19, 46, 0, .null), none, none, some (.aload_n 0, 20, 0, 0, .null), some (.getfield 9, 23, 3, 0, .null), none, none, some (.aload_n 0, 24, 0, 0, .null), some (.getfield 19, 27, 3, 2, .int 0), none, none, some (.iaload, 28, 0, 0, .null), some (.bipush 32, 30, 0, 0, .int (32)), none, some (.if_icmp .ne 16, 33, 46, 0, .null), none],
 [none, some (.aload_n 0, 34, 0, 0, .null), some (.dup, 35, 0, 0, .null), some (.getfield 19, 38, 3, 2, .int 0), none, none, some (.iconst 1, 39, 0, 0, .int (1)), some (.iadd, 40, 0, 0, .null), some (.putfield 19, 43, 3, 2, .int 0), none, none, some (.goto (-35), 46, 8, 0, .null), none, none, some (.aload_n 0, 47, 0, 0, .null), some (.aload_n 0, 48, 0, 0, .null)],
 [some (.getfield 19, 51, 3, 2, .int 0), none, none, some (.aload_n 0, 52, 0, 0, .null), some (.getfield 15, 55, 3, 1, .int 0), none, none, some (.if_icmp .ge 18, 58, 73, 0, .null), none, none, some (.aload_n 0, 59, 0, 0, .null), some (.getfield 9, 62, 3, 0, .null), none, none, some (.aload_n 0, 63, 0, 0, .null), some (.getfield 19, 66, 3, 2, .int 0)],
 [none, none, some (.iaload, 67, 0, 0, .null), some (.invokestatic 125, 70, 40, 1, .null), none, none, some (.goto 4, 73, 74, 0, .null), none, none, some (.iconst 0, 74, 0, 0, .int (0)), some (.putfield 25, 77, 3, 4, .int 0), none, none, some (.aload_n 0, 78, 0, 0, .null), some (.getfield 25, 81, 3, 4, .int 0), none],
 [none, some (.iconst 1, 82, 0, 0, .int (1)), some (.if_icmp .eq 11, 85, 93, 0, .null), none, none, some (.aload_n 0, 86, 0, 0, .null), some (.getfield 25, 89, 3, 4, .int 0), none, none, some (.iconst 2, 90, 0, 0, .int (2)), some (.if_icmp .ne 7, 93, 97, 0, .null), none, none, some (.iconst 1, 94, 0, 0, .int (1)), some (.goto 4, 97, 98, 0, .null), none],
 [none, some (.iconst 0, 98, 0, 0, .int (0)), some (.istore_n 1, 99, 1, 0, .null), some (.aload_n 0, 100, 0, 0, .null), some (.aload_n 0, 101, 0, 0, .null), some (.getfield 25, 104, 3, 4, .int 0), none, none, some (.ifCond .ne 10, 107, 114, 0, .null), none, none, some (.aload_n 0, 108, 0, 0, .null), some (.getfield 19, 111, 3, 2, .int 0), none, none, some (.goto 9, 114, 120, 0, .null)],
 [none, none, some (.aload_n 0, 115, 0, 0, .null), some (.getfield 19, 118, 3, 2, .int 0), none, none, some (.iconst 1, 119, 0, 0, .int (1)), some (.iadd, 120, 0, 0, .null), some (.putfield 22, 123, 3, 3, .int 0), none, none, some (.iload_n 1, 124, 1, 0, .null), some (.ifCond .eq 46, 127, 170, 0, .null), none, none, some (.aload_n 0, 128, 0, 0, .null)],
 [some (.getfield 22, 131, 3, 3, .int 0), none, none, some (.aload_n 0, 132, 0, 0, .null), some (.getfield 15, 135, 3, 1, .int 0), none, none, some (.if_icmp .ge 35, 138, 170, 0, .null), none, none, some (.aload_n 0, 139, 0, 0, .null), some (.getfield 9, 142, 3, 0, .null), none, none, some (.aload_n 0, 143, 0, 0, .null), some (.getfield 22, 146, 3, 3, .int 0)],
 [none, none, some (.iaload, 147, 0, 0, .null), some (.invokestatic 125, 150, 40, 1, .null), none, none, some (.aload_n 0, 151, 0, 0, .null), some (.getfield 25, 154, 3, 4, .int 0), none, none, some (.if_icmp .ne 16, 157, 170, 0, .null), none, none, some (.aload_n 0, 158, 0, 0, .null), some (.dup, 159, 0, 0, .null), some (.getfield 22, 162, 3, 3, .int 0)],
 [none, none, some (.iconst 1, 163, 0, 0, .int (1)), some (.iadd, 164, 0, 0, .null), some (.putfield 22, 167, 3, 3, .int 0), none, none, some (.goto (-44), 170, 123, 0, .null), none, none, some (.return_, 171, 0, 0, .null)]],
  2, none, 3, 38)
def kX3_numberHere : aM := ([[some (.iconst 0, 1, 0, 0, .int (0)), some (.istore_n 1, 2, 1, 0, .null), some (.aload_n 0, 3, 0, 0, .null), some (.getfield 19, 6, 3, 2, .int 0), none, none, some (.istore_n 2, 7, 2, 0, .null), some (.iload_n 2, 8, 2, 0, .null), some (.aload_n 0, 9, 0, 0, .null), some (.getfield 22, 12, 3, 3, .int 0), none, none, some (.if_icmp .ge 31, 15, 43, 0, .null), none, none, some (.iload_n 1, 16, 1, 0, .null)],
 [some (.sipush 9999, 19, 0, 0, .int (9999)), none, none, some (.if_icmp .gt 18, 22, 37, 0, .null), none, none, some (.bipush 10, 24, 0, 0, .int (10)), none, some (.iload_n 1, 25, 1, 0, .null), some (.imul, 26, 0, 0, .null), some (.aload_n 0, 27, 0, 0, .null), some (.getfield 9, 30, 3, 0, .null), none, none, some (.iload_n 2, 31, 2, 0, .null), some (.iaload, 32, 0, 0, .null)],
 [some (.iadd, 33, 0, 0, .null), some (.bipush 48, 35, 0, 0, .int (48)), none, some (.isub, 36, 0, 0, .null), some (.istore_n 1, 37, 1, 0, .null), some (.iinc 2 1, 40, 2, 0, .int (1)), none, none, some (.goto (-33), 43, 7, 0, .null), none, none, some (.iload_n 1, 44, 1, 0, .null), some (.ireturn, 45, 0, 0, .null)]],
  3, (some .int), 3, 39)
def kX3_sortOf : aM := ([[some (.iload_n 0, 1, 0, 0, .null), some (.bipush 97, 3, 0, 0, .int (97)), none, some (.if_icmp .lt 11, 6, 14, 0, .null), none, none, some (.iload_n 0, 7, 0, 0, .null), some (.bipush 122, 9, 0, 0, .int (122)), none, some (.if_icmp .gt 5, 12, 14, 0, .null), none, none, some (.iconst 1, 13, 0, 0, .int (1)), some (.ireturn, 14, 0, 0, .null), some (.iload_n 0, 15, 0, 0, .null), some (.bipush 48, 17, 0, 0, .int (48))],
 [none, some (.if_icmp .lt 11, 20, 28, 0, .null), none, none, some (.iload_n 0, 21, 0, 0, .null), some (.bipush 57, 23, 0, 0, .int (57)), none, some (.if_icmp .gt 5, 26, 28, 0, .null), none, none, some (.iconst 2, 27, 0, 0, .int (2)), some (.ireturn, 28, 0, 0, .null), some (.iload_n 0, 29, 0, 0, .null), some (.bipush 59, 31, 0, 0, .int (59)), none, some (.if_icmp .ne 5, 34, 36, 0, .null)],
 [none, none, some (.iconst 3, 35, 0, 0, .int (3)), some (.ireturn, 36, 0, 0, .null), some (.iload_n 0, 37, 0, 0, .null), some (.bipush 45, 39, 0, 0, .int (45)), none, some (.if_icmp .ne 7, 42, 46, 0, .null), none, none, some (.iconst 4, 43, 0, 0, .int (4)), some (.goto 4, 46, 47, 0, .null), none, none, some (.iconst 5, 47, 0, 0, .int (5)), some (.ireturn, 48, 0, 0, .null)]],
  1, (some .int), 3, 40)
def kX4_init : aM := ([[some (.aload_n 0, 1, 0, 0, .null), some (.invokespecial 3, 4, 900, 1, .null), none, none, some (.aload_n 0, 5, 0, 0, .null), some (.iconst 4, 6, 0, 0, .int (4)), some (.anewarray 9, 9, 0, 0, .null), none, none, some (.putfield 11, 12, 4, 0, .null), none, none, some (.aload_n 0, 13, 0, 0, .null), some (.bipush 10, 15, 0, 0, .int (10)), none, some (.newarray .int, 17, 0, 0, .null)],
 [none, some (.putfield 17, 20, 4, 1, .null), none, none, some (.aload_n 0, 21, 0, 0, .null), some (.iconst 0, 22, 0, 0, .int (0)), some (.putfield 21, 25, 4, 2, .int 0), none, none, some (.aload_n 0, 26, 0, 0, .null), some (.iconst 0, 27, 0, 0, .int (0)), some (.putfield 25, 30, 4, 3, .int 0), none, none, some (.iconst 0, 31, 0, 0, .int (0)), some (.istore_n 1, 32, 1, 0, .null)],
 [some (.iload_n 1, 33, 1, 0, .null), some (.iconst 4, 34, 0, 0, .int (4)), some (.if_icmp .ge 22, 37, 56, 0, .null), none, none, some (.aload_n 0, 38, 0, 0, .null), some (.getfield 11, 41, 4, 0, .null), none, none, some (.iload_n 1, 42, 1, 0, .null), some (.new 9, 45, 1, 0, .null), none, none, some (.dup, 46, 0, 0, .null), some (.invokespecial 28, 49, 12, 1, .null), none],
 [none, some (.aastore, 50, 0, 0, .null), some (.iinc 1 1, 53, 1, 0, .int (1)), none, none, some (.goto (-21), 56, 32, 0, .null), none, none, some (.aload_n 0, 57, 0, 0, .null), some (.getfield 17, 60, 4, 1, .null), none, none, some (.sipush (-1000), 63, 0, 0, .int (-1000)), none, none, some (.invokestatic 29, 66, 240, 2, .null)],
 [none, none, some (.return_, 67, 0, 0, .null)]],
  2, none, 4, 41)
def kX4_become : aM := ([[some (.iconst 0, 1, 0, 0, .int (0)), some (.istore_n 2, 2, 2, 0, .null), some (.iload_n 2, 3, 2, 0, .null), some (.iconst 4, 4, 0, 0, .int (4)), some (.if_icmp .ge 24, 7, 28, 0, .null), none, none, some (.aload_n 0, 8, 0, 0, .null), some (.getfield 11, 11, 4, 0, .null), none, none, some (.iload_n 2, 12, 2, 0, .null), some (.aaload, 13, 0, 0, .null), some (.aload_n 1, 14, 1, 0, .null), some (.getfield 11, 17, 4, 0, .null), none],
 [none, some (.iload_n 2, 18, 2, 0, .null), some (.aaload, 19, 0, 0, .null), some (.invokevirtual 35, 22, 18, 2, .retAddr 1), none, none, some (.iinc 2 1, 25, 2, 0, .int (1)), none, none, some (.goto (-23), 28, 2, 0, .null), none, none, some (.aload_n 1, 29, 1, 0, .null), some (.getfield 17, 32, 4, 1, .null), none, none],
 [some (.iconst 0, 33, 0, 0, .int (0)), some (.aload_n 0, 34, 0, 0, .null), some (.getfield 17, 37, 4, 1, .null), none, none, some (.iconst 0, 38, 0, 0, .int (0)), some (.bipush 10, 40, 0, 0, .int (10)), none, some (.invokestatic 39, 43, 901, 5, .null), none, none, some (.aload_n 0, 44, 0, 0, .null), some (.aload_n 1, 45, 1, 0, .null), some (.getfield 21, 48, 4, 2, .int 0), none, none],
 [some (.putfield 21, 51, 4, 2, .int 0), none, none, some (.aload_n 0, 52, 0, 0, .null), some (.aload_n 1, 53, 1, 0, .null), some (.getfield 25, 56, 4, 3, .int 0), none, none, some (.putfield 25, 59, 4, 3, .int 0), none, none, some (.return_, 60, 0, 0, .null)]],
  3, none, 4, 42)
def kX4_garments : aM := ([[some (.iconst 0, 1, 0, 0, .int (0)), some (.istore_n 1, 2, 1, 0, .null), some (.iconst 0, 3, 0, 0, .int (0)), some (.istore_n 2, 4, 2, 0, .null), some (.iload_n 2, 5, 2, 0, .null), some (.iconst 4, 6, 0, 0, .int (4)), some (.if_icmp .ge 21, 9, 27, 0, .null), none, none, some (.iload_n 1, 10, 1, 0, .null), some (.aload_n 0, 11, 0, 0, .null), some (.getfield 11, 14, 4, 0, .null), none, none, some (.iload_n 2, 15, 2, 0, .null), some (.aaload, 16, 0, 0, .null)],
 [some (.getfield 45, 19, 1, 3, .int 0), none, none, some (.iadd, 20, 0, 0, .null), some (.istore_n 1, 21, 1, 0, .null), some (.iinc 2 1, 24, 2, 0, .int (1)), none, none, some (.goto (-20), 27, 4, 0, .null), none, none, some (.iload_n 1, 28, 1, 0, .null), some (.ireturn, 29, 0, 0, .null)]],
  3, (some .int), 4, 43)
def kX4_letDaysGo : aM := ([[some (.iconst 0, 1, 0, 0, .int (0)), some (.istore_n 2, 2, 2, 0, .null), some (.iconst 0, 3, 0, 0, .int (0)), some (.istore_n 3, 4, 3, 0, .null), some (.iload_n 3, 5, 3, 0, .null), some (.iconst 4, 6, 0, 0, .int (4)), some (.if_icmp .ge 22, 9, 28, 0, .null), none, none, some (.iload_n 2, 10, 2, 0, .null), some (.aload_n 0, 11, 0, 0, .null), some (.getfield 11, 14, 4, 0, .null), none, none, some (.iload_n 3, 15, 3, 0, .null), some (.aaload, 16, 0, 0, .null)],
 [some (.iload_n 1, 17, 1, 0, .null), some (.invokevirtual 48, 20, 21, 2, .retAddr 1), none, none, some (.iadd, 21, 0, 0, .null), some (.istore_n 2, 22, 2, 0, .null), some (.iinc 3 1, 25, 3, 0, .int (1)), none, none, some (.goto (-21), 28, 4, 0, .null), none, none, some (.aload_n 0, 29, 0, 0, .null), some (.dup, 30, 0, 0, .null), some (.getfield 25, 33, 4, 3, .int 0), none],
 [none, some (.iload_n 1, 34, 1, 0, .null), some (.iadd, 35, 0, 0, .null), some (.putfield 25, 38, 4, 3, .int 0), none, none, some (.iload_n 2, 39, 2, 0, .null), some (.ireturn, 40, 0, 0, .null)]],
  4, (some .int), 4, 44)
def kX4_hasNumber : aM := ([[some (.aload_n 0, 1, 0, 0, .null), some (.getfield 17, 4, 4, 1, .null), none, none, some (.iload_n 1, 5, 1, 0, .null), some (.iaload, 6, 0, 0, .null), some (.sipush (-1000), 9, 0, 0, .int (-1000)), none, none, some (.if_icmp .eq 7, 12, 16, 0, .null), none, none, some (.iconst 1, 13, 0, 0, .int (1)), some (.goto 4, 16, 17, 0, .null), none, none],
 [some (.iconst 0, 17, 0, 0, .int (0)), some (.ireturn, 18, 0, 0, .null)]],
  2, (some .boolean), 4, 45)
def kX4_meaningsTold : aM := ([[some (.iconst 0, 1, 0, 0, .int (0)), some (.istore_n 1, 2, 1, 0, .null), some (.iconst 0, 3, 0, 0, .int (0)), some (.istore_n 2, 4, 2, 0, .null), some (.iload_n 2, 5, 2, 0, .null), some (.bipush 10, 7, 0, 0, .int (10)), none, some (.if_icmp .ge 20, 10, 27, 0, .null), none, none, some (.aload_n 0, 11, 0, 0, .null), some (.iload_n 2, 12, 2, 0, .null), some (.invokevirtual 52, 15, 45, 2, .retAddr 4), none, none, some (.ifCond .eq 6, 18, 21, 0, .null)],
 [none, none, some (.iinc 1 1, 21, 1, 0, .int (1)), none, none, some (.iinc 2 1, 24, 2, 0, .int (1)), none, none, some (.goto (-20), 27, 4, 0, .null), none, none, some (.iload_n 1, 28, 1, 0, .null), some (.ireturn, 29, 0, 0, .null)]],
  3, (some .int), 4, 46)
def kX4_readAs : aM := ([[some (.iconst (-1), 1, 0, 0, .int (-1)), some (.istore_n 2, 2, 2, 0, .null), some (.iconst 0, 3, 0, 0, .int (0)), some (.istore_n 3, 4, 3, 0, .null), some (.iconst 0, 5, 0, 0, .int (0)), some (.istore 4, 7, 4, 0, .null), none, some (.iload 4, 9, 4, 0, .null), none, some (.bipush 10, 11, 0, 0, .int (10)), none, some (.if_icmp .ge 49, 14, 60, 0, .null), none, none, some (.aload_n 0, 15, 0, 0, .null), some (.iload 4, 17, 4, 0, .null)],
 [none, some (.invokevirtual 52, 20, 45, 2, .retAddr 4), none, none, some (.ifCond .eq 34, 23, 54, 0, .null), none, none, some (.aload_n 0, 24, 0, 0, .null), some (.getfield 17, 27, 4, 1, .null), none, none, some (.iload 4, 29, 4, 0, .null), none, some (.iaload, 30, 0, 0, .null), some (.iload_n 1, 31, 1, 0, .null), some (.isub, 32, 0, 0, .null)],
 [some (.invokestatic 56, 35, 902, 1, .null), none, none, some (.istore 5, 37, 5, 0, .null), none, some (.iload_n 2, 38, 2, 0, .null), some (.iconst (-1), 39, 0, 0, .int (-1)), some (.if_icmp .eq 9, 42, 48, 0, .null), none, none, some (.iload 5, 44, 5, 0, .null), none, some (.iload_n 3, 45, 3, 0, .null), some (.if_icmp .ge 9, 48, 54, 0, .null), none, none],
 [some (.iload 4, 50, 4, 0, .null), none, some (.istore_n 2, 51, 2, 0, .null), some (.iload 5, 53, 5, 0, .null), none, some (.istore_n 3, 54, 3, 0, .null), some (.iinc 4 1, 57, 4, 0, .int (1)), none, none, some (.goto (-50), 60, 7, 0, .null), none, none, some (.iload_n 2, 61, 2, 0, .null), some (.ireturn, 62, 0, 0, .null)]],
  6, (some .int), 4, 47)
def kX4_leastDifference : aM := ([[some (.sipush 10998, 3, 0, 0, .int (10998)), none, none, some (.istore_n 1, 4, 1, 0, .null), some (.iconst 0, 5, 0, 0, .int (0)), some (.istore_n 2, 6, 2, 0, .null), some (.iload_n 2, 7, 2, 0, .null), some (.bipush 10, 9, 0, 0, .int (10)), none, some (.if_icmp .ge 62, 12, 71, 0, .null), none, none, some (.iload_n 2, 13, 2, 0, .null), some (.iconst 1, 14, 0, 0, .int (1)), some (.iadd, 15, 0, 0, .null), some (.istore_n 3, 16, 3, 0, .null)],
 [some (.iload_n 3, 17, 3, 0, .null), some (.bipush 10, 19, 0, 0, .int (10)), none, some (.if_icmp .ge 46, 22, 65, 0, .null), none, none, some (.aload_n 0, 23, 0, 0, .null), some (.iload_n 2, 24, 2, 0, .null), some (.invokevirtual 52, 27, 45, 2, .retAddr 4), none, none, some (.ifCond .eq 32, 30, 59, 0, .null), none, none, some (.aload_n 0, 31, 0, 0, .null), some (.iload_n 3, 32, 3, 0, .null)],
 [some (.invokevirtual 52, 35, 45, 2, .retAddr 4), none, none, some (.ifCond .eq 24, 38, 59, 0, .null), none, none, some (.iload_n 1, 39, 1, 0, .null), some (.aload_n 0, 40, 0, 0, .null), some (.getfield 17, 43, 4, 1, .null), none, none, some (.iload_n 2, 44, 2, 0, .null), some (.iaload, 45, 0, 0, .null), some (.aload_n 0, 46, 0, 0, .null), some (.getfield 17, 49, 4, 1, .null), none],
 [none, some (.iload_n 3, 50, 3, 0, .null), some (.iaload, 51, 0, 0, .null), some (.isub, 52, 0, 0, .null), some (.invokestatic 56, 55, 902, 1, .null), none, none, some (.invokestatic 61, 58, 904, 2, .null), none, none, some (.istore_n 1, 59, 1, 0, .null), some (.iinc 3 1, 62, 3, 0, .int (1)), none, none, some (.goto (-46), 65, 16, 0, .null), none],
 [none, some (.iinc 2 1, 68, 2, 0, .int (1)), none, none, some (.goto (-62), 71, 6, 0, .null), none, none, some (.iload_n 1, 72, 1, 0, .null), some (.ireturn, 73, 0, 0, .null)]],
  4, (some .int), 4, 48)
def kX5_init : aM := ([[some (.aload_n 0, 1, 0, 0, .null), some (.invokespecial 1, 4, 900, 1, .null), none, none, some (.aload_n 0, 5, 0, 0, .null), some (.iconst 0, 6, 0, 0, .int (0)), some (.putfield 7, 9, 5, 0, .int 0), none, none, some (.aload_n 0, 10, 0, 0, .null), some (.iconst 0, 11, 0, 0, .int (0)), some (.putfield 13, 14, 5, 1, .int 0), none, none, some (.aload_n 0, 15, 0, 0, .null), some (.iconst 0, 16, 0, 0, .int (0))],
 [some (.putfield 16, 19, 5, 2, .int 0), none, none, some (.return_, 20, 0, 0, .null)]],
  1, none, 5, 49)
def kX5_begin : aM := ([[some (.aload_n 0, 1, 0, 0, .null), some (.iconst 0, 2, 0, 0, .int (0)), some (.putfield 7, 5, 5, 0, .int 0), none, none, some (.aload_n 0, 6, 0, 0, .null), some (.iconst 0, 7, 0, 0, .int (0)), some (.putfield 13, 10, 5, 1, .int 0), none, none, some (.aload_n 0, 11, 0, 0, .null), some (.iload_n 1, 12, 1, 0, .null), some (.putfield 16, 15, 5, 2, .int 0), none, none, some (.return_, 16, 0, 0, .null)]],
  2, none, 5, 50)
def kX5_hear : aM := ([[some (.iload_n 2, 1, 2, 0, .null), some (.istore 5, 3, 5, 0, .null), none, some (.iload 5, 5, 5, 0, .null), none, some (.iload_n 3, 6, 3, 0, .null), some (.if_icmp .ge 44, 9, 50, 0, .null), none, none, some (.iload 4, 11, 4, 0, .null), none, some (.iload 5, 13, 5, 0, .null), none, some (.ishr, 14, 0, 0, .null), some (.iconst 1, 15, 0, 0, .int (1)), some (.iand, 16, 0, 0, .null)],
 [some (.ifCond .ne 28, 19, 44, 0, .null), none, none, some (.aload_n 0, 20, 0, 0, .null), some (.aload_n 1, 21, 1, 0, .null), some (.getfield 19, 24, 1, 0, .null), none, none, some (.iload 5, 26, 5, 0, .null), none, some (.iaload, 27, 0, 0, .null), some (.aload_n 1, 28, 1, 0, .null), some (.getfield 25, 31, 1, 1, .null), none, none, some (.iload 5, 33, 5, 0, .null)],
 [none, some (.iaload, 34, 0, 0, .null), some (.aload_n 1, 35, 1, 0, .null), some (.getfield 28, 38, 1, 2, .null), none, none, some (.iload 5, 40, 5, 0, .null), none, some (.iaload, 41, 0, 0, .null), some (.invokevirtual 31, 44, 52, 4, .retAddr 5), none, none, some (.iinc 5 1, 47, 5, 0, .int (1)), none, none, some (.goto (-44), 50, 3, 0, .null)],
 [none, none, some (.return_, 51, 0, 0, .null)]],
  6, none, 5, 51)
def kX5_hearGarment : aM := ([[some (.iload_n 1, 1, 1, 0, .null), some (.iload_n 2, 2, 2, 0, .null), some (.iload_n 3, 3, 3, 0, .null), some (.aload_n 0, 4, 0, 0, .null), some (.getfield 16, 7, 5, 2, .int 0), none, none, some (.invokestatic 35, 10, 116, 4, .null), none, none, some (.ifCond .eq 32, 13, 42, 0, .null), none, none, some (.aload_n 0, 14, 0, 0, .null), some (.aload_n 0, 15, 0, 0, .null), some (.getfield 7, 18, 5, 0, .int 0)],
 [none, none, some (.aload_n 0, 19, 0, 0, .null), some (.getfield 13, 22, 5, 1, .int 0), none, none, some (.iload_n 1, 23, 1, 0, .null), some (.iload_n 2, 24, 2, 0, .null), some (.invokestatic 41, 27, 117, 4, .null), none, none, some (.putfield 7, 30, 5, 0, .int 0), none, none, some (.aload_n 0, 31, 0, 0, .null), some (.aload_n 0, 32, 0, 0, .null)],
 [some (.getfield 13, 35, 5, 1, .int 0), none, none, some (.iload_n 1, 36, 1, 0, .null), some (.invokestatic 45, 39, 118, 2, .null), none, none, some (.putfield 13, 42, 5, 1, .int 0), none, none, some (.return_, 43, 0, 0, .null)]],
  4, none, 5, 52)
def kX6_init : aM := ([[some (.aload_n 0, 1, 0, 0, .null), some (.invokespecial 1, 4, 900, 1, .null), none, none, some (.aload_n 0, 5, 0, 0, .null), some (.new 7, 8, 4, 0, .null), none, none, some (.dup, 9, 0, 0, .null), some (.invokespecial 9, 12, 41, 1, .null), none, none, some (.putfield 10, 15, 6, 0, .null), none, none, some (.aload_n 0, 16, 0, 0, .null)],
 [some (.new 7, 19, 4, 0, .null), none, none, some (.dup, 20, 0, 0, .null), some (.invokespecial 9, 23, 41, 1, .null), none, none, some (.putfield 16, 26, 6, 1, .null), none, none, some (.aload_n 0, 27, 0, 0, .null), some (.new 7, 30, 4, 0, .null), none, none, some (.dup, 31, 0, 0, .null), some (.invokespecial 9, 34, 41, 1, .null)],
 [none, none, some (.putfield 19, 37, 6, 2, .null), none, none, some (.aload_n 0, 38, 0, 0, .null), some (.new 22, 41, 5, 0, .null), none, none, some (.dup, 42, 0, 0, .null), some (.invokespecial 24, 45, 49, 1, .null), none, none, some (.putfield 25, 48, 6, 3, .null), none, none],
 [some (.aload_n 0, 49, 0, 0, .null), some (.new 29, 52, 0, 0, .null), none, none, some (.dup, 53, 0, 0, .null), some (.aload_n 0, 54, 0, 0, .null), some (.getfield 10, 57, 6, 0, .null), none, none, some (.invokespecial 31, 60, 0, 2, .null), none, none, some (.putfield 34, 63, 6, 4, .null), none, none, some (.aload_n 0, 64, 0, 0, .null)],
 [some (.new 38, 67, 3, 0, .null), none, none, some (.dup, 68, 0, 0, .null), some (.invokespecial 40, 71, 26, 1, .null), none, none, some (.putfield 41, 74, 6, 5, .null), none, none, some (.aload_n 0, 75, 0, 0, .null), some (.iconst 4, 76, 0, 0, .int (4)), some (.anewarray 45, 79, 1, 0, .null), none, none, some (.putfield 47, 82, 6, 6, .null)],
 [none, none, some (.aload_n 0, 83, 0, 0, .null), some (.bipush 7, 85, 0, 0, .int (7)), none, some (.newarray .int, 87, 0, 0, .null), none, some (.putfield 51, 90, 6, 7, .null), none, none, some (.aload_n 0, 91, 0, 0, .null), some (.iconst 0, 92, 0, 0, .int (0)), some (.putfield 55, 95, 6, 8, .int 1), none, none, some (.iconst 0, 96, 0, 0, .int (0))],
 [some (.istore_n 1, 97, 1, 0, .null), some (.iload_n 1, 98, 1, 0, .null), some (.iconst 4, 99, 0, 0, .int (4)), some (.if_icmp .ge 22, 102, 121, 0, .null), none, none, some (.aload_n 0, 103, 0, 0, .null), some (.getfield 47, 106, 6, 6, .null), none, none, some (.iload_n 1, 107, 1, 0, .null), some (.new 45, 110, 2, 0, .null), none, none, some (.dup, 111, 0, 0, .null), some (.invokespecial 59, 114, 22, 1, .null)],
 [none, none, some (.aastore, 115, 0, 0, .null), some (.iinc 1 1, 118, 1, 0, .int (1)), none, none, some (.goto (-21), 121, 97, 0, .null), none, none, some (.return_, 122, 0, 0, .null)]],
  2, none, 6, 53)
def kX6_hang : aM := ([[some (.iload_n 1, 1, 1, 0, .null), some (.invokestatic 60, 4, 106, 1, .null), none, none, some (.ifCond .eq 17, 7, 21, 0, .null), none, none, some (.iload_n 2, 8, 2, 0, .null), some (.invokestatic 64, 11, 107, 1, .null), none, none, some (.ifCond .eq 10, 14, 21, 0, .null), none, none, some (.iload_n 3, 15, 3, 0, .null), some (.invokestatic 67, 18, 108, 1, .null)],
 [none, none, some (.ifCond .ne 10, 21, 28, 0, .null), none, none, some (.aload_n 0, 22, 0, 0, .null), some (.ldc 70, 24, 0, 0, .int (-1000000001)), none, some (.invokevirtual 71, 27, 101, 2, .retAddr 6), none, none, some (.ireturn, 28, 0, 0, .null), some (.aload_n 0, 29, 0, 0, .null), some (.getfield 10, 32, 6, 0, .null), none, none],
 [some (.getfield 75, 35, 4, 0, .null), none, none, some (.iload_n 1, 36, 1, 0, .null), some (.aaload, 37, 0, 0, .null), some (.astore 4, 39, 4, 0, .null), none, some (.aload 4, 41, 4, 0, .null), none, some (.getfield 79, 44, 1, 3, .int 0), none, none, some (.bipush 7, 46, 0, 0, .int (7)), none, some (.if_icmp .lt 10, 49, 56, 0, .null), none],
 [none, some (.aload_n 0, 50, 0, 0, .null), some (.ldc 85, 52, 0, 0, .int (-1000000002)), none, some (.invokevirtual 71, 55, 101, 2, .retAddr 6), none, none, some (.ireturn, 56, 0, 0, .null), some (.aload 4, 58, 4, 0, .null), none, some (.iload_n 2, 59, 2, 0, .null), some (.iload_n 3, 60, 3, 0, .null), some (.iconst 0, 61, 0, 0, .int (0)), some (.invokevirtual 86, 64, 14, 4, .retAddr 1), none, none],
 [some (.aload 4, 66, 4, 0, .null), none, some (.getfield 79, 69, 1, 3, .int 0), none, none, some (.iconst 1, 70, 0, 0, .int (1)), some (.isub, 71, 0, 0, .null), some (.ireturn, 72, 0, 0, .null)]],
  5, (some .int), 6, 54)
def kX6_off : aM := ([[some (.aload_n 0, 1, 0, 0, .null), some (.iload_n 1, 2, 1, 0, .null), some (.iload_n 2, 3, 2, 0, .null), some (.invokevirtual 90, 6, 102, 3, .retAddr 6), none, none, some (.ifCond .ne 10, 9, 16, 0, .null), none, none, some (.aload_n 0, 10, 0, 0, .null), some (.ldc 70, 12, 0, 0, .int (-1000000001)), none, some (.invokevirtual 71, 15, 101, 2, .retAddr 6), none, none, some (.ireturn, 16, 0, 0, .null)],
 [some (.aload_n 0, 17, 0, 0, .null), some (.getfield 10, 20, 6, 0, .null), none, none, some (.getfield 75, 23, 4, 0, .null), none, none, some (.iload_n 1, 24, 1, 0, .null), some (.aaload, 25, 0, 0, .null), some (.astore_n 3, 26, 3, 0, .null), some (.aload_n 3, 27, 3, 0, .null), some (.getfield 94, 30, 1, 1, .null), none, none, some (.iload_n 2, 31, 2, 0, .null), some (.iaload, 32, 0, 0, .null)],
 [some (.istore 4, 34, 4, 0, .null), none, some (.aload_n 3, 35, 3, 0, .null), some (.iload_n 2, 36, 2, 0, .null), some (.invokevirtual 97, 39, 16, 2, .retAddr 1), none, none, some (.iload 4, 41, 4, 0, .null), none, some (.ireturn, 42, 0, 0, .null)]],
  5, (some .int), 6, 55)
def kX6_of : aM := ([[some (.aload_n 0, 1, 0, 0, .null), some (.iload_n 1, 2, 1, 0, .null), some (.iload_n 2, 3, 2, 0, .null), some (.invokevirtual 90, 6, 102, 3, .retAddr 6), none, none, some (.ifCond .ne 10, 9, 16, 0, .null), none, none, some (.aload_n 0, 10, 0, 0, .null), some (.ldc 70, 12, 0, 0, .int (-1000000001)), none, some (.invokevirtual 71, 15, 101, 2, .retAddr 6), none, none, some (.ireturn, 16, 0, 0, .null)],
 [some (.aload_n 0, 17, 0, 0, .null), some (.getfield 10, 20, 6, 0, .null), none, none, some (.getfield 75, 23, 4, 0, .null), none, none, some (.iload_n 1, 24, 1, 0, .null), some (.aaload, 25, 0, 0, .null), some (.astore 4, 27, 4, 0, .null), none, some (.iload_n 3, 28, 3, 0, .null), some (.tableswitch 90 0 4 #[36, 44, 52, 60, 82], 64, 0, 0, .null), none, none, none],
 [none, none, none, none, none, none, none, none, none, none, none, none, none, none, none, none],
 [none, none, none, none, none, none, none, none, none, none, none, none, none, none, none, none],
 [some (.aload 4, 66, 4, 0, .null), none, some (.getfield 101, 69, 1, 0, .null), none, none, some (.iload_n 2, 70, 2, 0, .null), some (.iaload, 71, 0, 0, .null), some (.ireturn, 72, 0, 0, .null), some (.aload 4, 74, 4, 0, .null), none, some (.getfield 94, 77, 1, 1, .null), none, none, some (.iload_n 2, 78, 2, 0, .null), some (.iaload, 79, 0, 0, .null), some (.ireturn, 80, 0, 0, .null)],
 [some (.aload 4, 82, 4, 0, .null), none, some (.getfield 104, 85, 1, 2, .null), none, none, some (.iload_n 2, 86, 2, 0, .null), some (.iaload, 87, 0, 0, .null), some (.ireturn, 88, 0, 0, .null), some (.aload 4, 90, 4, 0, .null), none, some (.iload_n 2, 91, 2, 0, .null), some (.aload_n 0, 92, 0, 0, .null), some (.getfield 10, 95, 6, 0, .null), none, none, some (.getfield 107, 98, 4, 2, .int 0)],
 [none, none, some (.invokevirtual 110, 101, 19, 3, .retAddr 1), none, none, some (.ifCond .eq 7, 104, 108, 0, .null), none, none, some (.iconst 1, 105, 0, 0, .int (1)), some (.goto 4, 108, 109, 0, .null), none, none, some (.iconst 0, 109, 0, 0, .int (0)), some (.ireturn, 110, 0, 0, .null), some (.aload_n 0, 111, 0, 0, .null), some (.aload 4, 113, 4, 0, .null)],
 [none, some (.iload_n 2, 114, 2, 0, .null), some (.invokevirtual 113, 117, 121, 3, .retAddr 6), none, none, some (.ireturn, 118, 0, 0, .null), some (.aload_n 0, 119, 0, 0, .null), some (.ldc 70, 121, 0, 0, .int (-1000000001)), none, some (.invokevirtual 71, 124, 101, 2, .retAddr 6), none, none, some (.ireturn, 125, 0, 0, .null)]],
  5, (some .int), 6, 56)
def kX6_set : aM := ([[some (.aload_n 0, 1, 0, 0, .null), some (.iload_n 1, 2, 1, 0, .null), some (.iload_n 2, 3, 2, 0, .null), some (.invokevirtual 90, 6, 102, 3, .retAddr 6), none, none, some (.ifCond .ne 10, 9, 16, 0, .null), none, none, some (.aload_n 0, 10, 0, 0, .null), some (.ldc 70, 12, 0, 0, .int (-1000000001)), none, some (.invokevirtual 71, 15, 101, 2, .retAddr 6), none, none, some (.ireturn, 16, 0, 0, .null)],
 [some (.aload_n 0, 17, 0, 0, .null), some (.getfield 10, 20, 6, 0, .null), none, none, some (.getfield 75, 23, 4, 0, .null), none, none, some (.iload_n 1, 24, 1, 0, .null), some (.aaload, 25, 0, 0, .null), some (.astore 5, 27, 5, 0, .null), none, some (.iload_n 3, 28, 3, 0, .null), some (.iconst 1, 29, 0, 0, .int (1)), some (.if_icmp .ne 32, 32, 61, 0, .null), none, none],
 [some (.iload 4, 34, 4, 0, .null), none, some (.invokestatic 67, 37, 108, 1, .null), none, none, some (.ifCond .eq 24, 40, 61, 0, .null), none, none, some (.aload 5, 42, 5, 0, .null), none, some (.getfield 94, 45, 1, 1, .null), none, none, some (.iload_n 2, 46, 2, 0, .null), some (.iaload, 47, 0, 0, .null), some (.istore 6, 49, 6, 0, .null)],
 [none, some (.aload 5, 51, 5, 0, .null), none, some (.getfield 94, 54, 1, 1, .null), none, none, some (.iload_n 2, 55, 2, 0, .null), some (.iload 4, 57, 4, 0, .null), none, some (.iastore, 58, 0, 0, .null), some (.iload 6, 60, 6, 0, .null), none, some (.ireturn, 61, 0, 0, .null), some (.iload_n 3, 62, 3, 0, .null), some (.iconst 2, 63, 0, 0, .int (2)), some (.if_icmp .ne 35, 66, 98, 0, .null)],
 [none, none, some (.iload 4, 68, 4, 0, .null), none, some (.iconst 0, 69, 0, 0, .int (0)), some (.bipush 9, 71, 0, 0, .int (9)), none, some (.invokestatic 117, 74, 105, 3, .null), none, none, some (.ifCond .eq 24, 77, 98, 0, .null), none, none, some (.aload 5, 79, 5, 0, .null), none, some (.getfield 104, 82, 1, 2, .null)],
 [none, none, some (.iload_n 2, 83, 2, 0, .null), some (.iaload, 84, 0, 0, .null), some (.istore 6, 86, 6, 0, .null), none, some (.aload 5, 88, 5, 0, .null), none, some (.getfield 104, 91, 1, 2, .null), none, none, some (.iload_n 2, 92, 2, 0, .null), some (.iload 4, 94, 4, 0, .null), none, some (.iastore, 95, 0, 0, .null), some (.iload 6, 97, 6, 0, .null)],
 [none, some (.ireturn, 98, 0, 0, .null), some (.aload_n 0, 99, 0, 0, .null), some (.ldc 70, 101, 0, 0, .int (-1000000001)), none, some (.invokevirtual 71, 104, 101, 2, .retAddr 6), none, none, some (.ireturn, 105, 0, 0, .null)]],
  7, (some .int), 6, 57)
def kX6_turn : aM := ([[some (.aload_n 0, 1, 0, 0, .null), some (.iload_n 1, 2, 1, 0, .null), some (.iload_n 2, 3, 2, 0, .null), some (.invokevirtual 90, 6, 102, 3, .retAddr 6), none, none, some (.ifCond .eq 10, 9, 16, 0, .null), none, none, some (.iload_n 3, 10, 3, 0, .null), some (.invokestatic 64, 13, 107, 1, .null), none, none, some (.ifCond .ne 10, 16, 23, 0, .null), none, none],
 [some (.aload_n 0, 17, 0, 0, .null), some (.ldc 70, 19, 0, 0, .int (-1000000001)), none, some (.invokevirtual 71, 22, 101, 2, .retAddr 6), none, none, some (.ireturn, 23, 0, 0, .null), some (.aload_n 0, 24, 0, 0, .null), some (.getfield 10, 27, 6, 0, .null), none, none, some (.getfield 75, 30, 4, 0, .null), none, none, some (.iload_n 1, 31, 1, 0, .null), some (.aaload, 32, 0, 0, .null)],
 [some (.astore 4, 34, 4, 0, .null), none, some (.aload 4, 36, 4, 0, .null), none, some (.getfield 101, 39, 1, 0, .null), none, none, some (.iload_n 2, 40, 2, 0, .null), some (.iaload, 41, 0, 0, .null), some (.istore 5, 43, 5, 0, .null), none, some (.aload 4, 45, 4, 0, .null), none, some (.getfield 101, 48, 1, 0, .null), none, none],
 [some (.iload_n 2, 49, 2, 0, .null), some (.iload_n 3, 50, 3, 0, .null), some (.iastore, 51, 0, 0, .null), some (.iload 5, 53, 5, 0, .null), none, some (.ireturn, 54, 0, 0, .null)]],
  6, (some .int), 6, 58)
def kX6_as : aM := ([[some (.aload_n 0, 1, 0, 0, .null), some (.iload_n 1, 2, 1, 0, .null), some (.iload_n 2, 3, 2, 0, .null), some (.invokevirtual 90, 6, 102, 3, .retAddr 6), none, none, some (.ifCond .eq 10, 9, 16, 0, .null), none, none, some (.iload_n 3, 10, 3, 0, .null), some (.invokestatic 64, 13, 107, 1, .null), none, none, some (.ifCond .ne 10, 16, 23, 0, .null), none, none],
 [some (.aload_n 0, 17, 0, 0, .null), some (.ldc 70, 19, 0, 0, .int (-1000000001)), none, some (.invokevirtual 71, 22, 101, 2, .retAddr 6), none, none, some (.ireturn, 23, 0, 0, .null), some (.aload_n 0, 24, 0, 0, .null), some (.getfield 10, 27, 6, 0, .null), none, none, some (.getfield 75, 30, 4, 0, .null), none, none, some (.iload_n 1, 31, 1, 0, .null), some (.aaload, 32, 0, 0, .null)],
 [some (.astore 4, 34, 4, 0, .null), none, some (.aload 4, 36, 4, 0, .null), none, some (.getfield 101, 39, 1, 0, .null), none, none, some (.iload_n 2, 40, 2, 0, .null), some (.iaload, 41, 0, 0, .null), some (.iload_n 3, 42, 3, 0, .null), some (.invokestatic 121, 45, 115, 2, .null), none, none, some (.ifCond .ne 10, 48, 55, 0, .null), none, none],
 [some (.aload_n 0, 49, 0, 0, .null), some (.ldc 124, 51, 0, 0, .int (-1000000003)), none, some (.invokevirtual 71, 54, 101, 2, .retAddr 6), none, none, some (.ireturn, 55, 0, 0, .null), some (.aload 4, 57, 4, 0, .null), none, some (.getfield 94, 60, 1, 1, .null), none, none, some (.iload_n 2, 61, 2, 0, .null), some (.iaload, 62, 0, 0, .null), some (.ireturn, 63, 0, 0, .null)]],
  5, (some .int), 6, 59)
def kX6_swap : aM := ([[some (.aload_n 0, 1, 0, 0, .null), some (.iload_n 1, 2, 1, 0, .null), some (.iload_n 2, 3, 2, 0, .null), some (.invokevirtual 90, 6, 102, 3, .retAddr 6), none, none, some (.ifCond .eq 12, 9, 18, 0, .null), none, none, some (.aload_n 0, 10, 0, 0, .null), some (.iload_n 1, 11, 1, 0, .null), some (.iload_n 3, 12, 3, 0, .null), some (.invokevirtual 90, 15, 102, 3, .retAddr 6), none, none, some (.ifCond .ne 10, 18, 25, 0, .null)],
 [none, none, some (.aload_n 0, 19, 0, 0, .null), some (.ldc 70, 21, 0, 0, .int (-1000000001)), none, some (.invokevirtual 71, 24, 101, 2, .retAddr 6), none, none, some (.ireturn, 25, 0, 0, .null), some (.aload_n 0, 26, 0, 0, .null), some (.getfield 10, 29, 6, 0, .null), none, none, some (.getfield 75, 32, 4, 0, .null), none, none],
 [some (.iload_n 1, 33, 1, 0, .null), some (.aaload, 34, 0, 0, .null), some (.iload_n 2, 35, 2, 0, .null), some (.iload_n 3, 36, 3, 0, .null), some (.invokevirtual 125, 39, 17, 3, .retAddr 1), none, none, some (.iload_n 2, 40, 2, 0, .null), some (.iload_n 3, 41, 3, 0, .null), some (.isub, 42, 0, 0, .null), some (.invokestatic 129, 45, 902, 1, .null), none, none, some (.ireturn, 46, 0, 0, .null)]],
  4, (some .int), 6, 60)
def kX6_take : aM := ([[some (.iload_n 1, 1, 1, 0, .null), some (.invokestatic 60, 4, 106, 1, .null), none, none, some (.ifCond .ne 10, 7, 14, 0, .null), none, none, some (.aload_n 0, 8, 0, 0, .null), some (.ldc 70, 10, 0, 0, .int (-1000000001)), none, some (.invokevirtual 71, 13, 101, 2, .retAddr 6), none, none, some (.ireturn, 14, 0, 0, .null), some (.aload_n 0, 15, 0, 0, .null), some (.getfield 10, 18, 6, 0, .null)],
 [none, none, some (.getfield 75, 21, 4, 0, .null), none, none, some (.iload_n 1, 22, 1, 0, .null), some (.aaload, 23, 0, 0, .null), some (.astore_n 2, 24, 2, 0, .null), some (.aload_n 2, 25, 2, 0, .null), some (.getfield 79, 28, 1, 3, .int 0), none, none, some (.istore_n 3, 29, 3, 0, .null), some (.aload_n 2, 30, 2, 0, .null), some (.invokevirtual 134, 33, 13, 1, .retAddr 1), none],
 [none, some (.iload_n 3, 34, 3, 0, .null), some (.ireturn, 35, 0, 0, .null)]],
  4, (some .int), 6, 61)
def kX6_like : aM := ([[some (.iload_n 1, 1, 1, 0, .null), some (.invokestatic 60, 4, 106, 1, .null), none, none, some (.ifCond .eq 10, 7, 14, 0, .null), none, none, some (.iload_n 2, 8, 2, 0, .null), some (.invokestatic 60, 11, 106, 1, .null), none, none, some (.ifCond .ne 10, 14, 21, 0, .null), none, none, some (.aload_n 0, 15, 0, 0, .null), some (.ldc 70, 17, 0, 0, .int (-1000000001))],
 [none, some (.invokevirtual 71, 20, 101, 2, .retAddr 6), none, none, some (.ireturn, 21, 0, 0, .null), some (.aload_n 0, 22, 0, 0, .null), some (.getfield 10, 25, 6, 0, .null), none, none, some (.getfield 75, 28, 4, 0, .null), none, none, some (.iload_n 1, 29, 1, 0, .null), some (.aaload, 30, 0, 0, .null), some (.aload_n 0, 31, 0, 0, .null), some (.getfield 10, 34, 6, 0, .null)],
 [none, none, some (.getfield 75, 37, 4, 0, .null), none, none, some (.iload_n 2, 38, 2, 0, .null), some (.aaload, 39, 0, 0, .null), some (.invokevirtual 137, 42, 18, 2, .retAddr 1), none, none, some (.aload_n 0, 43, 0, 0, .null), some (.getfield 10, 46, 6, 0, .null), none, none, some (.getfield 75, 49, 4, 0, .null), none],
 [none, some (.iload_n 1, 50, 1, 0, .null), some (.aaload, 51, 0, 0, .null), some (.getfield 79, 54, 1, 3, .int 0), none, none, some (.ireturn, 55, 0, 0, .null)]],
  3, (some .int), 6, 62)
def kX6_wind : aM := ([[some (.iload_n 1, 1, 1, 0, .null), some (.invokestatic 141, 4, 109, 1, .null), none, none, some (.ifCond .ne 10, 7, 14, 0, .null), none, none, some (.aload_n 0, 8, 0, 0, .null), some (.ldc 70, 10, 0, 0, .int (-1000000001)), none, some (.invokevirtual 71, 13, 101, 2, .retAddr 6), none, none, some (.ireturn, 14, 0, 0, .null), some (.aload_n 0, 15, 0, 0, .null), some (.getfield 10, 18, 6, 0, .null)],
 [none, none, some (.getfield 107, 21, 4, 2, .int 0), none, none, some (.istore_n 2, 22, 2, 0, .null), some (.aload_n 0, 23, 0, 0, .null), some (.getfield 10, 26, 6, 0, .null), none, none, some (.iload_n 1, 27, 1, 0, .null), some (.putfield 107, 30, 4, 2, .int 0), none, none, some (.iload_n 2, 31, 2, 0, .null), some (.ireturn, 32, 0, 0, .null)]],
  3, (some .int), 6, 63)
def kX6_days : aM := ([[some (.iload_n 1, 1, 1, 0, .null), some (.iconst 1, 2, 0, 0, .int (1)), some (.bipush 99, 4, 0, 0, .int (99)), none, some (.invokestatic 117, 7, 105, 3, .null), none, none, some (.ifCond .ne 10, 10, 17, 0, .null), none, none, some (.aload_n 0, 11, 0, 0, .null), some (.ldc 70, 13, 0, 0, .int (-1000000001)), none, some (.invokevirtual 71, 16, 101, 2, .retAddr 6), none, none],
 [some (.ireturn, 17, 0, 0, .null), some (.aload_n 0, 18, 0, 0, .null), some (.getfield 10, 21, 6, 0, .null), none, none, some (.getfield 144, 24, 4, 3, .int 0), none, none, some (.iload_n 1, 25, 1, 0, .null), some (.iadd, 26, 0, 0, .null), some (.sipush 9999, 29, 0, 0, .int (9999)), none, none, some (.if_icmp .le 10, 32, 39, 0, .null), none, none],
 [some (.aload_n 0, 33, 0, 0, .null), some (.ldc 147, 35, 0, 0, .int (-1000000005)), none, some (.invokevirtual 71, 38, 101, 2, .retAddr 6), none, none, some (.ireturn, 39, 0, 0, .null), some (.aload_n 0, 40, 0, 0, .null), some (.getfield 10, 43, 6, 0, .null), none, none, some (.iload_n 1, 44, 1, 0, .null), some (.invokevirtual 148, 47, 44, 2, .retAddr 4), none, none, some (.ireturn, 48, 0, 0, .null)]],
  2, (some .int), 6, 64)
def kX6_means : aM := ([[some (.iload_n 1, 1, 1, 0, .null), some (.invokestatic 151, 4, 110, 1, .null), none, none, some (.ifCond .eq 16, 7, 20, 0, .null), none, none, some (.iload_n 2, 8, 2, 0, .null), some (.sipush (-999), 11, 0, 0, .int (-999)), none, none, some (.sipush 9999, 14, 0, 0, .int (9999)), none, none, some (.invokestatic 117, 17, 105, 3, .null), none],
 [none, some (.ifCond .ne 10, 20, 27, 0, .null), none, none, some (.aload_n 0, 21, 0, 0, .null), some (.ldc 70, 23, 0, 0, .int (-1000000001)), none, some (.invokevirtual 71, 26, 101, 2, .retAddr 6), none, none, some (.ireturn, 27, 0, 0, .null), some (.aload_n 0, 28, 0, 0, .null), some (.getfield 10, 31, 6, 0, .null), none, none, some (.getfield 154, 34, 4, 1, .null)],
 [none, none, some (.iload_n 1, 35, 1, 0, .null), some (.iaload, 36, 0, 0, .null), some (.istore_n 3, 37, 3, 0, .null), some (.aload_n 0, 38, 0, 0, .null), some (.getfield 10, 41, 6, 0, .null), none, none, some (.getfield 154, 44, 4, 1, .null), none, none, some (.iload_n 1, 45, 1, 0, .null), some (.iload_n 2, 46, 2, 0, .null), some (.iastore, 47, 0, 0, .null), some (.iload_n 3, 48, 3, 0, .null)],
 [some (.ireturn, 49, 0, 0, .null)]],
  4, (some .int), 6, 65)
def kX6_forget : aM := ([[some (.iload_n 1, 1, 1, 0, .null), some (.invokestatic 151, 4, 110, 1, .null), none, none, some (.ifCond .ne 10, 7, 14, 0, .null), none, none, some (.aload_n 0, 8, 0, 0, .null), some (.ldc 70, 10, 0, 0, .int (-1000000001)), none, some (.invokevirtual 71, 13, 101, 2, .retAddr 6), none, none, some (.ireturn, 14, 0, 0, .null), some (.aload_n 0, 15, 0, 0, .null), some (.getfield 10, 18, 6, 0, .null)],
 [none, none, some (.iload_n 1, 19, 1, 0, .null), some (.invokevirtual 157, 22, 45, 2, .retAddr 4), none, none, some (.ifCond .eq 7, 25, 29, 0, .null), none, none, some (.iconst 1, 26, 0, 0, .int (1)), some (.goto 4, 29, 30, 0, .null), none, none, some (.iconst 0, 30, 0, 0, .int (0)), some (.istore_n 2, 31, 2, 0, .null), some (.aload_n 0, 32, 0, 0, .null)],
 [some (.getfield 10, 35, 6, 0, .null), none, none, some (.getfield 154, 38, 4, 1, .null), none, none, some (.iload_n 1, 39, 1, 0, .null), some (.sipush (-1000), 42, 0, 0, .int (-1000)), none, none, some (.iastore, 43, 0, 0, .null), some (.iload_n 2, 44, 2, 0, .null), some (.ireturn, 45, 0, 0, .null)]],
  3, (some .int), 6, 66)
def kX6_number : aM := ([[some (.iload_n 1, 1, 1, 0, .null), some (.invokestatic 151, 4, 110, 1, .null), none, none, some (.ifCond .ne 10, 7, 14, 0, .null), none, none, some (.aload_n 0, 8, 0, 0, .null), some (.ldc 70, 10, 0, 0, .int (-1000000001)), none, some (.invokevirtual 71, 13, 101, 2, .retAddr 6), none, none, some (.ireturn, 14, 0, 0, .null), some (.aload_n 0, 15, 0, 0, .null), some (.getfield 10, 18, 6, 0, .null)],
 [none, none, some (.iload_n 1, 19, 1, 0, .null), some (.invokevirtual 157, 22, 45, 2, .retAddr 4), none, none, some (.ifCond .ne 10, 25, 32, 0, .null), none, none, some (.aload_n 0, 26, 0, 0, .null), some (.ldc 160, 28, 0, 0, .int (-1000000004)), none, some (.invokevirtual 71, 31, 101, 2, .retAddr 6), none, none, some (.ireturn, 32, 0, 0, .null)],
 [some (.aload_n 0, 33, 0, 0, .null), some (.getfield 10, 36, 6, 0, .null), none, none, some (.getfield 154, 39, 4, 1, .null), none, none, some (.iload_n 1, 40, 1, 0, .null), some (.iaload, 41, 0, 0, .null), some (.ireturn, 42, 0, 0, .null)]],
  2, (some .int), 6, 67)
def kX6_read : aM := ([[some (.iload_n 1, 1, 1, 0, .null), some (.invokestatic 161, 4, 111, 1, .null), none, none, some (.ifCond .ne 10, 7, 14, 0, .null), none, none, some (.aload_n 0, 8, 0, 0, .null), some (.ldc 70, 10, 0, 0, .int (-1000000001)), none, some (.invokevirtual 71, 13, 101, 2, .retAddr 6), none, none, some (.ireturn, 14, 0, 0, .null), some (.aload_n 0, 15, 0, 0, .null), some (.getfield 10, 18, 6, 0, .null)],
 [none, none, some (.iload_n 1, 19, 1, 0, .null), some (.invokevirtual 164, 22, 47, 2, .retAddr 4), none, none, some (.istore_n 2, 23, 2, 0, .null), some (.iload_n 2, 24, 2, 0, .null), some (.iconst (-1), 25, 0, 0, .int (-1)), some (.if_icmp .ne 12, 28, 37, 0, .null), none, none, some (.aload_n 0, 29, 0, 0, .null), some (.ldc 160, 31, 0, 0, .int (-1000000004)), none, some (.invokevirtual 71, 34, 101, 2, .retAddr 6)],
 [none, none, some (.goto 4, 37, 38, 0, .null), none, none, some (.iload_n 2, 38, 2, 0, .null), some (.ireturn, 39, 0, 0, .null)]],
  3, (some .int), 6, 68)
def kX6_apart : aM := ([[some (.aload_n 0, 1, 0, 0, .null), some (.getfield 10, 4, 6, 0, .null), none, none, some (.invokevirtual 167, 7, 46, 1, .retAddr 4), none, none, some (.iconst 2, 8, 0, 0, .int (2)), some (.if_icmp .ge 10, 11, 18, 0, .null), none, none, some (.aload_n 0, 12, 0, 0, .null), some (.ldc 160, 14, 0, 0, .int (-1000000004)), none, some (.invokevirtual 71, 17, 101, 2, .retAddr 6), none],
 [none, some (.ireturn, 18, 0, 0, .null), some (.aload_n 0, 19, 0, 0, .null), some (.getfield 10, 22, 6, 0, .null), none, none, some (.invokevirtual 171, 25, 48, 1, .retAddr 4), none, none, some (.ireturn, 26, 0, 0, .null)]],
  1, (some .int), 6, 69)
def kX6_worth : aM := ([[some (.iload_n 1, 1, 1, 0, .null), some (.invokestatic 60, 4, 106, 1, .null), none, none, some (.ifCond .ne 10, 7, 14, 0, .null), none, none, some (.aload_n 0, 8, 0, 0, .null), some (.ldc 70, 10, 0, 0, .int (-1000000001)), none, some (.invokevirtual 71, 13, 101, 2, .retAddr 6), none, none, some (.ireturn, 14, 0, 0, .null), some (.aload_n 0, 15, 0, 0, .null), some (.aload_n 0, 16, 0, 0, .null)],
 [some (.getfield 10, 19, 6, 0, .null), none, none, some (.getfield 75, 22, 4, 0, .null), none, none, some (.iload_n 1, 23, 1, 0, .null), some (.aaload, 24, 0, 0, .null), some (.aload_n 0, 25, 0, 0, .null), some (.getfield 10, 28, 6, 0, .null), none, none, some (.getfield 107, 31, 4, 2, .int 0), none, none, some (.invokevirtual 174, 34, 120, 3, .retAddr 6)],
 [none, none, some (.ireturn, 35, 0, 0, .null)]],
  2, (some .int), 6, 70)
def kX6_worthIn : aM := ([[some (.iload_n 1, 1, 1, 0, .null), some (.invokestatic 60, 4, 106, 1, .null), none, none, some (.ifCond .eq 10, 7, 14, 0, .null), none, none, some (.iload_n 2, 8, 2, 0, .null), some (.invokestatic 141, 11, 109, 1, .null), none, none, some (.ifCond .ne 10, 14, 21, 0, .null), none, none, some (.aload_n 0, 15, 0, 0, .null), some (.ldc 70, 17, 0, 0, .int (-1000000001))],
 [none, some (.invokevirtual 71, 20, 101, 2, .retAddr 6), none, none, some (.ireturn, 21, 0, 0, .null), some (.aload_n 0, 22, 0, 0, .null), some (.aload_n 0, 23, 0, 0, .null), some (.getfield 10, 26, 6, 0, .null), none, none, some (.getfield 75, 29, 4, 0, .null), none, none, some (.iload_n 1, 30, 1, 0, .null), some (.aaload, 31, 0, 0, .null), some (.iload_n 2, 32, 2, 0, .null)],
 [some (.invokevirtual 174, 35, 120, 3, .retAddr 6), none, none, some (.ireturn, 36, 0, 0, .null)]],
  3, (some .int), 6, 71)
def kX6_says : aM := ([[some (.iload_n 1, 1, 1, 0, .null), some (.invokestatic 60, 4, 106, 1, .null), none, none, some (.ifCond .ne 10, 7, 14, 0, .null), none, none, some (.aload_n 0, 8, 0, 0, .null), some (.ldc 70, 10, 0, 0, .int (-1000000001)), none, some (.invokevirtual 71, 13, 101, 2, .retAddr 6), none, none, some (.ireturn, 14, 0, 0, .null), some (.aload_n 0, 15, 0, 0, .null), some (.aload_n 0, 16, 0, 0, .null)],
 [some (.getfield 10, 19, 6, 0, .null), none, none, some (.getfield 75, 22, 4, 0, .null), none, none, some (.iload_n 1, 23, 1, 0, .null), some (.aaload, 24, 0, 0, .null), some (.invokevirtual 177, 27, 123, 2, .retAddr 6), none, none, some (.istore_n 2, 28, 2, 0, .null), some (.iload_n 2, 29, 2, 0, .null), some (.iconst (-1), 30, 0, 0, .int (-1)), some (.if_icmp .ne 12, 33, 42, 0, .null), none],
 [none, some (.aload_n 0, 34, 0, 0, .null), some (.ldc 160, 36, 0, 0, .int (-1000000004)), none, some (.invokevirtual 71, 39, 101, 2, .retAddr 6), none, none, some (.goto 4, 42, 43, 0, .null), none, none, some (.iload_n 2, 43, 2, 0, .null), some (.ireturn, 44, 0, 0, .null)]],
  3, (some .int), 6, 72)
def kX6_winds : aM := ([[some (.iload_n 1, 1, 1, 0, .null), some (.invokestatic 60, 4, 106, 1, .null), none, none, some (.ifCond .ne 10, 7, 14, 0, .null), none, none, some (.aload_n 0, 8, 0, 0, .null), some (.ldc 70, 10, 0, 0, .int (-1000000001)), none, some (.invokevirtual 71, 13, 101, 2, .retAddr 6), none, none, some (.ireturn, 14, 0, 0, .null), some (.aload_n 0, 15, 0, 0, .null), some (.getfield 10, 18, 6, 0, .null)],
 [none, none, some (.getfield 75, 21, 4, 0, .null), none, none, some (.iload_n 1, 22, 1, 0, .null), some (.aaload, 23, 0, 0, .null), some (.astore_n 2, 24, 2, 0, .null), some (.aload_n 0, 25, 0, 0, .null), some (.aload_n 2, 26, 2, 0, .null), some (.invokevirtual 177, 29, 123, 2, .retAddr 6), none, none, some (.istore_n 3, 30, 3, 0, .null), some (.iload_n 3, 31, 3, 0, .null), some (.iconst (-1), 32, 0, 0, .int (-1))],
 [some (.if_icmp .ne 12, 35, 44, 0, .null), none, none, some (.aload_n 0, 36, 0, 0, .null), some (.ldc 160, 38, 0, 0, .int (-1000000004)), none, some (.invokevirtual 71, 41, 101, 2, .retAddr 6), none, none, some (.goto 9, 44, 50, 0, .null), none, none, some (.aload_n 0, 45, 0, 0, .null), some (.aload_n 2, 46, 2, 0, .null), some (.iload_n 3, 47, 3, 0, .null), some (.invokevirtual 181, 50, 126, 3, .retAddr 6)],
 [none, none, some (.ireturn, 51, 0, 0, .null)]],
  4, (some .int), 6, 73)
def kX6_lost : aM := ([[some (.iload_n 1, 1, 1, 0, .null), some (.invokestatic 60, 4, 106, 1, .null), none, none, some (.ifCond .ne 10, 7, 14, 0, .null), none, none, some (.aload_n 0, 8, 0, 0, .null), some (.ldc 70, 10, 0, 0, .int (-1000000001)), none, some (.invokevirtual 71, 13, 101, 2, .retAddr 6), none, none, some (.ireturn, 14, 0, 0, .null), some (.aload_n 0, 15, 0, 0, .null), some (.getfield 10, 18, 6, 0, .null)],
 [none, none, some (.getfield 75, 21, 4, 0, .null), none, none, some (.iload_n 1, 22, 1, 0, .null), some (.aaload, 23, 0, 0, .null), some (.astore_n 2, 24, 2, 0, .null), some (.aload_n 0, 25, 0, 0, .null), some (.aload_n 2, 26, 2, 0, .null), some (.invokevirtual 177, 29, 123, 2, .retAddr 6), none, none, some (.istore_n 3, 30, 3, 0, .null), some (.iload_n 3, 31, 3, 0, .null), some (.iconst (-1), 32, 0, 0, .int (-1))],
 [some (.if_icmp .ne 10, 35, 42, 0, .null), none, none, some (.aload_n 0, 36, 0, 0, .null), some (.ldc 160, 38, 0, 0, .int (-1000000004)), none, some (.invokevirtual 71, 41, 101, 2, .retAddr 6), none, none, some (.ireturn, 42, 0, 0, .null), some (.iconst 0, 43, 0, 0, .int (0)), some (.istore 4, 45, 4, 0, .null), none, some (.iconst 0, 46, 0, 0, .int (0)), some (.istore 5, 48, 5, 0, .null), none],
 [some (.iload 5, 50, 5, 0, .null), none, some (.aload_n 2, 51, 2, 0, .null), some (.getfield 79, 54, 1, 3, .int 0), none, none, some (.if_icmp .ge 31, 57, 85, 0, .null), none, none, some (.aload_n 0, 58, 0, 0, .null), some (.aload_n 2, 59, 2, 0, .null), some (.iconst 1, 60, 0, 0, .int (1)), some (.iload 5, 62, 5, 0, .null), none, some (.ishl, 63, 0, 0, .null), some (.invokevirtual 184, 66, 124, 3, .retAddr 6)],
 [none, none, some (.iload_n 3, 67, 3, 0, .null), some (.if_icmp .eq 12, 70, 79, 0, .null), none, none, some (.iload 4, 72, 4, 0, .null), none, some (.iconst 1, 73, 0, 0, .int (1)), some (.iload 5, 75, 5, 0, .null), none, some (.ishl, 76, 0, 0, .null), some (.ior, 77, 0, 0, .null), some (.istore 4, 79, 4, 0, .null), none, some (.iinc 5 1, 82, 5, 0, .int (1))],
 [none, none, some (.goto (-34), 85, 48, 0, .null), none, none, some (.iload 4, 87, 4, 0, .null), none, some (.ireturn, 88, 0, 0, .null)]],
  6, (some .int), 6, 74)
def kX6_fewest : aM := ([[some (.iload_n 1, 1, 1, 0, .null), some (.invokestatic 60, 4, 106, 1, .null), none, none, some (.ifCond .eq 10, 7, 14, 0, .null), none, none, some (.iload_n 2, 8, 2, 0, .null), some (.invokestatic 151, 11, 110, 1, .null), none, none, some (.ifCond .ne 10, 14, 21, 0, .null), none, none, some (.aload_n 0, 15, 0, 0, .null), some (.ldc 70, 17, 0, 0, .int (-1000000001))],
 [none, some (.invokevirtual 71, 20, 101, 2, .retAddr 6), none, none, some (.ireturn, 21, 0, 0, .null), some (.aload_n 0, 22, 0, 0, .null), some (.aload_n 0, 23, 0, 0, .null), some (.getfield 10, 26, 6, 0, .null), none, none, some (.getfield 75, 29, 4, 0, .null), none, none, some (.iload_n 1, 30, 1, 0, .null), some (.aaload, 31, 0, 0, .null), some (.iload_n 2, 32, 2, 0, .null)],
 [some (.invokevirtual 187, 35, 127, 3, .retAddr 6), none, none, some (.istore_n 3, 36, 3, 0, .null), some (.iload_n 3, 37, 3, 0, .null), some (.ifCond .ge 12, 40, 49, 0, .null), none, none, some (.aload_n 0, 41, 0, 0, .null), some (.ldc 160, 43, 0, 0, .int (-1000000004)), none, some (.invokevirtual 71, 46, 101, 2, .retAddr 6), none, none, some (.goto 7, 49, 53, 0, .null), none],
 [none, some (.iload_n 3, 50, 3, 0, .null), some (.invokestatic 190, 53, 231, 1, .null), none, none, some (.ireturn, 54, 0, 0, .null)]],
  4, (some .int), 6, 75)
def kX6_which : aM := ([[some (.iload_n 1, 1, 1, 0, .null), some (.invokestatic 60, 4, 106, 1, .null), none, none, some (.ifCond .eq 10, 7, 14, 0, .null), none, none, some (.iload_n 2, 8, 2, 0, .null), some (.invokestatic 151, 11, 110, 1, .null), none, none, some (.ifCond .ne 10, 14, 21, 0, .null), none, none, some (.aload_n 0, 15, 0, 0, .null), some (.ldc 70, 17, 0, 0, .int (-1000000001))],
 [none, some (.invokevirtual 71, 20, 101, 2, .retAddr 6), none, none, some (.ireturn, 21, 0, 0, .null), some (.aload_n 0, 22, 0, 0, .null), some (.aload_n 0, 23, 0, 0, .null), some (.getfield 10, 26, 6, 0, .null), none, none, some (.getfield 75, 29, 4, 0, .null), none, none, some (.iload_n 1, 30, 1, 0, .null), some (.aaload, 31, 0, 0, .null), some (.iload_n 2, 32, 2, 0, .null)],
 [some (.invokevirtual 187, 35, 127, 3, .retAddr 6), none, none, some (.istore_n 3, 36, 3, 0, .null), some (.iload_n 3, 37, 3, 0, .null), some (.ifCond .ge 12, 40, 49, 0, .null), none, none, some (.aload_n 0, 41, 0, 0, .null), some (.ldc 160, 43, 0, 0, .int (-1000000004)), none, some (.invokevirtual 71, 46, 101, 2, .retAddr 6), none, none, some (.goto 4, 49, 50, 0, .null), none],
 [none, some (.iload_n 3, 50, 3, 0, .null), some (.ireturn, 51, 0, 0, .null)]],
  4, (some .int), 6, 76)
def kX6_more : aM := ([[some (.iload_n 1, 1, 1, 0, .null), some (.invokestatic 60, 4, 106, 1, .null), none, none, some (.ifCond .eq 10, 7, 14, 0, .null), none, none, some (.iload_n 2, 8, 2, 0, .null), some (.invokestatic 151, 11, 110, 1, .null), none, none, some (.ifCond .ne 10, 14, 21, 0, .null), none, none, some (.aload_n 0, 15, 0, 0, .null), some (.ldc 70, 17, 0, 0, .int (-1000000001))],
 [none, some (.invokevirtual 71, 20, 101, 2, .retAddr 6), none, none, some (.ireturn, 21, 0, 0, .null), some (.aload_n 0, 22, 0, 0, .null), some (.getfield 10, 25, 6, 0, .null), none, none, some (.getfield 75, 28, 4, 0, .null), none, none, some (.iload_n 1, 29, 1, 0, .null), some (.aaload, 30, 0, 0, .null), some (.astore_n 3, 31, 3, 0, .null), some (.iconst 1, 32, 0, 0, .int (1))],
 [some (.istore 4, 34, 4, 0, .null), none, some (.iload 4, 36, 4, 0, .null), none, some (.bipush 60, 38, 0, 0, .int (60)), none, some (.if_icmp .ge 32, 41, 70, 0, .null), none, none, some (.iload 4, 43, 4, 0, .null), none, some (.i2l, 44, 0, 0, .null), some (.invokestatic 195, 47, 114, 1, .null), none, none, some (.ifCond .eq 17, 50, 64, 0, .null)],
 [none, none, some (.aload_n 0, 51, 0, 0, .null), some (.aload_n 3, 52, 3, 0, .null), some (.iload 4, 54, 4, 0, .null), none, some (.invokevirtual 199, 57, 125, 3, .retAddr 6), none, none, some (.iload_n 2, 58, 2, 0, .null), some (.if_icmp .ne 6, 61, 64, 0, .null), none, none, some (.iload 4, 63, 4, 0, .null), none, some (.ireturn, 64, 0, 0, .null)],
 [some (.iinc 4 1, 67, 4, 0, .int (1)), none, none, some (.goto (-33), 70, 34, 0, .null), none, none, some (.aload_n 0, 71, 0, 0, .null), some (.ldc 160, 73, 0, 0, .int (-1000000004)), none, some (.invokevirtual 71, 76, 101, 2, .retAddr 6), none, none, some (.ireturn, 77, 0, 0, .null)]],
  5, (some .int), 6, 77)
def kX6_orders : aM := ([[some (.iload_n 1, 1, 1, 0, .null), some (.invokestatic 60, 4, 106, 1, .null), none, none, some (.ifCond .eq 10, 7, 14, 0, .null), none, none, some (.iload_n 2, 8, 2, 0, .null), some (.invokestatic 151, 11, 110, 1, .null), none, none, some (.ifCond .ne 10, 14, 21, 0, .null), none, none, some (.aload_n 0, 15, 0, 0, .null), some (.ldc 70, 17, 0, 0, .int (-1000000001))],
 [none, some (.invokevirtual 71, 20, 101, 2, .retAddr 6), none, none, some (.ireturn, 21, 0, 0, .null), some (.aload_n 0, 22, 0, 0, .null), some (.getfield 10, 25, 6, 0, .null), none, none, some (.iload_n 2, 26, 2, 0, .null), some (.invokevirtual 157, 29, 45, 2, .retAddr 4), none, none, some (.ifCond .ne 10, 32, 39, 0, .null), none, none],
 [some (.aload_n 0, 33, 0, 0, .null), some (.ldc 160, 35, 0, 0, .int (-1000000004)), none, some (.invokevirtual 71, 38, 101, 2, .retAddr 6), none, none, some (.ireturn, 39, 0, 0, .null), some (.aload_n 0, 40, 0, 0, .null), some (.getfield 34, 43, 6, 4, .null), none, none, some (.aload_n 0, 44, 0, 0, .null), some (.getfield 10, 47, 6, 0, .null), none, none, some (.getfield 75, 50, 4, 0, .null)],
 [none, none, some (.iload_n 1, 51, 1, 0, .null), some (.aaload, 52, 0, 0, .null), some (.iload_n 2, 53, 2, 0, .null), some (.iconst 0, 54, 0, 0, .int (0)), some (.invokevirtual 202, 57, 1, 4, .retAddr 0), none, none, some (.aload_n 0, 58, 0, 0, .null), some (.getfield 34, 61, 6, 4, .null), none, none, some (.getfield 206, 64, 0, 12, .int 0), none, none],
 [some (.ireturn, 65, 0, 0, .null)]],
  3, (some .int), 6, 78)
def kX6_most : aM := ([[some (.iload_n 1, 1, 1, 0, .null), some (.invokestatic 60, 4, 106, 1, .null), none, none, some (.ifCond .ne 10, 7, 14, 0, .null), none, none, some (.aload_n 0, 8, 0, 0, .null), some (.ldc 70, 10, 0, 0, .int (-1000000001)), none, some (.invokevirtual 71, 13, 101, 2, .retAddr 6), none, none, some (.ireturn, 14, 0, 0, .null), some (.aload_n 0, 15, 0, 0, .null), some (.getfield 34, 18, 6, 4, .null)],
 [none, none, some (.aload_n 0, 19, 0, 0, .null), some (.getfield 10, 22, 6, 0, .null), none, none, some (.getfield 75, 25, 4, 0, .null), none, none, some (.iload_n 1, 26, 1, 0, .null), some (.aaload, 27, 0, 0, .null), some (.iconst (-1), 28, 0, 0, .int (-1)), some (.iconst 0, 29, 0, 0, .int (0)), some (.invokevirtual 202, 32, 1, 4, .retAddr 0), none, none],
 [some (.aload_n 0, 33, 0, 0, .null), some (.getfield 34, 36, 6, 4, .null), none, none, some (.getfield 209, 39, 0, 13, .int 0), none, none, some (.ireturn, 40, 0, 0, .null)]],
  2, (some .int), 6, 79)
def kX6_least : aM := ([[some (.iload_n 1, 1, 1, 0, .null), some (.invokestatic 60, 4, 106, 1, .null), none, none, some (.ifCond .ne 10, 7, 14, 0, .null), none, none, some (.aload_n 0, 8, 0, 0, .null), some (.ldc 70, 10, 0, 0, .int (-1000000001)), none, some (.invokevirtual 71, 13, 101, 2, .retAddr 6), none, none, some (.ireturn, 14, 0, 0, .null), some (.aload_n 0, 15, 0, 0, .null), some (.getfield 34, 18, 6, 4, .null)],
 [none, none, some (.aload_n 0, 19, 0, 0, .null), some (.getfield 10, 22, 6, 0, .null), none, none, some (.getfield 75, 25, 4, 0, .null), none, none, some (.iload_n 1, 26, 1, 0, .null), some (.aaload, 27, 0, 0, .null), some (.iconst (-1), 28, 0, 0, .int (-1)), some (.iconst 0, 29, 0, 0, .int (0)), some (.invokevirtual 202, 32, 1, 4, .retAddr 0), none, none],
 [some (.aload_n 0, 33, 0, 0, .null), some (.getfield 34, 36, 6, 4, .null), none, none, some (.getfield 212, 39, 0, 14, .int 0), none, none, some (.ireturn, 40, 0, 0, .null)]],
  2, (some .int), 6, 80)
def kX6_order : aM := ([[some (.iload_n 1, 1, 1, 0, .null), some (.invokestatic 60, 4, 106, 1, .null), none, none, some (.ifCond .eq 10, 7, 14, 0, .null), none, none, some (.iload_n 2, 8, 2, 0, .null), some (.invokestatic 161, 11, 111, 1, .null), none, none, some (.ifCond .ne 10, 14, 21, 0, .null), none, none, some (.aload_n 0, 15, 0, 0, .null), some (.ldc 70, 17, 0, 0, .int (-1000000001))],
 [none, some (.invokevirtual 71, 20, 101, 2, .retAddr 6), none, none, some (.ireturn, 21, 0, 0, .null), some (.aload_n 0, 22, 0, 0, .null), some (.getfield 10, 25, 6, 0, .null), none, none, some (.getfield 75, 28, 4, 0, .null), none, none, some (.iload_n 1, 29, 1, 0, .null), some (.aaload, 30, 0, 0, .null), some (.astore_n 3, 31, 3, 0, .null), some (.aload_n 0, 32, 0, 0, .null)],
 [some (.getfield 34, 35, 6, 4, .null), none, none, some (.aload_n 3, 36, 3, 0, .null), some (.iconst (-1), 37, 0, 0, .int (-1)), some (.iload_n 2, 38, 2, 0, .null), some (.invokevirtual 202, 41, 1, 4, .retAddr 0), none, none, some (.aload_n 0, 42, 0, 0, .null), some (.getfield 34, 45, 6, 4, .null), none, none, some (.aload_n 3, 46, 3, 0, .null), some (.invokevirtual 215, 49, 8, 2, .retAddr 0), none],
 [none, some (.aload_n 0, 50, 0, 0, .null), some (.getfield 34, 53, 6, 4, .null), none, none, some (.getfield 218, 56, 0, 15, .int 0), none, none, some (.ireturn, 57, 0, 0, .null)]],
  4, (some .int), 6, 81)
def kX6_worths : aM := ([[some (.iload_n 1, 1, 1, 0, .null), some (.invokestatic 60, 4, 106, 1, .null), none, none, some (.ifCond .ne 10, 7, 14, 0, .null), none, none, some (.aload_n 0, 8, 0, 0, .null), some (.ldc 70, 10, 0, 0, .int (-1000000001)), none, some (.invokevirtual 71, 13, 101, 2, .retAddr 6), none, none, some (.ireturn, 14, 0, 0, .null), some (.aload_n 0, 15, 0, 0, .null), some (.getfield 34, 18, 6, 4, .null)],
 [none, none, some (.aload_n 0, 19, 0, 0, .null), some (.getfield 10, 22, 6, 0, .null), none, none, some (.getfield 75, 25, 4, 0, .null), none, none, some (.iload_n 1, 26, 1, 0, .null), some (.aaload, 27, 0, 0, .null), some (.iconst (-1), 28, 0, 0, .int (-1)), some (.iconst 0, 29, 0, 0, .int (0)), some (.invokevirtual 202, 32, 1, 4, .retAddr 0), none, none],
 [some (.aload_n 0, 33, 0, 0, .null), some (.getfield 34, 36, 6, 4, .null), none, none, some (.invokevirtual 221, 39, 9, 1, .retAddr 0), none, none, some (.ireturn, 40, 0, 0, .null)]],
  2, (some .int), 6, 82)
def kX6_can : aM := ([[some (.iload_n 1, 1, 1, 0, .null), some (.invokestatic 60, 4, 106, 1, .null), none, none, some (.ifCond .ne 10, 7, 14, 0, .null), none, none, some (.aload_n 0, 8, 0, 0, .null), some (.ldc 70, 10, 0, 0, .int (-1000000001)), none, some (.invokevirtual 71, 13, 101, 2, .retAddr 6), none, none, some (.ireturn, 14, 0, 0, .null), some (.aload_n 0, 15, 0, 0, .null), some (.getfield 10, 18, 6, 0, .null)],
 [none, none, some (.invokevirtual 167, 21, 46, 1, .retAddr 4), none, none, some (.ifCond .ne 10, 24, 31, 0, .null), none, none, some (.aload_n 0, 25, 0, 0, .null), some (.ldc 160, 27, 0, 0, .int (-1000000004)), none, some (.invokevirtual 71, 30, 101, 2, .retAddr 6), none, none, some (.ireturn, 31, 0, 0, .null), some (.aload_n 0, 32, 0, 0, .null)],
 [some (.getfield 34, 35, 6, 4, .null), none, none, some (.aload_n 0, 36, 0, 0, .null), some (.getfield 10, 39, 6, 0, .null), none, none, some (.getfield 75, 42, 4, 0, .null), none, none, some (.iload_n 1, 43, 1, 0, .null), some (.aaload, 44, 0, 0, .null), some (.iconst (-1), 45, 0, 0, .int (-1)), some (.iconst 0, 46, 0, 0, .int (0)), some (.invokevirtual 202, 49, 1, 4, .retAddr 0), none],
 [none, some (.aload_n 0, 50, 0, 0, .null), some (.getfield 34, 53, 6, 4, .null), none, none, some (.invokevirtual 224, 56, 10, 1, .retAddr 0), none, none, some (.ireturn, 57, 0, 0, .null)]],
  2, (some .int), 6, 83)
def kX6_join : aM := ([[some (.iload_n 1, 1, 1, 0, .null), some (.invokestatic 60, 4, 106, 1, .null), none, none, some (.ifCond .eq 15, 7, 19, 0, .null), none, none, some (.iload_n 2, 8, 2, 0, .null), some (.invokestatic 60, 11, 106, 1, .null), none, none, some (.ifCond .eq 8, 14, 19, 0, .null), none, none, some (.iload_n 1, 15, 1, 0, .null), some (.iload_n 2, 16, 2, 0, .null)],
 [some (.if_icmp .ne 10, 19, 26, 0, .null), none, none, some (.aload_n 0, 20, 0, 0, .null), some (.ldc 70, 22, 0, 0, .int (-1000000001)), none, some (.invokevirtual 71, 25, 101, 2, .retAddr 6), none, none, some (.ireturn, 26, 0, 0, .null), some (.aload_n 0, 27, 0, 0, .null), some (.getfield 10, 30, 6, 0, .null), none, none, some (.getfield 75, 33, 4, 0, .null), none],
 [none, some (.iload_n 1, 34, 1, 0, .null), some (.aaload, 35, 0, 0, .null), some (.astore_n 3, 36, 3, 0, .null), some (.iconst 0, 37, 0, 0, .int (0)), some (.istore 4, 39, 4, 0, .null), none, some (.aload_n 0, 40, 0, 0, .null), some (.aload_n 0, 41, 0, 0, .null), some (.getfield 10, 44, 6, 0, .null), none, none, some (.getfield 75, 47, 4, 0, .null), none, none, some (.iload_n 2, 48, 2, 0, .null)],
 [some (.aaload, 49, 0, 0, .null), some (.aload_n 3, 50, 3, 0, .null), some (.iconst 0, 51, 0, 0, .int (0)), some (.invokevirtual 227, 54, 122, 4, .retAddr 6), none, none, some (.istore 5, 56, 5, 0, .null), none, some (.iconst 1, 57, 0, 0, .int (1)), some (.istore 6, 59, 6, 0, .null), none, some (.iload 6, 61, 6, 0, .null), none, some (.aload_n 3, 62, 3, 0, .null), some (.getfield 79, 65, 1, 3, .int 0), none],
 [none, some (.if_icmp .gt 42, 68, 107, 0, .null), none, none, some (.aload_n 0, 69, 0, 0, .null), some (.aload_n 0, 70, 0, 0, .null), some (.getfield 10, 73, 6, 0, .null), none, none, some (.getfield 75, 76, 4, 0, .null), none, none, some (.iload_n 2, 77, 2, 0, .null), some (.aaload, 78, 0, 0, .null), some (.aload_n 3, 79, 3, 0, .null), some (.iload 6, 81, 6, 0, .null)],
 [none, some (.invokevirtual 227, 84, 122, 4, .retAddr 6), none, none, some (.istore 7, 86, 7, 0, .null), none, some (.iload 7, 88, 7, 0, .null), none, some (.iload 5, 90, 5, 0, .null), none, some (.if_icmp .le 11, 93, 101, 0, .null), none, none, some (.iload 6, 95, 6, 0, .null), none, some (.istore 4, 97, 4, 0, .null)],
 [none, some (.iload 7, 99, 7, 0, .null), none, some (.istore 5, 101, 5, 0, .null), none, some (.iinc 6 1, 104, 6, 0, .int (1)), none, none, some (.goto (-45), 107, 59, 0, .null), none, none, some (.iload 4, 109, 4, 0, .null), none, some (.ireturn, 110, 0, 0, .null)]],
  8, (some .int), 6, 84)
def kX6_same : aM := ([[some (.iload_n 1, 1, 1, 0, .null), some (.invokestatic 60, 4, 106, 1, .null), none, none, some (.ifCond .eq 10, 7, 14, 0, .null), none, none, some (.iload_n 2, 8, 2, 0, .null), some (.invokestatic 60, 11, 106, 1, .null), none, none, some (.ifCond .ne 10, 14, 21, 0, .null), none, none, some (.aload_n 0, 15, 0, 0, .null), some (.ldc 70, 17, 0, 0, .int (-1000000001))],
 [none, some (.invokevirtual 71, 20, 101, 2, .retAddr 6), none, none, some (.ireturn, 21, 0, 0, .null), some (.aload_n 0, 22, 0, 0, .null), some (.getfield 10, 25, 6, 0, .null), none, none, some (.getfield 75, 28, 4, 0, .null), none, none, some (.iload_n 1, 29, 1, 0, .null), some (.aaload, 30, 0, 0, .null), some (.aload_n 0, 31, 0, 0, .null), some (.getfield 10, 34, 6, 0, .null)],
 [none, none, some (.getfield 75, 37, 4, 0, .null), none, none, some (.iload_n 2, 38, 2, 0, .null), some (.aaload, 39, 0, 0, .null), some (.invokevirtual 231, 42, 20, 2, .retAddr 1), none, none, some (.ireturn, 43, 0, 0, .null)]],
  3, (some .int), 6, 85)
def kX6_best : aM := ([[some (.iload_n 1, 1, 1, 0, .null), some (.invokestatic 151, 4, 110, 1, .null), none, none, some (.ifCond .ne 10, 7, 14, 0, .null), none, none, some (.aload_n 0, 8, 0, 0, .null), some (.ldc 70, 10, 0, 0, .int (-1000000001)), none, some (.invokevirtual 71, 13, 101, 2, .retAddr 6), none, none, some (.ireturn, 14, 0, 0, .null), some (.iconst (-1), 15, 0, 0, .int (-1)), some (.istore_n 2, 16, 2, 0, .null)],
 [some (.iconst 0, 17, 0, 0, .int (0)), some (.istore_n 3, 18, 3, 0, .null), some (.iconst 0, 19, 0, 0, .int (0)), some (.istore 4, 21, 4, 0, .null), none, some (.iload 4, 23, 4, 0, .null), none, some (.iconst 4, 24, 0, 0, .int (4)), some (.if_icmp .ge 41, 27, 65, 0, .null), none, none, some (.aload_n 0, 28, 0, 0, .null), some (.aload_n 0, 29, 0, 0, .null), some (.getfield 10, 32, 6, 0, .null), none, none],
 [some (.getfield 75, 35, 4, 0, .null), none, none, some (.iload 4, 37, 4, 0, .null), none, some (.aaload, 38, 0, 0, .null), some (.iload_n 1, 39, 1, 0, .null), some (.invokevirtual 181, 42, 126, 3, .retAddr 6), none, none, some (.invokestatic 190, 45, 231, 1, .null), none, none, some (.istore 5, 47, 5, 0, .null), none, some (.iload 5, 49, 5, 0, .null)],
 [none, some (.iload_n 3, 50, 3, 0, .null), some (.if_icmp .le 9, 53, 59, 0, .null), none, none, some (.iload 4, 55, 4, 0, .null), none, some (.istore_n 2, 56, 2, 0, .null), some (.iload 5, 58, 5, 0, .null), none, some (.istore_n 3, 59, 3, 0, .null), some (.iinc 4 1, 62, 4, 0, .int (1)), none, none, some (.goto (-41), 65, 21, 0, .null), none],
 [none, some (.iload_n 2, 66, 2, 0, .null), some (.ifCond .ge 12, 69, 78, 0, .null), none, none, some (.aload_n 0, 70, 0, 0, .null), some (.ldc 160, 72, 0, 0, .int (-1000000004)), none, some (.invokevirtual 71, 75, 101, 2, .retAddr 6), none, none, some (.goto 4, 78, 79, 0, .null), none, none, some (.iload_n 2, 79, 2, 0, .null), some (.ireturn, 80, 0, 0, .null)]],
  6, (some .int), 6, 86)
def kX6_feed : aM := ([[some (.iload_n 2, 1, 2, 0, .null), some (.iconst 1, 2, 0, 0, .int (1)), some (.iconst 4, 3, 0, 0, .int (4)), some (.invokestatic 117, 6, 105, 3, .null), none, none, some (.ifCond .ne 10, 9, 16, 0, .null), none, none, some (.aload_n 0, 10, 0, 0, .null), some (.ldc 70, 12, 0, 0, .int (-1000000001)), none, some (.invokevirtual 71, 15, 101, 2, .retAddr 6), none, none, some (.ireturn, 16, 0, 0, .null)],
 [some (.aload_n 0, 17, 0, 0, .null), some (.getfield 41, 20, 6, 5, .null), none, none, some (.getfield 234, 23, 3, 1, .int 0), none, none, some (.iload_n 2, 24, 2, 0, .null), some (.iadd, 25, 0, 0, .null), some (.bipush 120, 27, 0, 0, .int (120)), none, some (.if_icmp .le 10, 30, 37, 0, .null), none, none, some (.aload_n 0, 31, 0, 0, .null), some (.ldc 85, 33, 0, 0, .int (-1000000002))],
 [none, some (.invokevirtual 71, 36, 101, 2, .retAddr 6), none, none, some (.ireturn, 37, 0, 0, .null), some (.iload_n 2, 38, 2, 0, .null), some (.iconst 1, 39, 0, 0, .int (1)), some (.isub, 40, 0, 0, .null), some (.istore_n 3, 41, 3, 0, .null), some (.iload_n 3, 42, 3, 0, .null), some (.ifCond .lt 26, 45, 68, 0, .null), none, none, some (.aload_n 0, 46, 0, 0, .null), some (.getfield 41, 49, 6, 5, .null), none],
 [none, some (.iload_n 1, 50, 1, 0, .null), some (.bipush 8, 52, 0, 0, .int (8)), none, some (.iload_n 3, 53, 3, 0, .null), some (.imul, 54, 0, 0, .null), some (.iushr, 55, 0, 0, .null), some (.sipush 255, 58, 0, 0, .int (255)), none, none, some (.iand, 59, 0, 0, .null), some (.invokevirtual 235, 62, 27, 2, .retAddr 3), none, none, some (.iinc 3 (-1), 65, 3, 0, .int (-1)), none],
 [none, some (.goto (-24), 68, 41, 0, .null), none, none, some (.aload_n 0, 69, 0, 0, .null), some (.getfield 41, 72, 6, 5, .null), none, none, some (.getfield 234, 75, 3, 1, .int 0), none, none, some (.ireturn, 76, 0, 0, .null)]],
  4, (some .int), 6, 87)
def kX6_wipe : aM := ([[some (.aload_n 0, 1, 0, 0, .null), some (.getfield 41, 4, 6, 5, .null), none, none, some (.getfield 234, 7, 3, 1, .int 0), none, none, some (.istore_n 1, 8, 1, 0, .null), some (.aload_n 0, 9, 0, 0, .null), some (.getfield 41, 12, 6, 5, .null), none, none, some (.iconst 0, 13, 0, 0, .int (0)), some (.putfield 234, 16, 3, 1, .int 0), none, none],
 [some (.iload_n 1, 17, 1, 0, .null), some (.ireturn, 18, 0, 0, .null)]],
  2, (some .int), 6, 88)
def kX6_town : aM := ([[some (.aload_n 0, 1, 0, 0, .null), some (.getfield 19, 4, 6, 2, .null), none, none, some (.aload_n 0, 5, 0, 0, .null), some (.getfield 10, 8, 6, 0, .null), none, none, some (.invokevirtual 237, 11, 42, 2, .retAddr 4), none, none, some (.aload_n 0, 12, 0, 0, .null), some (.getfield 41, 15, 6, 5, .null), none, none, some (.aload_n 0, 16, 0, 0, .null)],
 [some (.getfield 19, 19, 6, 2, .null), none, none, some (.invokevirtual 239, 22, 28, 2, .retAddr 3), none, none, some (.istore_n 1, 23, 1, 0, .null), some (.aload_n 0, 24, 0, 0, .null), some (.getfield 41, 27, 6, 5, .null), none, none, some (.iconst 0, 28, 0, 0, .int (0)), some (.putfield 234, 31, 3, 1, .int 0), none, none, some (.iload_n 1, 32, 1, 0, .null)],
 [some (.ifCond .lt 14, 35, 46, 0, .null), none, none, some (.aload_n 0, 36, 0, 0, .null), some (.getfield 10, 39, 6, 0, .null), none, none, some (.aload_n 0, 40, 0, 0, .null), some (.getfield 19, 43, 6, 2, .null), none, none, some (.invokevirtual 237, 46, 42, 2, .retAddr 4), none, none, some (.iload_n 1, 47, 1, 0, .null), some (.ireturn, 48, 0, 0, .null)]],
  2, (some .int), 6, 89)
def kX6_sheet : aM := ([[some (.iload_n 1, 1, 1, 0, .null), some (.invokestatic 243, 4, 112, 1, .null), none, none, some (.ifCond .eq 10, 7, 14, 0, .null), none, none, some (.iload_n 2, 8, 2, 0, .null), some (.invokestatic 246, 11, 113, 1, .null), none, none, some (.ifCond .ne 10, 14, 21, 0, .null), none, none, some (.aload_n 0, 15, 0, 0, .null), some (.ldc 70, 17, 0, 0, .int (-1000000001))],
 [none, some (.invokevirtual 71, 20, 101, 2, .retAddr 6), none, none, some (.ireturn, 21, 0, 0, .null), some (.iload_n 3, 22, 3, 0, .null), some (.ifCond .ge 10, 25, 32, 0, .null), none, none, some (.aload_n 0, 26, 0, 0, .null), some (.ldc 249, 28, 0, 0, .int (-1000000007)), none, some (.invokevirtual 71, 31, 101, 2, .retAddr 6), none, none, some (.ireturn, 32, 0, 0, .null)],
 [some (.iload_n 3, 33, 3, 0, .null), some (.bipush 40, 35, 0, 0, .int (40)), none, some (.if_icmp .le 10, 38, 45, 0, .null), none, none, some (.aload_n 0, 39, 0, 0, .null), some (.ldc 70, 41, 0, 0, .int (-1000000001)), none, some (.invokevirtual 71, 44, 101, 2, .retAddr 6), none, none, some (.ireturn, 45, 0, 0, .null), some (.aload_n 0, 46, 0, 0, .null), some (.getfield 47, 49, 6, 6, .null), none],
 [none, some (.iload_n 1, 50, 1, 0, .null), some (.aaload, 51, 0, 0, .null), some (.iload_n 2, 52, 2, 0, .null), some (.iload_n 3, 53, 3, 0, .null), some (.invokevirtual 250, 56, 23, 3, .retAddr 2), none, none, some (.aload_n 0, 57, 0, 0, .null), some (.getfield 47, 60, 6, 6, .null), none, none, some (.iload_n 1, 61, 1, 0, .null), some (.aaload, 62, 0, 0, .null), some (.getfield 253, 65, 2, 2, .int 0), none],
 [none, some (.ireturn, 66, 0, 0, .null)]],
  4, (some .int), 6, 90)
def kX6_write : aM := ([[some (.aload_n 0, 1, 0, 0, .null), some (.iload_n 1, 2, 1, 0, .null), some (.invokevirtual 254, 5, 103, 2, .retAddr 6), none, none, some (.istore 5, 7, 5, 0, .null), none, some (.iload 5, 9, 5, 0, .null), none, some (.ifCond .eq 11, 12, 20, 0, .null), none, none, some (.aload_n 0, 13, 0, 0, .null), some (.iload 5, 15, 5, 0, .null), none, some (.invokevirtual 71, 18, 101, 2, .retAddr 6)],
 [none, none, some (.i2l, 19, 0, 0, .null), some (.lreturn, 20, 0, 0, .null), some (.aload_n 0, 21, 0, 0, .null), some (.getfield 47, 24, 6, 6, .null), none, none, some (.iload_n 1, 25, 1, 0, .null), some (.aaload, 26, 0, 0, .null), some (.astore 6, 28, 6, 0, .null), none, some (.iload_n 2, 29, 2, 0, .null), some (.iconst 0, 30, 0, 0, .int (0)), some (.aload 6, 32, 6, 0, .null), none],
 [some (.getfield 253, 35, 2, 2, .int 0), none, none, some (.iconst 1, 36, 0, 0, .int (1)), some (.isub, 37, 0, 0, .null), some (.invokestatic 117, 40, 105, 3, .null), none, none, some (.ifCond .ne 11, 43, 51, 0, .null), none, none, some (.aload_n 0, 44, 0, 0, .null), some (.ldc 70, 46, 0, 0, .int (-1000000001)), none, some (.invokevirtual 71, 49, 101, 2, .retAddr 6), none],
 [none, some (.i2l, 50, 0, 0, .null), some (.lreturn, 51, 0, 0, .null), some (.aload 6, 53, 6, 0, .null), none, some (.getfield 257, 56, 2, 0, .null), none, none, some (.iload_n 2, 57, 2, 0, .null), some (.laload, 58, 0, 0, .null), some (.lstore 7, 60, 7, 0, .null), none, some (.aload 6, 62, 6, 0, .null), none, some (.iload_n 2, 63, 2, 0, .null), some (.lload_n 3, 64, 3, 0, .null)],
 [some (.invokevirtual 261, 67, 24, 3, .retAddr 2), none, none, some (.lload 7, 69, 7, 0, .null), none, some (.lreturn, 70, 0, 0, .null)]],
  9, (some .long), 6, 91)
def kX6_copy : aM := ([[some (.iload_n 1, 1, 1, 0, .null), some (.invokestatic 243, 4, 112, 1, .null), none, none, some (.ifCond .eq 10, 7, 14, 0, .null), none, none, some (.iload_n 3, 8, 3, 0, .null), some (.invokestatic 243, 11, 112, 1, .null), none, none, some (.ifCond .ne 10, 14, 21, 0, .null), none, none, some (.aload_n 0, 15, 0, 0, .null), some (.ldc 70, 17, 0, 0, .int (-1000000001))],
 [none, some (.invokevirtual 71, 20, 101, 2, .retAddr 6), none, none, some (.ireturn, 21, 0, 0, .null), some (.aload_n 0, 22, 0, 0, .null), some (.getfield 47, 25, 6, 6, .null), none, none, some (.iload_n 1, 26, 1, 0, .null), some (.aaload, 27, 0, 0, .null), some (.astore 6, 29, 6, 0, .null), none, some (.aload_n 0, 30, 0, 0, .null), some (.getfield 47, 33, 6, 6, .null), none],
 [none, some (.iload_n 3, 34, 3, 0, .null), some (.aaload, 35, 0, 0, .null), some (.astore 7, 37, 7, 0, .null), none, some (.aload 6, 39, 6, 0, .null), none, some (.getfield 265, 42, 2, 1, .int 0), none, none, some (.ifCond .eq 11, 45, 53, 0, .null), none, none, some (.aload 7, 47, 7, 0, .null), none, some (.getfield 265, 50, 2, 1, .int 0)],
 [none, none, some (.ifCond .ne 11, 53, 61, 0, .null), none, none, some (.aload_n 0, 54, 0, 0, .null), some (.ldc_w 268, 57, 0, 0, .int (-1000000006)), none, none, some (.invokevirtual 71, 60, 101, 2, .retAddr 6), none, none, some (.ireturn, 61, 0, 0, .null), some (.aload 6, 63, 6, 0, .null), none, some (.getfield 265, 66, 2, 1, .int 0)],
 [none, none, some (.aload 7, 68, 7, 0, .null), none, some (.getfield 265, 71, 2, 1, .int 0), none, none, some (.if_icmp .eq 10, 74, 81, 0, .null), none, none, some (.aload_n 0, 75, 0, 0, .null), some (.ldc 124, 77, 0, 0, .int (-1000000003)), none, some (.invokevirtual 71, 80, 101, 2, .retAddr 6), none, none],
 [some (.ireturn, 81, 0, 0, .null), some (.aload 6, 83, 6, 0, .null), none, some (.iload_n 2, 84, 2, 0, .null), some (.iload 5, 86, 5, 0, .null), none, some (.invokevirtual 269, 89, 25, 3, .retAddr 2), none, none, some (.ifCond .eq 15, 92, 104, 0, .null), none, none, some (.aload 7, 94, 7, 0, .null), none, some (.iload 4, 96, 4, 0, .null), none],
 [some (.iload 5, 98, 5, 0, .null), none, some (.invokevirtual 269, 101, 25, 3, .retAddr 2), none, none, some (.ifCond .ne 10, 104, 111, 0, .null), none, none, some (.aload_n 0, 105, 0, 0, .null), some (.ldc 70, 107, 0, 0, .int (-1000000001)), none, some (.invokevirtual 71, 110, 101, 2, .retAddr 6), none, none, some (.ireturn, 111, 0, 0, .null), some (.aload 6, 113, 6, 0, .null)],
 [none, some (.getfield 257, 116, 2, 0, .null), none, none, some (.iload_n 2, 117, 2, 0, .null), some (.aload 7, 119, 7, 0, .null), none, some (.getfield 257, 122, 2, 0, .null), none, none, some (.iload 4, 124, 4, 0, .null), none, some (.iload 5, 126, 5, 0, .null), none, some (.invokestatic 272, 129, 901, 5, .null), none],
 [none, some (.iload 5, 131, 5, 0, .null), none, some (.ireturn, 132, 0, 0, .null)]],
  8, (some .int), 6, 92)
def kX6_lays : aM := ([[some (.aload_n 0, 1, 0, 0, .null), some (.iload_n 1, 2, 1, 0, .null), some (.iload_n 2, 3, 2, 0, .null), some (.invokevirtual 278, 6, 104, 3, .retAddr 6), none, none, some (.istore_n 3, 7, 3, 0, .null), some (.iload_n 3, 8, 3, 0, .null), some (.ifCond .eq 9, 11, 17, 0, .null), none, none, some (.aload_n 0, 12, 0, 0, .null), some (.iload_n 3, 13, 3, 0, .null), some (.invokevirtual 71, 16, 101, 2, .retAddr 6), none, none],
 [some (.ireturn, 17, 0, 0, .null), some (.aload_n 0, 18, 0, 0, .null), some (.getfield 47, 21, 6, 6, .null), none, none, some (.iload_n 1, 22, 1, 0, .null), some (.aaload, 23, 0, 0, .null), some (.astore 4, 25, 4, 0, .null), none, some (.aload_n 0, 26, 0, 0, .null), some (.getfield 10, 29, 6, 0, .null), none, none, some (.getfield 75, 32, 4, 0, .null), none, none],
 [some (.iload_n 2, 33, 2, 0, .null), some (.aaload, 34, 0, 0, .null), some (.astore 5, 36, 5, 0, .null), none, some (.aload 5, 38, 5, 0, .null), none, some (.invokevirtual 134, 41, 13, 1, .retAddr 1), none, none, some (.aload 4, 43, 4, 0, .null), none, some (.getfield 253, 46, 2, 2, .int 0), none, none, some (.bipush 7, 48, 0, 0, .int (7)), none],
 [some (.invokestatic 282, 51, 904, 2, .null), none, none, some (.istore 6, 53, 6, 0, .null), none, some (.iconst 0, 54, 0, 0, .int (0)), some (.istore 7, 56, 7, 0, .null), none, some (.iload 7, 58, 7, 0, .null), none, some (.iload 6, 60, 6, 0, .null), none, some (.if_icmp .ge 50, 63, 110, 0, .null), none, none, some (.aload 4, 65, 4, 0, .null)],
 [none, some (.getfield 257, 68, 2, 0, .null), none, none, some (.iload 7, 70, 7, 0, .null), none, some (.laload, 71, 0, 0, .null), some (.invokestatic 195, 74, 114, 1, .null), none, none, some (.ifCond .eq 36, 77, 110, 0, .null), none, none, some (.aload 4, 79, 4, 0, .null), none, some (.getfield 257, 82, 2, 0, .null)],
 [none, none, some (.iload 7, 84, 7, 0, .null), none, some (.laload, 85, 0, 0, .null), some (.l2i, 86, 0, 0, .null), some (.istore 8, 88, 8, 0, .null), none, some (.aload 5, 90, 5, 0, .null), none, some (.iload 8, 92, 8, 0, .null), none, some (.bipush 10, 94, 0, 0, .int (10)), none, some (.idiv, 95, 0, 0, .null), some (.iload 8, 97, 8, 0, .null)],
 [none, some (.bipush 10, 99, 0, 0, .int (10)), none, some (.irem, 100, 0, 0, .null), some (.iconst 0, 101, 0, 0, .int (0)), some (.invokevirtual 86, 104, 14, 4, .retAddr 1), none, none, some (.iinc 7 1, 107, 7, 0, .int (1)), none, none, some (.goto (-51), 110, 56, 0, .null), none, none, some (.aload 5, 112, 5, 0, .null), none],
 [some (.getfield 79, 115, 1, 3, .int 0), none, none, some (.ireturn, 116, 0, 0, .null)]],
  9, (some .int), 6, 93)
def kX6_show : aM := ([[some (.aload_n 0, 1, 0, 0, .null), some (.iload_n 1, 2, 1, 0, .null), some (.iload_n 2, 3, 2, 0, .null), some (.invokevirtual 278, 6, 104, 3, .retAddr 6), none, none, some (.istore_n 3, 7, 3, 0, .null), some (.iload_n 3, 8, 3, 0, .null), some (.ifCond .eq 9, 11, 17, 0, .null), none, none, some (.aload_n 0, 12, 0, 0, .null), some (.iload_n 3, 13, 3, 0, .null), some (.invokevirtual 71, 16, 101, 2, .retAddr 6), none, none],
 [some (.ireturn, 17, 0, 0, .null), some (.aload_n 0, 18, 0, 0, .null), some (.getfield 47, 21, 6, 6, .null), none, none, some (.iload_n 1, 22, 1, 0, .null), some (.aaload, 23, 0, 0, .null), some (.astore 4, 25, 4, 0, .null), none, some (.aload 4, 27, 4, 0, .null), none, some (.getfield 253, 30, 2, 2, .int 0), none, none, some (.bipush 21, 32, 0, 0, .int (21)), none],
 [some (.invokestatic 282, 35, 904, 2, .null), none, none, some (.istore 5, 37, 5, 0, .null), none, some (.iconst 0, 38, 0, 0, .int (0)), some (.istore 6, 40, 6, 0, .null), none, some (.iload 6, 42, 6, 0, .null), none, some (.iload 5, 44, 5, 0, .null), none, some (.if_icmp .ge 32, 47, 76, 0, .null), none, none, some (.aload 4, 49, 4, 0, .null)],
 [none, some (.iload 6, 51, 6, 0, .null), none, some (.aload_n 0, 52, 0, 0, .null), some (.aload_n 0, 53, 0, 0, .null), some (.getfield 10, 56, 6, 0, .null), none, none, some (.getfield 75, 59, 4, 0, .null), none, none, some (.iload_n 2, 60, 2, 0, .null), some (.aaload, 61, 0, 0, .null), some (.iload 6, 63, 6, 0, .null), none, some (.invokevirtual 174, 66, 120, 3, .retAddr 6)],
 [none, none, some (.i2l, 67, 0, 0, .null), some (.invokevirtual 261, 70, 24, 3, .retAddr 2), none, none, some (.iinc 6 1, 73, 6, 0, .int (1)), none, none, some (.goto (-33), 76, 40, 0, .null), none, none, some (.iload 5, 78, 5, 0, .null), none, some (.ireturn, 79, 0, 0, .null)]],
  7, (some .int), 6, 94)
def kX6_check : aM := ([[some (.aload_n 0, 1, 0, 0, .null), some (.iload_n 1, 2, 1, 0, .null), some (.iload_n 2, 3, 2, 0, .null), some (.invokevirtual 278, 6, 104, 3, .retAddr 6), none, none, some (.istore_n 3, 7, 3, 0, .null), some (.iload_n 3, 8, 3, 0, .null), some (.ifCond .eq 9, 11, 17, 0, .null), none, none, some (.aload_n 0, 12, 0, 0, .null), some (.iload_n 3, 13, 3, 0, .null), some (.invokevirtual 71, 16, 101, 2, .retAddr 6), none, none],
 [some (.ireturn, 17, 0, 0, .null), some (.aload_n 0, 18, 0, 0, .null), some (.getfield 47, 21, 6, 6, .null), none, none, some (.iload_n 1, 22, 1, 0, .null), some (.aaload, 23, 0, 0, .null), some (.astore 4, 25, 4, 0, .null), none, some (.aload_n 0, 26, 0, 0, .null), some (.getfield 10, 29, 6, 0, .null), none, none, some (.getfield 75, 32, 4, 0, .null), none, none],
 [some (.iload_n 2, 33, 2, 0, .null), some (.aaload, 34, 0, 0, .null), some (.astore 5, 36, 5, 0, .null), none, some (.aload 4, 38, 4, 0, .null), none, some (.getfield 253, 41, 2, 2, .int 0), none, none, some (.aload 5, 43, 5, 0, .null), none, some (.getfield 79, 46, 1, 3, .int 0), none, none, some (.invokestatic 282, 49, 904, 2, .null), none],
 [none, some (.istore 6, 51, 6, 0, .null), none, some (.iconst 0, 52, 0, 0, .int (0)), some (.istore 7, 54, 7, 0, .null), none, some (.iload 7, 56, 7, 0, .null), none, some (.iload 6, 58, 6, 0, .null), none, some (.if_icmp .ge 35, 61, 93, 0, .null), none, none, some (.aload 4, 63, 4, 0, .null), none, some (.getfield 257, 66, 2, 0, .null)],
 [none, none, some (.iload 7, 68, 7, 0, .null), none, some (.laload, 69, 0, 0, .null), some (.aload_n 0, 70, 0, 0, .null), some (.aload 5, 72, 5, 0, .null), none, some (.iload 7, 74, 7, 0, .null), none, some (.invokevirtual 113, 77, 121, 3, .retAddr 6), none, none, some (.i2l, 78, 0, 0, .null), some (.lcmp, 79, 0, 0, .null), some (.ifCond .eq 8, 82, 87, 0, .null)],
 [none, none, some (.iconst 1, 83, 0, 0, .int (1)), some (.iload 7, 85, 7, 0, .null), none, some (.iadd, 86, 0, 0, .null), some (.ireturn, 87, 0, 0, .null), some (.iinc 7 1, 90, 7, 0, .int (1)), none, none, some (.goto (-36), 93, 54, 0, .null), none, none, some (.aload 4, 95, 4, 0, .null), none, some (.getfield 253, 98, 2, 2, .int 0)],
 [none, none, some (.aload 5, 100, 5, 0, .null), none, some (.getfield 79, 103, 1, 3, .int 0), none, none, some (.if_icmp .ne 7, 106, 110, 0, .null), none, none, some (.iconst 0, 107, 0, 0, .int (0)), some (.goto 7, 110, 114, 0, .null), none, none, some (.iconst 1, 111, 0, 0, .int (1)), some (.iload 6, 113, 6, 0, .null)],
 [none, some (.iadd, 114, 0, 0, .null), some (.ireturn, 115, 0, 0, .null)]],
  8, (some .int), 6, 95)
def kX6_image : aM := ([[some (.aload_n 0, 1, 0, 0, .null), some (.getfield 16, 4, 6, 1, .null), none, none, some (.aload_n 0, 5, 0, 0, .null), some (.getfield 10, 8, 6, 0, .null), none, none, some (.invokevirtual 237, 11, 42, 2, .retAddr 4), none, none, some (.aload_n 0, 12, 0, 0, .null), some (.iconst 1, 13, 0, 0, .int (1)), some (.putfield 55, 16, 6, 8, .int 1), none, none],
 [some (.iconst 1, 17, 0, 0, .int (1)), some (.ireturn, 18, 0, 0, .null)]],
  1, (some .int), 6, 96)
def kX6_undo : aM := ([[some (.aload_n 0, 1, 0, 0, .null), some (.getfield 55, 4, 6, 8, .int 1), none, none, some (.ifCond .ne 10, 7, 14, 0, .null), none, none, some (.aload_n 0, 8, 0, 0, .null), some (.ldc 160, 10, 0, 0, .int (-1000000004)), none, some (.invokevirtual 71, 13, 101, 2, .retAddr 6), none, none, some (.ireturn, 14, 0, 0, .null), some (.aload_n 0, 15, 0, 0, .null), some (.getfield 10, 18, 6, 0, .null)],
 [none, none, some (.aload_n 0, 19, 0, 0, .null), some (.getfield 16, 22, 6, 1, .null), none, none, some (.invokevirtual 237, 25, 42, 2, .retAddr 4), none, none, some (.aload_n 0, 26, 0, 0, .null), some (.getfield 10, 29, 6, 0, .null), none, none, some (.invokevirtual 285, 32, 43, 1, .retAddr 4), none, none],
 [some (.ireturn, 33, 0, 0, .null)]],
  1, (some .int), 6, 97)
def kX6_tear : aM := ([[some (.aload_n 0, 1, 0, 0, .null), some (.getfield 55, 4, 6, 8, .int 1), none, none, some (.ifCond .eq 7, 7, 11, 0, .null), none, none, some (.iconst 1, 8, 0, 0, .int (1)), some (.goto 4, 11, 12, 0, .null), none, none, some (.iconst 0, 12, 0, 0, .int (0)), some (.istore_n 1, 13, 1, 0, .null), some (.aload_n 0, 14, 0, 0, .null), some (.iconst 0, 15, 0, 0, .int (0)), some (.putfield 55, 18, 6, 8, .int 1)],
 [none, none, some (.iload_n 1, 19, 1, 0, .null), some (.ireturn, 20, 0, 0, .null)]],
  2, (some .int), 6, 98)
def kX6_count : aM := ([[some (.iload_n 1, 1, 1, 0, .null), some (.tableswitch 75 0 4 #[35, 43, 51, 59, 67], 36, 0, 0, .null), none, none, none, none, none, none, none, none, none, none, none, none, none, none],
 [none, none, none, none, none, none, none, none, none, none, none, none, none, none, none, none],
 [none, none, none, none, some (.aload_n 0, 37, 0, 0, .null), some (.getfield 10, 40, 6, 0, .null), none, none, some (.invokevirtual 285, 43, 43, 1, .retAddr 4), none, none, some (.ireturn, 44, 0, 0, .null), some (.aload_n 0, 45, 0, 0, .null), some (.getfield 10, 48, 6, 0, .null), none, none],
 [some (.invokevirtual 167, 51, 46, 1, .retAddr 4), none, none, some (.ireturn, 52, 0, 0, .null), some (.aload_n 0, 53, 0, 0, .null), some (.getfield 41, 56, 6, 5, .null), none, none, some (.getfield 234, 59, 3, 1, .int 0), none, none, some (.ireturn, 60, 0, 0, .null), some (.aload_n 0, 61, 0, 0, .null), some (.getfield 10, 64, 6, 0, .null), none, none],
 [some (.getfield 107, 67, 4, 2, .int 0), none, none, some (.ireturn, 68, 0, 0, .null), some (.aload_n 0, 69, 0, 0, .null), some (.getfield 10, 72, 6, 0, .null), none, none, some (.getfield 144, 75, 4, 3, .int 0), none, none, some (.ireturn, 76, 0, 0, .null), some (.aload_n 0, 77, 0, 0, .null), some (.ldc 70, 79, 0, 0, .int (-1000000001)), none, some (.invokevirtual 71, 82, 101, 2, .retAddr 6)],
 [none, none, some (.ireturn, 83, 0, 0, .null)]],
  2, (some .int), 6, 99)
def kX6_status : aM := ([[some (.iload_n 1, 1, 1, 0, .null), some (.iconst (-1), 2, 0, 0, .int (-1)), some (.bipush 6, 4, 0, 0, .int (6)), none, some (.invokestatic 117, 7, 105, 3, .null), none, none, some (.ifCond .ne 10, 10, 17, 0, .null), none, none, some (.aload_n 0, 11, 0, 0, .null), some (.ldc 70, 13, 0, 0, .int (-1000000001)), none, some (.invokevirtual 71, 16, 101, 2, .retAddr 6), none, none],
 [some (.ireturn, 17, 0, 0, .null), some (.iload_n 1, 18, 1, 0, .null), some (.ifCond .lt 10, 21, 28, 0, .null), none, none, some (.aload_n 0, 22, 0, 0, .null), some (.getfield 51, 25, 6, 7, .null), none, none, some (.iload_n 1, 26, 1, 0, .null), some (.iaload, 27, 0, 0, .null), some (.ireturn, 28, 0, 0, .null), some (.iconst 0, 29, 0, 0, .int (0)), some (.istore_n 2, 30, 2, 0, .null), some (.iconst 0, 31, 0, 0, .int (0)), some (.istore_n 3, 32, 3, 0, .null)],
 [some (.iload_n 3, 33, 3, 0, .null), some (.bipush 7, 35, 0, 0, .int (7)), none, some (.if_icmp .ge 18, 38, 53, 0, .null), none, none, some (.iload_n 2, 39, 2, 0, .null), some (.aload_n 0, 40, 0, 0, .null), some (.getfield 51, 43, 6, 7, .null), none, none, some (.iload_n 3, 44, 3, 0, .null), some (.iaload, 45, 0, 0, .null), some (.iadd, 46, 0, 0, .null), some (.istore_n 2, 47, 2, 0, .null), some (.iinc 3 1, 50, 3, 0, .int (1))],
 [none, none, some (.goto (-18), 53, 32, 0, .null), none, none, some (.iload_n 2, 54, 2, 0, .null), some (.ireturn, 55, 0, 0, .null)]],
  4, (some .int), 6, 100)
def kX6_finding : aM := ([[some (.ldc 70, 2, 0, 0, .int (-1000000001)), none, some (.iload_n 1, 3, 1, 0, .null), some (.isub, 4, 0, 0, .null), some (.istore_n 2, 5, 2, 0, .null), some (.iload_n 2, 6, 2, 0, .null), some (.iconst 0, 7, 0, 0, .int (0)), some (.bipush 6, 9, 0, 0, .int (6)), none, some (.invokestatic 117, 12, 105, 3, .null), none, none, some (.ifCond .eq 13, 15, 25, 0, .null), none, none, some (.aload_n 0, 16, 0, 0, .null)],
 [some (.getfield 51, 19, 6, 7, .null), none, none, some (.iload_n 2, 20, 2, 0, .null), some (.dup2, 21, 0, 0, .null), some (.iaload, 22, 0, 0, .null), some (.iconst 1, 23, 0, 0, .int (1)), some (.iadd, 24, 0, 0, .null), some (.iastore, 25, 0, 0, .null), some (.iload_n 1, 26, 1, 0, .null), some (.ireturn, 27, 0, 0, .null)]],
  3, (some .int), 6, 101)
def kX6_isGarment : aM := ([[some (.iload_n 1, 1, 1, 0, .null), some (.invokestatic 60, 4, 106, 1, .null), none, none, some (.ifCond .eq 29, 7, 33, 0, .null), none, none, some (.iload_n 2, 8, 2, 0, .null), some (.iconst 0, 9, 0, 0, .int (0)), some (.aload_n 0, 10, 0, 0, .null), some (.getfield 10, 13, 6, 0, .null), none, none, some (.getfield 75, 16, 4, 0, .null), none, none],
 [some (.iload_n 1, 17, 1, 0, .null), some (.aaload, 18, 0, 0, .null), some (.getfield 79, 21, 1, 3, .int 0), none, none, some (.iconst 1, 22, 0, 0, .int (1)), some (.isub, 23, 0, 0, .null), some (.invokestatic 117, 26, 105, 3, .null), none, none, some (.ifCond .eq 7, 29, 33, 0, .null), none, none, some (.iconst 1, 30, 0, 0, .int (1)), some (.goto 4, 33, 34, 0, .null), none],
 [none, some (.iconst 0, 34, 0, 0, .int (0)), some (.ireturn, 35, 0, 0, .null)]],
  3, (some .boolean), 6, 102)
def kX6_sheetFinding : aM := ([[some (.iload_n 1, 1, 1, 0, .null), some (.invokestatic 243, 4, 112, 1, .null), none, none, some (.ifCond .ne 6, 7, 10, 0, .null), none, none, some (.ldc 70, 9, 0, 0, .int (-1000000001)), none, some (.ireturn, 10, 0, 0, .null), some (.aload_n 0, 11, 0, 0, .null), some (.getfield 47, 14, 6, 6, .null), none, none, some (.iload_n 1, 15, 1, 0, .null), some (.aaload, 16, 0, 0, .null)],
 [some (.getfield 265, 19, 2, 1, .int 0), none, none, some (.ifCond .ne 9, 22, 28, 0, .null), none, none, some (.ldc_w 268, 25, 0, 0, .int (-1000000006)), none, none, some (.goto 4, 28, 29, 0, .null), none, none, some (.iconst 0, 29, 0, 0, .int (0)), some (.ireturn, 30, 0, 0, .null)]],
  2, (some .int), 6, 103)
def kX6_sheetAndLineFinding : aM := ([[some (.aload_n 0, 1, 0, 0, .null), some (.iload_n 1, 2, 1, 0, .null), some (.invokevirtual 254, 5, 103, 2, .retAddr 6), none, none, some (.istore_n 3, 6, 3, 0, .null), some (.iload_n 3, 7, 3, 0, .null), some (.ifCond .ne 13, 10, 20, 0, .null), none, none, some (.iload_n 2, 11, 2, 0, .null), some (.invokestatic 60, 14, 106, 1, .null), none, none, some (.ifCond .ne 6, 17, 20, 0, .null), none],
 [none, some (.ldc 70, 19, 0, 0, .int (-1000000001)), none, some (.ireturn, 20, 0, 0, .null), some (.iload_n 3, 21, 3, 0, .null), some (.ireturn, 22, 0, 0, .null)]],
  4, (some .int), 6, 104)
def kX6_isWithin : aM := ([[some (.iload_n 0, 1, 0, 0, .null), some (.iload_n 1, 2, 1, 0, .null), some (.if_icmp .lt 12, 5, 14, 0, .null), none, none, some (.iload_n 0, 6, 0, 0, .null), some (.iload_n 2, 7, 2, 0, .null), some (.if_icmp .gt 7, 10, 14, 0, .null), none, none, some (.iconst 1, 11, 0, 0, .int (1)), some (.goto 4, 14, 15, 0, .null), none, none, some (.iconst 0, 15, 0, 0, .int (0)), some (.ireturn, 16, 0, 0, .null)]],
  3, (some .boolean), 6, 105)
def kX6_isLine : aM := ([[some (.iload_n 0, 1, 0, 0, .null), some (.iconst 0, 2, 0, 0, .int (0)), some (.iconst 3, 3, 0, 0, .int (3)), some (.invokestatic 117, 6, 105, 3, .null), none, none, some (.ireturn, 7, 0, 0, .null)]],
  1, (some .boolean), 6, 106)
def kX6_isKind : aM := ([[some (.iload_n 0, 1, 0, 0, .null), some (.iconst 0, 2, 0, 0, .int (0)), some (.iconst 5, 3, 0, 0, .int (5)), some (.invokestatic 117, 6, 105, 3, .null), none, none, some (.ireturn, 7, 0, 0, .null)]],
  1, (some .boolean), 6, 107)
def kX6_isSize : aM := ([[some (.iload_n 0, 1, 0, 0, .null), some (.iconst 1, 2, 0, 0, .int (1)), some (.bipush 9, 4, 0, 0, .int (9)), none, some (.invokestatic 117, 7, 105, 3, .null), none, none, some (.ireturn, 8, 0, 0, .null)]],
  1, (some .boolean), 6, 108)
def kX6_isWind : aM := ([[some (.iload_n 0, 1, 0, 0, .null), some (.iconst 0, 2, 0, 0, .int (0)), some (.bipush 20, 4, 0, 0, .int (20)), none, some (.invokestatic 117, 7, 105, 3, .null), none, none, some (.ireturn, 8, 0, 0, .null)]],
  1, (some .boolean), 6, 109)
def kX6_isMeaning : aM := ([[some (.iload_n 0, 1, 0, 0, .null), some (.iconst 0, 2, 0, 0, .int (0)), some (.bipush 9, 4, 0, 0, .int (9)), none, some (.invokestatic 117, 7, 105, 3, .null), none, none, some (.ireturn, 8, 0, 0, .null)]],
  1, (some .boolean), 6, 110)
def kX6_isWorth : aM := ([[some (.iload_n 0, 1, 0, 0, .null), some (.sipush (-9999), 4, 0, 0, .int (-9999)), none, none, some (.sipush 9999, 7, 0, 0, .int (9999)), none, none, some (.invokestatic 117, 10, 105, 3, .null), none, none, some (.ireturn, 11, 0, 0, .null)]],
  1, (some .boolean), 6, 111)
def kX6_isSheet : aM := ([[some (.iload_n 0, 1, 0, 0, .null), some (.iconst 0, 2, 0, 0, .int (0)), some (.iconst 3, 3, 0, 0, .int (3)), some (.invokestatic 117, 6, 105, 3, .null), none, none, some (.ireturn, 7, 0, 0, .null)]],
  1, (some .boolean), 6, 112)
def kX6_isBits : aM := ([[some (.iload_n 0, 1, 0, 0, .null), some (.ifCond .eq 21, 4, 22, 0, .null), none, none, some (.iload_n 0, 5, 0, 0, .null), some (.bipush 8, 7, 0, 0, .int (8)), none, some (.if_icmp .eq 15, 10, 22, 0, .null), none, none, some (.iload_n 0, 11, 0, 0, .null), some (.bipush 16, 13, 0, 0, .int (16)), none, some (.if_icmp .eq 9, 16, 22, 0, .null), none, none],
 [some (.iload_n 0, 17, 0, 0, .null), some (.bipush 64, 19, 0, 0, .int (64)), none, some (.if_icmp .ne 7, 22, 26, 0, .null), none, none, some (.iconst 1, 23, 0, 0, .int (1)), some (.goto 4, 26, 27, 0, .null), none, none, some (.iconst 0, 27, 0, 0, .int (0)), some (.ireturn, 28, 0, 0, .null)]],
  1, (some .boolean), 6, 113)
def kX6_isGarmentCode : aM := ([[some (.lload_n 0, 1, 0, 0, .null), some (.lconst 0, 2, 0, 0, .long 0), some (.lcmp, 3, 0, 0, .null), some (.ifCond .le 25, 6, 28, 0, .null), none, none, some (.lload_n 0, 7, 0, 0, .null), some (.ldc2_w 288, 10, 0, 0, .long (60)), none, none, some (.lcmp, 11, 0, 0, .null), some (.ifCond .ge 17, 14, 28, 0, .null), none, none, some (.lload_n 0, 15, 0, 0, .null), some (.ldc2_w 290, 18, 0, 0, .long (10))],
 [none, none, some (.lrem, 19, 0, 0, .null), some (.lconst 0, 20, 0, 0, .long 0), some (.lcmp, 21, 0, 0, .null), some (.ifCond .eq 7, 24, 28, 0, .null), none, none, some (.iconst 1, 25, 0, 0, .int (1)), some (.goto 4, 28, 29, 0, .null), none, none, some (.iconst 0, 29, 0, 0, .int (0)), some (.ireturn, 30, 0, 0, .null)]],
  2, (some .boolean), 6, 114)
def kX6_isOfKind : aM := ([[some (.iload_n 0, 1, 0, 0, .null), some (.istore_n 2, 2, 2, 0, .null), some (.iconst 0, 3, 0, 0, .int (0)), some (.istore_n 3, 4, 3, 0, .null), some (.iload_n 3, 5, 3, 0, .null), some (.bipush 6, 7, 0, 0, .int (6)), none, some (.if_icmp .ge 29, 10, 36, 0, .null), none, none, some (.iload_n 2, 11, 2, 0, .null), some (.invokestatic 64, 14, 107, 1, .null), none, none, some (.ifCond .eq 22, 17, 36, 0, .null), none],
 [none, some (.iload_n 2, 18, 2, 0, .null), some (.iload_n 1, 19, 1, 0, .null), some (.if_icmp .ne 5, 22, 24, 0, .null), none, none, some (.iconst 1, 23, 0, 0, .int (1)), some (.ireturn, 24, 0, 0, .null), some (.getstatic 292, 27, 0, 0, .retAddr 0), none, none, some (.iload_n 2, 28, 2, 0, .null), some (.iaload, 29, 0, 0, .null), some (.istore_n 2, 30, 2, 0, .null), some (.iinc 3 1, 33, 3, 0, .int (1)), none],
 [none, some (.goto (-29), 36, 4, 0, .null), none, none, some (.iconst 0, 37, 0, 0, .int (0)), some (.ireturn, 38, 0, 0, .null)]],
  4, (some .boolean), 6, 115)
def kX6_isSeen : aM := ([[some (.iload_n 1, 1, 1, 0, .null), some (.iload_n 2, 2, 2, 0, .null), some (.iadd, 3, 0, 0, .null), some (.istore 4, 5, 4, 0, .null), none, some (.iload_n 0, 6, 0, 0, .null), some (.tableswitch 64 1 5 #[34, 48, 64, 34, 62], 40, 0, 0, .null), none, none, none, none, none, none, none, none, none],
 [none, none, none, none, none, none, none, none, none, none, none, none, none, none, none, none],
 [none, none, none, none, none, none, none, none, some (.iconst 2, 41, 0, 0, .int (2)), some (.iload 4, 43, 4, 0, .null), none, some (.imul, 44, 0, 0, .null), some (.iload_n 3, 45, 3, 0, .null), some (.if_icmp .lt 7, 48, 52, 0, .null), none, none],
 [some (.iconst 1, 49, 0, 0, .int (1)), some (.goto 4, 52, 53, 0, .null), none, none, some (.iconst 0, 53, 0, 0, .int (0)), some (.ireturn, 54, 0, 0, .null), some (.iload 4, 56, 4, 0, .null), none, some (.iconst 3, 57, 0, 0, .int (3)), some (.iadd, 58, 0, 0, .null), some (.iload_n 3, 59, 3, 0, .null), some (.if_icmp .lt 7, 62, 66, 0, .null), none, none, some (.iconst 1, 63, 0, 0, .int (1)), some (.goto 4, 66, 67, 0, .null)],
 [none, none, some (.iconst 0, 67, 0, 0, .int (0)), some (.ireturn, 68, 0, 0, .null), some (.iconst 1, 69, 0, 0, .int (1)), some (.ireturn, 70, 0, 0, .null), some (.iload 4, 72, 4, 0, .null), none, some (.iload_n 3, 73, 3, 0, .null), some (.if_icmp .lt 7, 76, 80, 0, .null), none, none, some (.iconst 1, 77, 0, 0, .int (1)), some (.goto 4, 80, 81, 0, .null), none, none],
 [some (.iconst 0, 81, 0, 0, .int (0)), some (.ireturn, 82, 0, 0, .null)]],
  5, (some .boolean), 6, 116)
def kX6_worthAfter : aM := ([[some (.iload_n 2, 1, 2, 0, .null), some (.tableswitch 90 1 5 #[35, 45, 54, 61, 71], 36, 0, 0, .null), none, none, none, none, none, none, none, none, none, none, none, none, none, none],
 [none, none, none, none, none, none, none, none, none, none, none, none, none, none, none, none],
 [none, none, none, none, some (.iload_n 0, 37, 0, 0, .null), some (.bipush 10, 39, 0, 0, .int (10)), none, some (.iload_n 3, 40, 3, 0, .null), some (.imul, 41, 0, 0, .null), some (.iadd, 42, 0, 0, .null), some (.invokestatic 295, 45, 119, 1, .null), none, none, some (.ireturn, 46, 0, 0, .null), some (.iload_n 0, 47, 0, 0, .null), some (.iconst 1, 48, 0, 0, .int (1))],
 [some (.iadd, 49, 0, 0, .null), some (.iload_n 1, 50, 1, 0, .null), some (.iadd, 51, 0, 0, .null), some (.invokestatic 295, 54, 119, 1, .null), none, none, some (.ireturn, 55, 0, 0, .null), some (.iconst 2, 56, 0, 0, .int (2)), some (.iload_n 0, 57, 0, 0, .null), some (.imul, 58, 0, 0, .null), some (.invokestatic 295, 61, 119, 1, .null), none, none, some (.ireturn, 62, 0, 0, .null), some (.iload_n 0, 63, 0, 0, .null), some (.bipush 10, 65, 0, 0, .int (10))],
 [none, some (.iload_n 3, 66, 3, 0, .null), some (.imul, 67, 0, 0, .null), some (.isub, 68, 0, 0, .null), some (.invokestatic 295, 71, 119, 1, .null), none, none, some (.ireturn, 72, 0, 0, .null), some (.iload_n 0, 73, 0, 0, .null), some (.iconst 1, 74, 0, 0, .int (1)), some (.iand, 75, 0, 0, .null), some (.ifCond .ne 7, 78, 82, 0, .null), none, none, some (.iload_n 0, 79, 0, 0, .null), some (.goto 11, 82, 90, 0, .null)],
 [none, none, some (.iload_n 0, 83, 0, 0, .null), some (.iconst 1, 84, 0, 0, .int (1)), some (.iadd, 85, 0, 0, .null), some (.iload_n 1, 86, 1, 0, .null), some (.iadd, 87, 0, 0, .null), some (.invokestatic 295, 90, 119, 1, .null), none, none, some (.ireturn, 91, 0, 0, .null), some (.iload_n 0, 92, 0, 0, .null), some (.iload_n 3, 93, 3, 0, .null), some (.iadd, 94, 0, 0, .null), some (.invokestatic 295, 97, 119, 1, .null), none],
 [none, some (.ireturn, 98, 0, 0, .null)]],
  4, (some .int), 6, 117)
def kX6_stockingsAfter : aM := ([[some (.iload_n 1, 1, 1, 0, .null), some (.iconst 2, 2, 0, 0, .int (2)), some (.if_icmp .eq 8, 5, 10, 0, .null), none, none, some (.iload_n 1, 6, 1, 0, .null), some (.iconst 5, 7, 0, 0, .int (5)), some (.if_icmp .ne 9, 10, 16, 0, .null), none, none, some (.iload_n 0, 11, 0, 0, .null), some (.iconst 1, 12, 0, 0, .int (1)), some (.iadd, 13, 0, 0, .null), some (.goto 4, 16, 17, 0, .null), none, none],
 [some (.iconst 0, 17, 0, 0, .int (0)), some (.ireturn, 18, 0, 0, .null)]],
  2, (some .int), 6, 118)
def kX6_held : aM := ([[some (.iload_n 0, 1, 0, 0, .null), some (.sipush 9999, 4, 0, 0, .int (9999)), none, none, some (.if_icmp .le 7, 7, 11, 0, .null), none, none, some (.sipush 9999, 10, 0, 0, .int (9999)), none, none, some (.ireturn, 11, 0, 0, .null), some (.iload_n 0, 12, 0, 0, .null), some (.sipush (-9999), 15, 0, 0, .int (-9999)), none, none, some (.if_icmp .ge 9, 18, 24, 0, .null)],
 [none, none, some (.sipush (-9999), 21, 0, 0, .int (-9999)), none, none, some (.goto 4, 24, 25, 0, .null), none, none, some (.iload_n 0, 25, 0, 0, .null), some (.ireturn, 26, 0, 0, .null)]],
  1, (some .int), 6, 119)
def kX6_worthOf : aM := ([[some (.aload_n 0, 1, 0, 0, .null), some (.getfield 25, 4, 6, 3, .null), none, none, some (.iload_n 2, 5, 2, 0, .null), some (.invokevirtual 298, 8, 50, 2, .retAddr 5), none, none, some (.aload_n 0, 9, 0, 0, .null), some (.getfield 25, 12, 6, 3, .null), none, none, some (.aload_n 1, 13, 1, 0, .null), some (.iconst 0, 14, 0, 0, .int (0)), some (.aload_n 1, 15, 1, 0, .null), some (.getfield 79, 18, 1, 3, .int 0)],
 [none, none, some (.iconst 0, 19, 0, 0, .int (0)), some (.invokevirtual 300, 22, 51, 5, .retAddr 5), none, none, some (.aload_n 0, 23, 0, 0, .null), some (.getfield 25, 26, 6, 3, .null), none, none, some (.getfield 304, 29, 5, 0, .int 0), none, none, some (.ireturn, 30, 0, 0, .null)]],
  3, (some .int), 6, 120)
def kX6_worthBehind : aM := ([[some (.aload_n 0, 1, 0, 0, .null), some (.getfield 25, 4, 6, 3, .null), none, none, some (.aload_n 0, 5, 0, 0, .null), some (.getfield 10, 8, 6, 0, .null), none, none, some (.getfield 107, 11, 4, 2, .int 0), none, none, some (.invokevirtual 298, 14, 50, 2, .retAddr 5), none, none, some (.aload_n 0, 15, 0, 0, .null), some (.getfield 25, 18, 6, 3, .null)],
 [none, none, some (.aload_n 1, 19, 1, 0, .null), some (.iconst 0, 20, 0, 0, .int (0)), some (.iload_n 2, 21, 2, 0, .null), some (.iconst 1, 22, 0, 0, .int (1)), some (.iadd, 23, 0, 0, .null), some (.iconst 0, 24, 0, 0, .int (0)), some (.invokevirtual 300, 27, 51, 5, .retAddr 5), none, none, some (.aload_n 0, 28, 0, 0, .null), some (.getfield 25, 31, 6, 3, .null), none, none, some (.getfield 304, 34, 5, 0, .int 0)],
 [none, none, some (.ireturn, 35, 0, 0, .null)]],
  3, (some .int), 6, 121)
def kX6_worthJoined : aM := ([[some (.aload_n 0, 1, 0, 0, .null), some (.getfield 25, 4, 6, 3, .null), none, none, some (.aload_n 0, 5, 0, 0, .null), some (.getfield 10, 8, 6, 0, .null), none, none, some (.getfield 107, 11, 4, 2, .int 0), none, none, some (.invokevirtual 298, 14, 50, 2, .retAddr 5), none, none, some (.aload_n 0, 15, 0, 0, .null), some (.getfield 25, 18, 6, 3, .null)],
 [none, none, some (.aload_n 1, 19, 1, 0, .null), some (.iconst 0, 20, 0, 0, .int (0)), some (.aload_n 1, 21, 1, 0, .null), some (.getfield 79, 24, 1, 3, .int 0), none, none, some (.iconst 0, 25, 0, 0, .int (0)), some (.invokevirtual 300, 28, 51, 5, .retAddr 5), none, none, some (.aload_n 0, 29, 0, 0, .null), some (.getfield 25, 32, 6, 3, .null), none, none],
 [some (.aload_n 2, 33, 2, 0, .null), some (.iload_n 3, 34, 3, 0, .null), some (.aload_n 2, 35, 2, 0, .null), some (.getfield 79, 38, 1, 3, .int 0), none, none, some (.iconst 0, 39, 0, 0, .int (0)), some (.invokevirtual 300, 42, 51, 5, .retAddr 5), none, none, some (.aload_n 0, 43, 0, 0, .null), some (.getfield 25, 46, 6, 3, .null), none, none, some (.getfield 304, 49, 5, 0, .int 0), none],
 [none, some (.ireturn, 50, 0, 0, .null)]],
  4, (some .int), 6, 122)
def kX6_readNow : aM := ([[some (.aload_n 0, 1, 0, 0, .null), some (.getfield 10, 4, 6, 0, .null), none, none, some (.aload_n 0, 5, 0, 0, .null), some (.aload_n 1, 6, 1, 0, .null), some (.aload_n 0, 7, 0, 0, .null), some (.getfield 10, 10, 6, 0, .null), none, none, some (.getfield 107, 13, 4, 2, .int 0), none, none, some (.invokevirtual 174, 16, 120, 3, .retAddr 6), none, none],
 [some (.invokevirtual 164, 19, 47, 2, .retAddr 4), none, none, some (.ireturn, 20, 0, 0, .null)]],
  2, (some .int), 6, 123)
def kX6_readWithout : aM := ([[some (.aload_n 0, 1, 0, 0, .null), some (.getfield 25, 4, 6, 3, .null), none, none, some (.aload_n 0, 5, 0, 0, .null), some (.getfield 10, 8, 6, 0, .null), none, none, some (.getfield 107, 11, 4, 2, .int 0), none, none, some (.invokevirtual 298, 14, 50, 2, .retAddr 5), none, none, some (.aload_n 0, 15, 0, 0, .null), some (.getfield 25, 18, 6, 3, .null)],
 [none, none, some (.aload_n 1, 19, 1, 0, .null), some (.iconst 0, 20, 0, 0, .int (0)), some (.aload_n 1, 21, 1, 0, .null), some (.getfield 79, 24, 1, 3, .int 0), none, none, some (.iload_n 2, 25, 2, 0, .null), some (.invokevirtual 300, 28, 51, 5, .retAddr 5), none, none, some (.aload_n 0, 29, 0, 0, .null), some (.getfield 10, 32, 6, 0, .null), none, none],
 [some (.aload_n 0, 33, 0, 0, .null), some (.getfield 25, 36, 6, 3, .null), none, none, some (.getfield 304, 39, 5, 0, .int 0), none, none, some (.invokevirtual 164, 42, 47, 2, .retAddr 4), none, none, some (.ireturn, 43, 0, 0, .null)]],
  3, (some .int), 6, 124)
def kX6_readWithOneMore : aM := ([[some (.aload_n 0, 1, 0, 0, .null), some (.getfield 25, 4, 6, 3, .null), none, none, some (.aload_n 0, 5, 0, 0, .null), some (.getfield 10, 8, 6, 0, .null), none, none, some (.getfield 107, 11, 4, 2, .int 0), none, none, some (.invokevirtual 298, 14, 50, 2, .retAddr 5), none, none, some (.aload_n 0, 15, 0, 0, .null), some (.getfield 25, 18, 6, 3, .null)],
 [none, none, some (.aload_n 1, 19, 1, 0, .null), some (.iconst 0, 20, 0, 0, .int (0)), some (.aload_n 1, 21, 1, 0, .null), some (.getfield 79, 24, 1, 3, .int 0), none, none, some (.iconst 0, 25, 0, 0, .int (0)), some (.invokevirtual 300, 28, 51, 5, .retAddr 5), none, none, some (.aload_n 0, 29, 0, 0, .null), some (.getfield 25, 32, 6, 3, .null), none, none],
 [some (.iload_n 2, 33, 2, 0, .null), some (.bipush 10, 35, 0, 0, .int (10)), none, some (.idiv, 36, 0, 0, .null), some (.iload_n 2, 37, 2, 0, .null), some (.bipush 10, 39, 0, 0, .int (10)), none, some (.irem, 40, 0, 0, .null), some (.iconst 0, 41, 0, 0, .int (0)), some (.invokevirtual 307, 44, 52, 4, .retAddr 5), none, none, some (.aload_n 0, 45, 0, 0, .null), some (.getfield 10, 48, 6, 0, .null), none, none],
 [some (.aload_n 0, 49, 0, 0, .null), some (.getfield 25, 52, 6, 3, .null), none, none, some (.getfield 304, 55, 5, 0, .int 0), none, none, some (.invokevirtual 164, 58, 47, 2, .retAddr 4), none, none, some (.ireturn, 59, 0, 0, .null)]],
  3, (some .int), 6, 125)
def kX6_windsReadAs : aM := ([[some (.iconst 0, 1, 0, 0, .int (0)), some (.istore_n 3, 2, 3, 0, .null), some (.iconst 0, 3, 0, 0, .int (0)), some (.istore 4, 5, 4, 0, .null), none, some (.iload 4, 7, 4, 0, .null), none, some (.bipush 20, 9, 0, 0, .int (20)), none, some (.if_icmp .gt 34, 12, 43, 0, .null), none, none, some (.aload_n 0, 13, 0, 0, .null), some (.getfield 10, 16, 6, 0, .null), none, none],
 [some (.aload_n 0, 17, 0, 0, .null), some (.aload_n 1, 18, 1, 0, .null), some (.iload 4, 20, 4, 0, .null), none, some (.invokevirtual 174, 23, 120, 3, .retAddr 6), none, none, some (.invokevirtual 164, 26, 47, 2, .retAddr 4), none, none, some (.iload_n 2, 27, 2, 0, .null), some (.if_icmp .ne 10, 30, 37, 0, .null), none, none, some (.iload_n 3, 31, 3, 0, .null), some (.iconst 1, 32, 0, 0, .int (1))],
 [some (.iload 4, 34, 4, 0, .null), none, some (.ishl, 35, 0, 0, .null), some (.ior, 36, 0, 0, .null), some (.istore_n 3, 37, 3, 0, .null), some (.iinc 4 1, 40, 4, 0, .int (1)), none, none, some (.goto (-35), 43, 5, 0, .null), none, none, some (.iload_n 3, 44, 3, 0, .null), some (.ireturn, 45, 0, 0, .null)]],
  5, (some .int), 6, 126)
def kX6_fewestOff : aM := ([[some (.iconst (-1), 1, 0, 0, .int (-1)), some (.istore_n 3, 2, 3, 0, .null), some (.bipush 8, 4, 0, 0, .int (8)), none, some (.istore 4, 6, 4, 0, .null), none, some (.iconst 1, 7, 0, 0, .int (1)), some (.aload_n 1, 8, 1, 0, .null), some (.getfield 79, 11, 1, 3, .int 0), none, none, some (.ishl, 12, 0, 0, .null), some (.istore 5, 14, 5, 0, .null), none, some (.iconst 0, 15, 0, 0, .int (0)), some (.istore 6, 17, 6, 0, .null)],
 [none, some (.iload 6, 19, 6, 0, .null), none, some (.iload 5, 21, 5, 0, .null), none, some (.if_icmp .ge 41, 24, 62, 0, .null), none, none, some (.iload 6, 26, 6, 0, .null), none, some (.invokestatic 190, 29, 231, 1, .null), none, none, some (.istore 7, 31, 7, 0, .null), none, some (.iload 7, 33, 7, 0, .null)],
 [none, some (.iload 4, 35, 4, 0, .null), none, some (.if_icmp .ge 21, 38, 56, 0, .null), none, none, some (.aload_n 0, 39, 0, 0, .null), some (.aload_n 1, 40, 1, 0, .null), some (.iload 6, 42, 6, 0, .null), none, some (.invokevirtual 184, 45, 124, 3, .retAddr 6), none, none, some (.iload_n 2, 46, 2, 0, .null), some (.if_icmp .ne 10, 49, 56, 0, .null), none],
 [none, some (.iload 6, 51, 6, 0, .null), none, some (.istore_n 3, 52, 3, 0, .null), some (.iload 7, 54, 7, 0, .null), none, some (.istore 4, 56, 4, 0, .null), none, some (.iinc 6 1, 59, 6, 0, .int (1)), none, none, some (.goto (-42), 62, 17, 0, .null), none, none, some (.iload_n 3, 63, 3, 0, .null), some (.ireturn, 64, 0, 0, .null)]],
  8, (some .int), 6, 127)
def kX7_init : aM := ([[some (.aload_n 0, 1, 0, 0, .null), some (.invokespecial 1, 4, 900, 1, .null), none, none, some (.aload_n 0, 5, 0, 0, .null), some (.bipush 110, 7, 0, 0, .int (110)), none, some (.newarray .int, 9, 0, 0, .null), none, some (.putfield 7, 12, 7, 0, .null), none, none, some (.aload_n 0, 13, 0, 0, .null), some (.bipush 110, 15, 0, 0, .int (110)), none, some (.newarray .int, 17, 0, 0, .null)],
 [none, some (.putfield 13, 20, 7, 1, .null), none, none, some (.aload_n 0, 21, 0, 0, .null), some (.bipush 110, 23, 0, 0, .int (110)), none, some (.newarray .int, 25, 0, 0, .null), none, some (.putfield 16, 28, 7, 2, .null), none, none, some (.aload_n 0, 29, 0, 0, .null), some (.bipush 8, 31, 0, 0, .int (8)), none, some (.newarray .int, 33, 0, 0, .null)],
 [none, some (.putfield 19, 36, 7, 4, .null), none, none, some (.aload_n 0, 37, 0, 0, .null), some (.bipush 120, 39, 0, 0, .int (120)), none, some (.newarray .int, 41, 0, 0, .null), none, some (.putfield 22, 44, 7, 5, .null), none, none, some (.aload_n 0, 45, 0, 0, .null), some (.iconst 4, 46, 0, 0, .int (4)), some (.newarray .int, 48, 0, 0, .null), none],
 [some (.dup, 49, 0, 0, .null), some (.iconst 0, 50, 0, 0, .int (0)), some (.iconst (-1), 51, 0, 0, .int (-1)), some (.iastore, 52, 0, 0, .null), some (.dup, 53, 0, 0, .null), some (.iconst 1, 54, 0, 0, .int (1)), some (.iconst (-1), 55, 0, 0, .int (-1)), some (.iastore, 56, 0, 0, .null), some (.dup, 57, 0, 0, .null), some (.iconst 2, 58, 0, 0, .int (2)), some (.iconst (-1), 59, 0, 0, .int (-1)), some (.iastore, 60, 0, 0, .null), some (.dup, 61, 0, 0, .null), some (.iconst 3, 62, 0, 0, .int (3)), some (.iconst (-1), 63, 0, 0, .int (-1)), some (.iastore, 64, 0, 0, .null)],
 [some (.putfield 25, 67, 7, 7, .null), none, none, some (.aload_n 0, 68, 0, 0, .null), some (.iconst 4, 69, 0, 0, .int (4)), some (.newarray .int, 71, 0, 0, .null), none, some (.putfield 28, 74, 7, 8, .null), none, none, some (.aload_n 0, 75, 0, 0, .null), some (.sipush 160, 78, 0, 0, .int (160)), none, none, some (.newarray .long, 80, 0, 0, .null), none],
 [some (.putfield 31, 83, 7, 9, .null), none, none, some (.aload_n 0, 84, 0, 0, .null), some (.bipush 45, 86, 0, 0, .int (45)), none, some (.newarray .int, 88, 0, 0, .null), none, some (.putfield 35, 91, 7, 10, .null), none, none, some (.aload_n 0, 92, 0, 0, .null), some (.bipush 7, 94, 0, 0, .int (7)), none, some (.newarray .int, 96, 0, 0, .null), none],
 [some (.putfield 38, 99, 7, 12, .null), none, none, some (.aload_n 0, 100, 0, 0, .null), some (.bipush 7, 102, 0, 0, .int (7)), none, some (.newarray .int, 104, 0, 0, .null), none, some (.putfield 41, 107, 7, 13, .null), none, none, some (.aload_n 0, 108, 0, 0, .null), some (.sipush 19999, 111, 0, 0, .int (19999)), none, none, some (.newarray .int, 113, 0, 0, .null)],
 [none, some (.putfield 44, 116, 7, 14, .null), none, none, some (.return_, 117, 0, 0, .null)]],
  1, none, 7, 128)
def kX7_isIn : aM := ([[some (.lload_n 0, 1, 0, 0, .null), some (.lload_n 2, 2, 2, 0, .null), some (.lcmp, 3, 0, 0, .null), some (.ifCond .lt 14, 6, 17, 0, .null), none, none, some (.lload_n 0, 7, 0, 0, .null), some (.lload 4, 9, 4, 0, .null), none, some (.lcmp, 10, 0, 0, .null), some (.ifCond .gt 7, 13, 17, 0, .null), none, none, some (.iconst 1, 14, 0, 0, .int (1)), some (.goto 4, 17, 18, 0, .null), none],
 [none, some (.iconst 0, 18, 0, 0, .int (0)), some (.ireturn, 19, 0, 0, .null)]],
  6, (some .boolean), 7, 129)
def kX7_finds : aM := ([[some (.aload_n 0, 1, 0, 0, .null), some (.getfield 19, 4, 7, 4, .null), none, none, some (.iconst 0, 5, 0, 0, .int (0)), some (.dup2, 6, 0, 0, .null), some (.iaload, 7, 0, 0, .null), some (.iconst 1, 8, 0, 0, .int (1)), some (.iadd, 9, 0, 0, .null), some (.iastore, 10, 0, 0, .null), some (.aload_n 0, 11, 0, 0, .null), some (.getfield 19, 14, 7, 4, .null), none, none, some (.ldc 47, 16, 0, 0, .int (-1000000001)), none],
 [some (.iload_n 1, 17, 1, 0, .null), some (.isub, 18, 0, 0, .null), some (.iconst 1, 19, 0, 0, .int (1)), some (.iadd, 20, 0, 0, .null), some (.dup2, 21, 0, 0, .null), some (.iaload, 22, 0, 0, .null), some (.iconst 1, 23, 0, 0, .int (1)), some (.iadd, 24, 0, 0, .null), some (.iastore, 25, 0, 0, .null), some (.iload_n 1, 26, 1, 0, .null), some (.ireturn, 27, 0, 0, .null)]],
  2, (some .int), 7, 130)
def kX7_becomes : aM := ([[some (.aload_n 0, 1, 0, 0, .null), some (.getfield 7, 4, 7, 0, .null), none, none, some (.iload_n 1, 5, 1, 0, .null), some (.iaload, 6, 0, 0, .null), some (.istore_n 3, 7, 3, 0, .null), some (.aload_n 0, 8, 0, 0, .null), some (.getfield 7, 11, 7, 0, .null), none, none, some (.iload_n 1, 12, 1, 0, .null), some (.iload_n 2, 13, 2, 0, .null), some (.iastore, 14, 0, 0, .null), some (.iload_n 3, 15, 3, 0, .null), some (.ireturn, 16, 0, 0, .null)]],
  4, (some .int), 7, 131)
def kX7_isLine : aM := ([[some (.iload_n 0, 1, 0, 0, .null), some (.ifCond .lt 12, 4, 13, 0, .null), none, none, some (.iload_n 0, 5, 0, 0, .null), some (.iconst 4, 6, 0, 0, .int (4)), some (.if_icmp .ge 7, 9, 13, 0, .null), none, none, some (.iconst 1, 10, 0, 0, .int (1)), some (.goto 4, 13, 14, 0, .null), none, none, some (.iconst 0, 14, 0, 0, .int (0)), some (.ireturn, 15, 0, 0, .null)]],
  1, (some .boolean), 7, 132)
def kX7_isPeg : aM := ([[some (.iload_n 1, 1, 1, 0, .null), some (.invokestatic 48, 4, 132, 1, .null), none, none, some (.ifCond .eq 23, 7, 27, 0, .null), none, none, some (.iload_n 2, 8, 2, 0, .null), some (.ifCond .lt 19, 11, 27, 0, .null), none, none, some (.iload_n 2, 12, 2, 0, .null), some (.aload_n 0, 13, 0, 0, .null), some (.getfield 7, 16, 7, 0, .null), none, none],
 [some (.iconst 0, 17, 0, 0, .int (0)), some (.iload_n 1, 18, 1, 0, .null), some (.iadd, 19, 0, 0, .null), some (.iaload, 20, 0, 0, .null), some (.if_icmp .ge 7, 23, 27, 0, .null), none, none, some (.iconst 1, 24, 0, 0, .int (1)), some (.goto 4, 27, 28, 0, .null), none, none, some (.iconst 0, 28, 0, 0, .int (0)), some (.ireturn, 29, 0, 0, .null)]],
  3, (some .boolean), 7, 133)
def kX7_isMeaning : aM := ([[some (.iload_n 0, 1, 0, 0, .null), some (.ifCond .lt 13, 4, 14, 0, .null), none, none, some (.iload_n 0, 5, 0, 0, .null), some (.bipush 10, 7, 0, 0, .int (10)), none, some (.if_icmp .ge 7, 10, 14, 0, .null), none, none, some (.iconst 1, 11, 0, 0, .int (1)), some (.goto 4, 14, 15, 0, .null), none, none, some (.iconst 0, 15, 0, 0, .int (0)), some (.ireturn, 16, 0, 0, .null)]],
  1, (some .boolean), 7, 134)
def kX7_placeOf : aM := ([[some (.bipush 26, 2, 0, 0, .int (26)), none, some (.iconst 3, 3, 0, 0, .int (3)), some (.bipush 7, 5, 0, 0, .int (7)), none, some (.iload_n 0, 6, 0, 0, .null), some (.imul, 7, 0, 0, .null), some (.iload_n 1, 8, 1, 0, .null), some (.iadd, 9, 0, 0, .null), some (.imul, 10, 0, 0, .null), some (.iadd, 11, 0, 0, .null), some (.ireturn, 12, 0, 0, .null)]],
  2, (some .int), 7, 135)
def kX7_copyRow : aM := ([[some (.iconst 0, 1, 0, 0, .int (0)), some (.istore_n 2, 2, 2, 0, .null), some (.iload_n 2, 3, 2, 0, .null), some (.bipush 110, 5, 0, 0, .int (110)), none, some (.if_icmp .ge 15, 8, 20, 0, .null), none, none, some (.aload_n 1, 9, 1, 0, .null), some (.iload_n 2, 10, 2, 0, .null), some (.aload_n 0, 11, 0, 0, .null), some (.iload_n 2, 12, 2, 0, .null), some (.iaload, 13, 0, 0, .null), some (.iastore, 14, 0, 0, .null), some (.iinc 2 1, 17, 2, 0, .int (1)), none],
 [none, some (.goto (-15), 20, 2, 0, .null), none, none, some (.return_, 21, 0, 0, .null)]],
  3, none, 7, 136)
def kX7_apartBy : aM := ([[some (.iload_n 0, 1, 0, 0, .null), some (.iload_n 1, 2, 1, 0, .null), some (.if_icmp .ge 9, 5, 11, 0, .null), none, none, some (.iload_n 1, 6, 1, 0, .null), some (.iload_n 0, 7, 0, 0, .null), some (.isub, 8, 0, 0, .null), some (.goto 6, 11, 14, 0, .null), none, none, some (.iload_n 0, 12, 0, 0, .null), some (.iload_n 1, 13, 1, 0, .null), some (.isub, 14, 0, 0, .null), some (.ireturn, 15, 0, 0, .null)]],
  2, (some .int), 7, 137)
def kX7_hangs : aM := ([[some (.iload_n 1, 1, 1, 0, .null), some (.aload_n 0, 2, 0, 0, .null), some (.getfield 7, 5, 7, 0, .null), none, none, some (.iconst 0, 6, 0, 0, .int (0)), some (.iload_n 1, 7, 1, 0, .null), some (.iadd, 8, 0, 0, .null), some (.iaload, 9, 0, 0, .null), some (.invokestatic 52, 12, 135, 2, .null), none, none, some (.istore 5, 14, 5, 0, .null), none, some (.aload_n 0, 15, 0, 0, .null), some (.getfield 7, 18, 7, 0, .null)],
 [none, none, some (.iload 5, 20, 5, 0, .null), none, some (.iload_n 2, 21, 2, 0, .null), some (.iastore, 22, 0, 0, .null), some (.aload_n 0, 23, 0, 0, .null), some (.getfield 7, 26, 7, 0, .null), none, none, some (.iload 5, 28, 5, 0, .null), none, some (.iconst 1, 29, 0, 0, .int (1)), some (.iadd, 30, 0, 0, .null), some (.iload_n 3, 31, 3, 0, .null), some (.iastore, 32, 0, 0, .null)],
 [some (.aload_n 0, 33, 0, 0, .null), some (.getfield 7, 36, 7, 0, .null), none, none, some (.iload 5, 38, 5, 0, .null), none, some (.iconst 2, 39, 0, 0, .int (2)), some (.iadd, 40, 0, 0, .null), some (.iload 4, 42, 4, 0, .null), none, some (.iastore, 43, 0, 0, .null), some (.aload_n 0, 44, 0, 0, .null), some (.getfield 7, 47, 7, 0, .null), none, none, some (.iconst 0, 48, 0, 0, .int (0))],
 [some (.iload_n 1, 49, 1, 0, .null), some (.iadd, 50, 0, 0, .null), some (.dup2, 51, 0, 0, .null), some (.iaload, 52, 0, 0, .null), some (.iconst 1, 53, 0, 0, .int (1)), some (.iadd, 54, 0, 0, .null), some (.iastore, 55, 0, 0, .null), some (.return_, 56, 0, 0, .null)]],
  6, none, 7, 138)
def kX7_isGarment : aM := ([[some (.iload_n 0, 1, 0, 0, .null), some (.i2l, 2, 0, 0, .null), some (.lconst 0, 3, 0, 0, .long 0), some (.ldc2_w 56, 6, 0, 0, .long (5)), none, none, some (.invokestatic 58, 9, 129, 3, .null), none, none, some (.ifCond .eq 19, 12, 28, 0, .null), none, none, some (.iload_n 1, 13, 1, 0, .null), some (.i2l, 14, 0, 0, .null), some (.lconst 1, 15, 0, 0, .long 1), some (.ldc2_w 62, 18, 0, 0, .long (9))],
 [none, none, some (.invokestatic 58, 21, 129, 3, .null), none, none, some (.ifCond .eq 7, 24, 28, 0, .null), none, none, some (.iconst 1, 25, 0, 0, .int (1)), some (.goto 4, 28, 29, 0, .null), none, none, some (.iconst 0, 29, 0, 0, .int (0)), some (.ireturn, 30, 0, 0, .null)]],
  2, (some .boolean), 7, 139)
def kX7_hang : aM := ([[some (.iload_n 1, 1, 1, 0, .null), some (.invokestatic 48, 4, 132, 1, .null), none, none, some (.ifCond .eq 11, 7, 15, 0, .null), none, none, some (.iload_n 2, 8, 2, 0, .null), some (.iload_n 3, 9, 3, 0, .null), some (.invokestatic 64, 12, 139, 2, .null), none, none, some (.ifCond .ne 10, 15, 22, 0, .null), none, none, some (.aload_n 0, 16, 0, 0, .null)],
 [some (.ldc 47, 18, 0, 0, .int (-1000000001)), none, some (.invokevirtual 68, 21, 130, 2, .retAddr 7), none, none, some (.ireturn, 22, 0, 0, .null), some (.aload_n 0, 23, 0, 0, .null), some (.getfield 7, 26, 7, 0, .null), none, none, some (.iconst 0, 27, 0, 0, .int (0)), some (.iload_n 1, 28, 1, 0, .null), some (.iadd, 29, 0, 0, .null), some (.iaload, 30, 0, 0, .null), some (.bipush 7, 32, 0, 0, .int (7)), none],
 [some (.if_icmp .ne 10, 35, 42, 0, .null), none, none, some (.aload_n 0, 36, 0, 0, .null), some (.ldc 72, 38, 0, 0, .int (-1000000002)), none, some (.invokevirtual 68, 41, 130, 2, .retAddr 7), none, none, some (.ireturn, 42, 0, 0, .null), some (.aload_n 0, 43, 0, 0, .null), some (.iload_n 1, 44, 1, 0, .null), some (.iload_n 2, 45, 2, 0, .null), some (.iload_n 3, 46, 3, 0, .null), some (.iconst 0, 47, 0, 0, .int (0)), some (.invokevirtual 73, 50, 138, 5, .retAddr 7)],
 [none, none, some (.aload_n 0, 51, 0, 0, .null), some (.getfield 7, 54, 7, 0, .null), none, none, some (.iconst 0, 55, 0, 0, .int (0)), some (.iload_n 1, 56, 1, 0, .null), some (.iadd, 57, 0, 0, .null), some (.iaload, 58, 0, 0, .null), some (.iconst 1, 59, 0, 0, .int (1)), some (.isub, 60, 0, 0, .null), some (.ireturn, 61, 0, 0, .null)]],
  4, (some .int), 7, 140)
def kX7_off : aM := ([[some (.aload_n 0, 1, 0, 0, .null), some (.iload_n 1, 2, 1, 0, .null), some (.iload_n 2, 3, 2, 0, .null), some (.invokevirtual 77, 6, 133, 3, .retAddr 7), none, none, some (.ifCond .ne 10, 9, 16, 0, .null), none, none, some (.aload_n 0, 10, 0, 0, .null), some (.ldc 47, 12, 0, 0, .int (-1000000001)), none, some (.invokevirtual 68, 15, 130, 2, .retAddr 7), none, none, some (.ireturn, 16, 0, 0, .null)],
 [some (.aload_n 0, 17, 0, 0, .null), some (.getfield 7, 20, 7, 0, .null), none, none, some (.iload_n 1, 21, 1, 0, .null), some (.iload_n 2, 22, 2, 0, .null), some (.invokestatic 52, 25, 135, 2, .null), none, none, some (.iconst 1, 26, 0, 0, .int (1)), some (.iadd, 27, 0, 0, .null), some (.iaload, 28, 0, 0, .null), some (.istore_n 3, 29, 3, 0, .null), some (.aload_n 0, 30, 0, 0, .null), some (.getfield 7, 33, 7, 0, .null), none],
 [none, some (.iconst 0, 34, 0, 0, .int (0)), some (.iload_n 1, 35, 1, 0, .null), some (.iadd, 36, 0, 0, .null), some (.dup2, 37, 0, 0, .null), some (.iaload, 38, 0, 0, .null), some (.iconst 1, 39, 0, 0, .int (1)), some (.isub, 40, 0, 0, .null), some (.iastore, 41, 0, 0, .null), some (.iload_n 1, 42, 1, 0, .null), some (.iload_n 2, 43, 2, 0, .null), some (.invokestatic 52, 46, 135, 2, .null), none, none, some (.istore 4, 48, 4, 0, .null), none],
 [some (.iload 4, 50, 4, 0, .null), none, some (.iload_n 1, 51, 1, 0, .null), some (.aload_n 0, 52, 0, 0, .null), some (.getfield 7, 55, 7, 0, .null), none, none, some (.iconst 0, 56, 0, 0, .int (0)), some (.iload_n 1, 57, 1, 0, .null), some (.iadd, 58, 0, 0, .null), some (.iaload, 59, 0, 0, .null), some (.invokestatic 52, 62, 135, 2, .null), none, none, some (.if_icmp .ge 25, 65, 87, 0, .null), none],
 [none, some (.aload_n 0, 66, 0, 0, .null), some (.getfield 7, 69, 7, 0, .null), none, none, some (.iload 4, 71, 4, 0, .null), none, some (.aload_n 0, 72, 0, 0, .null), some (.getfield 7, 75, 7, 0, .null), none, none, some (.iload 4, 77, 4, 0, .null), none, some (.iconst 3, 78, 0, 0, .int (3)), some (.iadd, 79, 0, 0, .null), some (.iaload, 80, 0, 0, .null)],
 [some (.iastore, 81, 0, 0, .null), some (.iinc 4 1, 84, 4, 0, .int (1)), none, none, some (.goto (-36), 87, 48, 0, .null), none, none, some (.iload_n 3, 88, 3, 0, .null), some (.ireturn, 89, 0, 0, .null)]],
  5, (some .int), 7, 141)
def kX7_lays : aM := ([[some (.aload_n 0, 1, 0, 0, .null), some (.aload_n 0, 2, 0, 0, .null), some (.getfield 7, 5, 7, 0, .null), none, none, some (.iconst 0, 6, 0, 0, .int (0)), some (.iload_n 1, 7, 1, 0, .null), some (.iadd, 8, 0, 0, .null), some (.iaload, 9, 0, 0, .null), some (.putfield 80, 12, 7, 11, .int 0), none, none, some (.iconst 0, 13, 0, 0, .int (0)), some (.istore_n 2, 14, 2, 0, .null), some (.iload_n 2, 15, 2, 0, .null), some (.iconst 3, 16, 0, 0, .int (3))],
 [some (.aload_n 0, 17, 0, 0, .null), some (.getfield 80, 20, 7, 11, .int 0), none, none, some (.imul, 21, 0, 0, .null), some (.if_icmp .ge 27, 24, 48, 0, .null), none, none, some (.aload_n 0, 25, 0, 0, .null), some (.getfield 35, 28, 7, 10, .null), none, none, some (.iload_n 2, 29, 2, 0, .null), some (.aload_n 0, 30, 0, 0, .null), some (.getfield 7, 33, 7, 0, .null), none],
 [none, some (.iload_n 1, 34, 1, 0, .null), some (.iconst 0, 35, 0, 0, .int (0)), some (.invokestatic 52, 38, 135, 2, .null), none, none, some (.iload_n 2, 39, 2, 0, .null), some (.iadd, 40, 0, 0, .null), some (.iaload, 41, 0, 0, .null), some (.iastore, 42, 0, 0, .null), some (.iinc 2 1, 45, 2, 0, .int (1)), none, none, some (.goto (-31), 48, 14, 0, .null), none, none],
 [some (.return_, 49, 0, 0, .null)]],
  3, none, 7, 142)
def kX7_isSeen : aM := ([[some (.aload_n 0, 1, 0, 0, .null), some (.getfield 35, 4, 7, 10, .null), none, none, some (.iconst 3, 5, 0, 0, .int (3)), some (.iload_n 1, 6, 1, 0, .null), some (.imul, 7, 0, 0, .null), some (.iconst 1, 8, 0, 0, .int (1)), some (.iadd, 9, 0, 0, .null), some (.iaload, 10, 0, 0, .null), some (.aload_n 0, 11, 0, 0, .null), some (.getfield 35, 14, 7, 10, .null), none, none, some (.iconst 3, 15, 0, 0, .int (3)), some (.iload_n 1, 16, 1, 0, .null)],
 [some (.imul, 17, 0, 0, .null), some (.iconst 2, 18, 0, 0, .int (2)), some (.iadd, 19, 0, 0, .null), some (.iaload, 20, 0, 0, .null), some (.iadd, 21, 0, 0, .null), some (.istore_n 3, 22, 3, 0, .null), some (.aload_n 0, 23, 0, 0, .null), some (.getfield 35, 26, 7, 10, .null), none, none, some (.iconst 3, 27, 0, 0, .int (3)), some (.iload_n 1, 28, 1, 0, .null), some (.imul, 29, 0, 0, .null), some (.iaload, 30, 0, 0, .null), some (.tableswitch 62 1 5 #[34, 47, 62, 34, 60], 64, 0, 0, .null), none],
 [none, none, none, none, none, none, none, none, none, none, none, none, none, none, none, none],
 [none, none, none, none, none, none, none, none, none, none, none, none, none, none, none, none],
 [some (.iconst 2, 65, 0, 0, .int (2)), some (.iload_n 3, 66, 3, 0, .null), some (.imul, 67, 0, 0, .null), some (.iload_n 2, 68, 2, 0, .null), some (.if_icmp .lt 7, 71, 75, 0, .null), none, none, some (.iconst 1, 72, 0, 0, .int (1)), some (.goto 4, 75, 76, 0, .null), none, none, some (.iconst 0, 76, 0, 0, .int (0)), some (.ireturn, 77, 0, 0, .null), some (.iload_n 3, 78, 3, 0, .null), some (.iconst 3, 79, 0, 0, .int (3)), some (.iadd, 80, 0, 0, .null)],
 [some (.iload_n 2, 81, 2, 0, .null), some (.if_icmp .lt 7, 84, 88, 0, .null), none, none, some (.iconst 1, 85, 0, 0, .int (1)), some (.goto 4, 88, 89, 0, .null), none, none, some (.iconst 0, 89, 0, 0, .int (0)), some (.ireturn, 90, 0, 0, .null), some (.iconst 1, 91, 0, 0, .int (1)), some (.ireturn, 92, 0, 0, .null), some (.iload_n 3, 93, 3, 0, .null), some (.iload_n 2, 94, 2, 0, .null), some (.if_icmp .lt 7, 97, 101, 0, .null), none],
 [none, some (.iconst 1, 98, 0, 0, .int (1)), some (.goto 4, 101, 102, 0, .null), none, none, some (.iconst 0, 102, 0, 0, .int (0)), some (.ireturn, 103, 0, 0, .null)]],
  4, (some .boolean), 7, 143)
def kX7_kept : aM := ([[some (.iload_n 0, 1, 0, 0, .null), some (.sipush (-9999), 4, 0, 0, .int (-9999)), none, none, some (.if_icmp .ge 9, 7, 13, 0, .null), none, none, some (.sipush (-9999), 10, 0, 0, .int (-9999)), none, none, some (.goto 17, 13, 27, 0, .null), none, none, some (.iload_n 0, 14, 0, 0, .null), some (.sipush 9999, 17, 0, 0, .int (9999)), none],
 [none, some (.if_icmp .le 9, 20, 26, 0, .null), none, none, some (.sipush 9999, 23, 0, 0, .int (9999)), none, none, some (.goto 4, 26, 27, 0, .null), none, none, some (.iload_n 0, 27, 0, 0, .null), some (.ireturn, 28, 0, 0, .null)]],
  1, (some .int), 7, 144)
def kX7_isStocking : aM := ([[some (.iload_n 0, 1, 0, 0, .null), some (.iconst 2, 2, 0, 0, .int (2)), some (.if_icmp .eq 8, 5, 10, 0, .null), none, none, some (.iload_n 0, 6, 0, 0, .null), some (.iconst 5, 7, 0, 0, .int (5)), some (.if_icmp .ne 7, 10, 14, 0, .null), none, none, some (.iconst 1, 11, 0, 0, .int (1)), some (.goto 4, 14, 15, 0, .null), none, none, some (.iconst 0, 15, 0, 0, .int (0)), some (.ireturn, 16, 0, 0, .null)]],
  1, (some .boolean), 7, 145)
def kX7_becomesBy : aM := ([[some (.aload_n 0, 1, 0, 0, .null), some (.getfield 35, 4, 7, 10, .null), none, none, some (.iconst 3, 5, 0, 0, .int (3)), some (.iload_n 1, 6, 1, 0, .null), some (.imul, 7, 0, 0, .null), some (.iconst 1, 8, 0, 0, .int (1)), some (.iadd, 9, 0, 0, .null), some (.iaload, 10, 0, 0, .null), some (.istore 4, 12, 4, 0, .null), none, some (.aload_n 0, 13, 0, 0, .null), some (.getfield 35, 16, 7, 10, .null), none, none],
 [some (.iconst 3, 17, 0, 0, .int (3)), some (.iload_n 1, 18, 1, 0, .null), some (.imul, 19, 0, 0, .null), some (.iaload, 20, 0, 0, .null), some (.tableswitch 78 1 5 #[36, 44, 50, 54, 62], 56, 0, 0, .null), none, none, none, none, none, none, none, none, none, none, none],
 [none, none, none, none, none, none, none, none, none, none, none, none, none, none, none, none],
 [none, none, none, none, none, none, none, none, some (.iload_n 2, 57, 2, 0, .null), some (.bipush 10, 59, 0, 0, .int (10)), none, some (.iload 4, 61, 4, 0, .null), none, some (.imul, 62, 0, 0, .null), some (.iadd, 63, 0, 0, .null), some (.ireturn, 64, 0, 0, .null)],
 [some (.iload_n 2, 65, 2, 0, .null), some (.iconst 1, 66, 0, 0, .int (1)), some (.iadd, 67, 0, 0, .null), some (.iload_n 3, 68, 3, 0, .null), some (.iadd, 69, 0, 0, .null), some (.ireturn, 70, 0, 0, .null), some (.iconst 2, 71, 0, 0, .int (2)), some (.iload_n 2, 72, 2, 0, .null), some (.imul, 73, 0, 0, .null), some (.ireturn, 74, 0, 0, .null), some (.iload_n 2, 75, 2, 0, .null), some (.bipush 10, 77, 0, 0, .int (10)), none, some (.iload 4, 79, 4, 0, .null), none, some (.imul, 80, 0, 0, .null)],
 [some (.isub, 81, 0, 0, .null), some (.ireturn, 82, 0, 0, .null), some (.iload_n 2, 83, 2, 0, .null), some (.iconst 2, 84, 0, 0, .int (2)), some (.irem, 85, 0, 0, .null), some (.ifCond .ne 7, 88, 92, 0, .null), none, none, some (.iload_n 2, 89, 2, 0, .null), some (.goto 8, 92, 97, 0, .null), none, none, some (.iload_n 2, 93, 2, 0, .null), some (.iconst 1, 94, 0, 0, .int (1)), some (.iadd, 95, 0, 0, .null), some (.iload_n 3, 96, 3, 0, .null)],
 [some (.iadd, 97, 0, 0, .null), some (.ireturn, 98, 0, 0, .null), some (.iload_n 2, 99, 2, 0, .null), some (.iload 4, 101, 4, 0, .null), none, some (.iadd, 102, 0, 0, .null), some (.ireturn, 103, 0, 0, .null)]],
  5, (some .int), 7, 146)
def kX7_worthOfFirst : aM := ([[some (.iconst 0, 1, 0, 0, .int (0)), some (.istore_n 3, 2, 3, 0, .null), some (.iconst 0, 3, 0, 0, .int (0)), some (.istore 4, 5, 4, 0, .null), none, some (.iconst 0, 6, 0, 0, .int (0)), some (.istore 5, 8, 5, 0, .null), none, some (.iload 5, 10, 5, 0, .null), none, some (.iload_n 1, 11, 1, 0, .null), some (.if_icmp .ge 57, 14, 68, 0, .null), none, none, some (.aload_n 0, 15, 0, 0, .null), some (.iload 5, 17, 5, 0, .null)],
 [none, some (.iload_n 2, 18, 2, 0, .null), some (.invokevirtual 84, 21, 143, 3, .retAddr 7), none, none, some (.ifCond .eq 41, 24, 62, 0, .null), none, none, some (.aload_n 0, 25, 0, 0, .null), some (.iload 5, 27, 5, 0, .null), none, some (.iload_n 3, 28, 3, 0, .null), some (.iload 4, 30, 4, 0, .null), none, some (.invokevirtual 87, 33, 146, 4, .retAddr 7), none],
 [none, some (.invokestatic 91, 36, 144, 1, .null), none, none, some (.istore_n 3, 37, 3, 0, .null), some (.aload_n 0, 38, 0, 0, .null), some (.getfield 35, 41, 7, 10, .null), none, none, some (.iconst 3, 42, 0, 0, .int (3)), some (.iload 5, 44, 5, 0, .null), none, some (.imul, 45, 0, 0, .null), some (.iaload, 46, 0, 0, .null), some (.invokestatic 93, 49, 145, 1, .null), none],
 [none, some (.ifCond .eq 10, 52, 59, 0, .null), none, none, some (.iload 4, 54, 4, 0, .null), none, some (.iconst 1, 55, 0, 0, .int (1)), some (.iadd, 56, 0, 0, .null), some (.goto 4, 59, 60, 0, .null), none, none, some (.iconst 0, 60, 0, 0, .int (0)), some (.istore 4, 62, 4, 0, .null), none, some (.iinc 5 1, 65, 5, 0, .int (1)), none],
 [none, some (.goto (-57), 68, 8, 0, .null), none, none, some (.iload_n 3, 69, 3, 0, .null), some (.ireturn, 70, 0, 0, .null)]],
  6, (some .int), 7, 147)
def kX7_worthBy : aM := ([[some (.aload_n 0, 1, 0, 0, .null), some (.iload_n 1, 2, 1, 0, .null), some (.invokevirtual 96, 5, 142, 2, .retAddr 7), none, none, some (.aload_n 0, 6, 0, 0, .null), some (.aload_n 0, 7, 0, 0, .null), some (.getfield 80, 10, 7, 11, .int 0), none, none, some (.iload_n 2, 11, 2, 0, .null), some (.invokevirtual 100, 14, 147, 3, .retAddr 7), none, none, some (.ireturn, 15, 0, 0, .null)]],
  3, (some .int), 7, 148)
def kX7_worthAside : aM := ([[some (.aload_n 0, 1, 0, 0, .null), some (.aload_n 0, 2, 0, 0, .null), some (.getfield 80, 5, 7, 11, .int 0), none, none, some (.aload_n 0, 6, 0, 0, .null), some (.getfield 7, 9, 7, 0, .null), none, none, some (.iconst 4, 10, 0, 0, .int (4)), some (.iaload, 11, 0, 0, .null), some (.invokevirtual 100, 14, 147, 3, .retAddr 7), none, none, some (.ireturn, 15, 0, 0, .null)]],
  1, (some .int), 7, 149)
def kX7_readAs : aM := ([[some (.iconst (-1), 1, 0, 0, .int (-1)), some (.istore_n 2, 2, 2, 0, .null), some (.iconst 0, 3, 0, 0, .int (0)), some (.istore_n 3, 4, 3, 0, .null), some (.iload_n 3, 5, 3, 0, .null), some (.bipush 10, 7, 0, 0, .int (10)), none, some (.if_icmp .ge 73, 10, 80, 0, .null), none, none, some (.aload_n 0, 11, 0, 0, .null), some (.getfield 7, 14, 7, 0, .null), none, none, some (.bipush 6, 16, 0, 0, .int (6)), none],
 [some (.iload_n 3, 17, 3, 0, .null), some (.iadd, 18, 0, 0, .null), some (.iaload, 19, 0, 0, .null), some (.iconst 1, 20, 0, 0, .int (1)), some (.if_icmp .ne 40, 23, 60, 0, .null), none, none, some (.iload_n 2, 24, 2, 0, .null), some (.ifCond .lt 32, 27, 56, 0, .null), none, none, some (.aload_n 0, 28, 0, 0, .null), some (.getfield 7, 31, 7, 0, .null), none, none, some (.bipush 16, 33, 0, 0, .int (16))],
 [none, some (.iload_n 3, 34, 3, 0, .null), some (.iadd, 35, 0, 0, .null), some (.iaload, 36, 0, 0, .null), some (.iload_n 1, 37, 1, 0, .null), some (.invokestatic 103, 40, 137, 2, .null), none, none, some (.aload_n 0, 41, 0, 0, .null), some (.getfield 7, 44, 7, 0, .null), none, none, some (.bipush 16, 46, 0, 0, .int (16)), none, some (.iload_n 2, 47, 2, 0, .null), some (.iadd, 48, 0, 0, .null)],
 [some (.iaload, 49, 0, 0, .null), some (.iload_n 1, 50, 1, 0, .null), some (.invokestatic 103, 53, 137, 2, .null), none, none, some (.if_icmp .ge 7, 56, 60, 0, .null), none, none, some (.iconst 1, 57, 0, 0, .int (1)), some (.goto 4, 60, 61, 0, .null), none, none, some (.iconst 0, 61, 0, 0, .int (0)), some (.istore 4, 63, 4, 0, .null), none, some (.iload 4, 65, 4, 0, .null)],
 [none, some (.ifCond .eq 7, 68, 72, 0, .null), none, none, some (.iload_n 3, 69, 3, 0, .null), some (.goto 4, 72, 73, 0, .null), none, none, some (.iload_n 2, 73, 2, 0, .null), some (.istore_n 2, 74, 2, 0, .null), some (.iinc 3 1, 77, 3, 0, .int (1)), none, none, some (.goto (-73), 80, 4, 0, .null), none, none],
 [some (.iload_n 2, 81, 2, 0, .null), some (.ireturn, 82, 0, 0, .null)]],
  5, (some .int), 7, 150)
def kX7_of : aM := ([[some (.aload_n 0, 1, 0, 0, .null), some (.iload_n 1, 2, 1, 0, .null), some (.iload_n 2, 3, 2, 0, .null), some (.invokevirtual 77, 6, 133, 3, .retAddr 7), none, none, some (.ifCond .eq 15, 9, 21, 0, .null), none, none, some (.iload_n 3, 10, 3, 0, .null), some (.i2l, 11, 0, 0, .null), some (.lconst 0, 12, 0, 0, .long 0), some (.ldc2_w 106, 15, 0, 0, .long (4)), none, none, some (.invokestatic 58, 18, 129, 3, .null)],
 [none, none, some (.ifCond .ne 10, 21, 28, 0, .null), none, none, some (.aload_n 0, 22, 0, 0, .null), some (.ldc 47, 24, 0, 0, .int (-1000000001)), none, some (.invokevirtual 68, 27, 130, 2, .retAddr 7), none, none, some (.ireturn, 28, 0, 0, .null), some (.iload_n 3, 29, 3, 0, .null), some (.iconst 3, 30, 0, 0, .int (3)), some (.if_icmp .ge 16, 33, 46, 0, .null), none],
 [none, some (.aload_n 0, 34, 0, 0, .null), some (.getfield 7, 37, 7, 0, .null), none, none, some (.iload_n 1, 38, 1, 0, .null), some (.iload_n 2, 39, 2, 0, .null), some (.invokestatic 52, 42, 135, 2, .null), none, none, some (.iload_n 3, 43, 3, 0, .null), some (.iadd, 44, 0, 0, .null), some (.iaload, 45, 0, 0, .null), some (.ireturn, 46, 0, 0, .null), some (.aload_n 0, 47, 0, 0, .null), some (.iload_n 1, 48, 1, 0, .null)],
 [some (.invokevirtual 96, 51, 142, 2, .retAddr 7), none, none, some (.iload_n 3, 52, 3, 0, .null), some (.iconst 3, 53, 0, 0, .int (3)), some (.if_icmp .ne 25, 56, 78, 0, .null), none, none, some (.aload_n 0, 57, 0, 0, .null), some (.iload_n 2, 58, 2, 0, .null), some (.aload_n 0, 59, 0, 0, .null), some (.getfield 7, 62, 7, 0, .null), none, none, some (.iconst 4, 63, 0, 0, .int (4)), some (.iaload, 64, 0, 0, .null)],
 [some (.invokevirtual 84, 67, 143, 3, .retAddr 7), none, none, some (.ifCond .eq 7, 70, 74, 0, .null), none, none, some (.iconst 1, 71, 0, 0, .int (1)), some (.goto 20, 74, 91, 0, .null), none, none, some (.iconst 0, 75, 0, 0, .int (0)), some (.goto 16, 78, 91, 0, .null), none, none, some (.aload_n 0, 79, 0, 0, .null), some (.iload_n 2, 80, 2, 0, .null)],
 [some (.iconst 1, 81, 0, 0, .int (1)), some (.iadd, 82, 0, 0, .null), some (.aload_n 0, 83, 0, 0, .null), some (.getfield 7, 86, 7, 0, .null), none, none, some (.iconst 4, 87, 0, 0, .int (4)), some (.iaload, 88, 0, 0, .null), some (.invokevirtual 100, 91, 147, 3, .retAddr 7), none, none, some (.ireturn, 92, 0, 0, .null)]],
  4, (some .int), 7, 151)
def kX7_set : aM := ([[some (.aload_n 0, 1, 0, 0, .null), some (.iload_n 1, 2, 1, 0, .null), some (.iload_n 2, 3, 2, 0, .null), some (.invokevirtual 77, 6, 133, 3, .retAddr 7), none, none, some (.ifCond .eq 37, 9, 43, 0, .null), none, none, some (.iload_n 3, 10, 3, 0, .null), some (.i2l, 11, 0, 0, .null), some (.lconst 1, 12, 0, 0, .long 1), some (.ldc2_w 108, 15, 0, 0, .long (2)), none, none, some (.invokestatic 58, 18, 129, 3, .null)],
 [none, none, some (.ifCond .eq 25, 21, 43, 0, .null), none, none, some (.iload 4, 23, 4, 0, .null), none, some (.i2l, 24, 0, 0, .null), some (.iload_n 3, 25, 3, 0, .null), some (.iconst 1, 26, 0, 0, .int (1)), some (.if_icmp .ne 7, 29, 33, 0, .null), none, none, some (.lconst 1, 30, 0, 0, .long 1), some (.goto 4, 33, 34, 0, .null), none],
 [none, some (.lconst 0, 34, 0, 0, .long 0), some (.ldc2_w 62, 37, 0, 0, .long (9)), none, none, some (.invokestatic 58, 40, 129, 3, .null), none, none, some (.ifCond .ne 10, 43, 50, 0, .null), none, none, some (.aload_n 0, 44, 0, 0, .null), some (.ldc 47, 46, 0, 0, .int (-1000000001)), none, some (.invokevirtual 68, 49, 130, 2, .retAddr 7), none],
 [none, some (.ireturn, 50, 0, 0, .null), some (.aload_n 0, 51, 0, 0, .null), some (.iload_n 1, 52, 1, 0, .null), some (.iload_n 2, 53, 2, 0, .null), some (.invokestatic 52, 56, 135, 2, .null), none, none, some (.iload_n 3, 57, 3, 0, .null), some (.iadd, 58, 0, 0, .null), some (.iload 4, 60, 4, 0, .null), none, some (.invokevirtual 110, 63, 131, 3, .retAddr 7), none, none, some (.ireturn, 64, 0, 0, .null)]],
  5, (some .int), 7, 152)
def kX7_turn : aM := ([[some (.aload_n 0, 1, 0, 0, .null), some (.iload_n 1, 2, 1, 0, .null), some (.iload_n 2, 3, 2, 0, .null), some (.invokevirtual 77, 6, 133, 3, .retAddr 7), none, none, some (.ifCond .eq 28, 9, 34, 0, .null), none, none, some (.iload_n 3, 10, 3, 0, .null), some (.i2l, 11, 0, 0, .null), some (.lconst 0, 12, 0, 0, .long 0), some (.ldc2_w 56, 15, 0, 0, .long (5)), none, none, some (.invokestatic 58, 18, 129, 3, .null)],
 [none, none, some (.ifCond .eq 16, 21, 34, 0, .null), none, none, some (.aload_n 0, 22, 0, 0, .null), some (.iload_n 1, 23, 1, 0, .null), some (.iload_n 2, 24, 2, 0, .null), some (.invokestatic 52, 27, 135, 2, .null), none, none, some (.iload_n 3, 28, 3, 0, .null), some (.invokevirtual 110, 31, 131, 3, .retAddr 7), none, none, some (.goto 9, 34, 40, 0, .null)],
 [none, none, some (.aload_n 0, 35, 0, 0, .null), some (.ldc 47, 37, 0, 0, .int (-1000000001)), none, some (.invokevirtual 68, 40, 130, 2, .retAddr 7), none, none, some (.ireturn, 41, 0, 0, .null)]],
  4, (some .int), 7, 153)
def kX7_isUnder : aM := ([[some (.iload_n 0, 1, 0, 0, .null), some (.iload_n 1, 2, 1, 0, .null), some (.if_icmp .eq 27, 5, 29, 0, .null), none, none, some (.iload_n 1, 6, 1, 0, .null), some (.ifCond .eq 23, 9, 29, 0, .null), none, none, some (.iload_n 1, 10, 1, 0, .null), some (.iconst 1, 11, 0, 0, .int (1)), some (.if_icmp .ne 8, 14, 19, 0, .null), none, none, some (.iload_n 0, 15, 0, 0, .null), some (.iconst 4, 16, 0, 0, .int (4))],
 [some (.if_icmp .eq 13, 19, 29, 0, .null), none, none, some (.iload_n 1, 20, 1, 0, .null), some (.iconst 2, 21, 0, 0, .int (2)), some (.if_icmp .ne 12, 24, 33, 0, .null), none, none, some (.iload_n 0, 25, 0, 0, .null), some (.iconst 5, 26, 0, 0, .int (5)), some (.if_icmp .ne 7, 29, 33, 0, .null), none, none, some (.iconst 1, 30, 0, 0, .int (1)), some (.goto 4, 33, 34, 0, .null), none],
 [none, some (.iconst 0, 34, 0, 0, .int (0)), some (.ireturn, 35, 0, 0, .null)]],
  2, (some .boolean), 7, 154)
def kX7_as : aM := ([[some (.aload_n 0, 1, 0, 0, .null), some (.iload_n 1, 2, 1, 0, .null), some (.iload_n 2, 3, 2, 0, .null), some (.invokevirtual 77, 6, 133, 3, .retAddr 7), none, none, some (.ifCond .eq 15, 9, 21, 0, .null), none, none, some (.iload_n 3, 10, 3, 0, .null), some (.i2l, 11, 0, 0, .null), some (.lconst 0, 12, 0, 0, .long 0), some (.ldc2_w 56, 15, 0, 0, .long (5)), none, none, some (.invokestatic 58, 18, 129, 3, .null)],
 [none, none, some (.ifCond .ne 10, 21, 28, 0, .null), none, none, some (.aload_n 0, 22, 0, 0, .null), some (.ldc 47, 24, 0, 0, .int (-1000000001)), none, some (.invokevirtual 68, 27, 130, 2, .retAddr 7), none, none, some (.ireturn, 28, 0, 0, .null), some (.aload_n 0, 29, 0, 0, .null), some (.getfield 7, 32, 7, 0, .null), none, none],
 [some (.iload_n 1, 33, 1, 0, .null), some (.iload_n 2, 34, 2, 0, .null), some (.invokestatic 52, 37, 135, 2, .null), none, none, some (.iaload, 38, 0, 0, .null), some (.iload_n 3, 39, 3, 0, .null), some (.invokestatic 113, 42, 154, 2, .null), none, none, some (.ifCond .eq 18, 45, 60, 0, .null), none, none, some (.aload_n 0, 46, 0, 0, .null), some (.getfield 7, 49, 7, 0, .null), none],
 [none, some (.iload_n 1, 50, 1, 0, .null), some (.iload_n 2, 51, 2, 0, .null), some (.invokestatic 52, 54, 135, 2, .null), none, none, some (.iconst 1, 55, 0, 0, .int (1)), some (.iadd, 56, 0, 0, .null), some (.iaload, 57, 0, 0, .null), some (.goto 9, 60, 66, 0, .null), none, none, some (.aload_n 0, 61, 0, 0, .null), some (.ldc 116, 63, 0, 0, .int (-1000000003)), none, some (.invokevirtual 68, 66, 130, 2, .retAddr 7)],
 [none, none, some (.ireturn, 67, 0, 0, .null)]],
  4, (some .int), 7, 155)
def kX7_swap : aM := ([[some (.aload_n 0, 1, 0, 0, .null), some (.iload_n 1, 2, 1, 0, .null), some (.iload_n 2, 3, 2, 0, .null), some (.invokevirtual 77, 6, 133, 3, .retAddr 7), none, none, some (.ifCond .eq 12, 9, 18, 0, .null), none, none, some (.aload_n 0, 10, 0, 0, .null), some (.iload_n 1, 11, 1, 0, .null), some (.iload_n 3, 12, 3, 0, .null), some (.invokevirtual 77, 15, 133, 3, .retAddr 7), none, none, some (.ifCond .ne 10, 18, 25, 0, .null)],
 [none, none, some (.aload_n 0, 19, 0, 0, .null), some (.ldc 47, 21, 0, 0, .int (-1000000001)), none, some (.invokevirtual 68, 24, 130, 2, .retAddr 7), none, none, some (.ireturn, 25, 0, 0, .null), some (.iconst 0, 26, 0, 0, .int (0)), some (.istore 4, 28, 4, 0, .null), none, some (.iload 4, 30, 4, 0, .null), none, some (.iconst 3, 31, 0, 0, .int (3)), some (.if_icmp .ge 47, 34, 78, 0, .null)],
 [none, none, some (.aload_n 0, 35, 0, 0, .null), some (.getfield 7, 38, 7, 0, .null), none, none, some (.iload_n 1, 39, 1, 0, .null), some (.iload_n 2, 40, 2, 0, .null), some (.invokestatic 52, 43, 135, 2, .null), none, none, some (.iload 4, 45, 4, 0, .null), none, some (.iadd, 46, 0, 0, .null), some (.aload_n 0, 47, 0, 0, .null), some (.iload_n 1, 48, 1, 0, .null)],
 [some (.iload_n 3, 49, 3, 0, .null), some (.invokestatic 52, 52, 135, 2, .null), none, none, some (.iload 4, 54, 4, 0, .null), none, some (.iadd, 55, 0, 0, .null), some (.aload_n 0, 56, 0, 0, .null), some (.getfield 7, 59, 7, 0, .null), none, none, some (.iload_n 1, 60, 1, 0, .null), some (.iload_n 2, 61, 2, 0, .null), some (.invokestatic 52, 64, 135, 2, .null), none, none],
 [some (.iload 4, 66, 4, 0, .null), none, some (.iadd, 67, 0, 0, .null), some (.iaload, 68, 0, 0, .null), some (.invokevirtual 110, 71, 131, 3, .retAddr 7), none, none, some (.iastore, 72, 0, 0, .null), some (.iinc 4 1, 75, 4, 0, .int (1)), none, none, some (.goto (-47), 78, 28, 0, .null), none, none, some (.iload_n 2, 79, 2, 0, .null), some (.iload_n 3, 80, 3, 0, .null)],
 [some (.invokestatic 103, 83, 137, 2, .null), none, none, some (.ireturn, 84, 0, 0, .null)]],
  5, (some .int), 7, 156)
def kX7_take : aM := ([[some (.iload_n 1, 1, 1, 0, .null), some (.invokestatic 48, 4, 132, 1, .null), none, none, some (.ifCond .eq 14, 7, 18, 0, .null), none, none, some (.aload_n 0, 8, 0, 0, .null), some (.iconst 0, 9, 0, 0, .int (0)), some (.iload_n 1, 10, 1, 0, .null), some (.iadd, 11, 0, 0, .null), some (.iconst 0, 12, 0, 0, .int (0)), some (.invokevirtual 110, 15, 131, 3, .retAddr 7), none, none, some (.goto 9, 18, 24, 0, .null)],
 [none, none, some (.aload_n 0, 19, 0, 0, .null), some (.ldc 47, 21, 0, 0, .int (-1000000001)), none, some (.invokevirtual 68, 24, 130, 2, .retAddr 7), none, none, some (.ireturn, 25, 0, 0, .null)]],
  2, (some .int), 7, 157)
def kX7_hangsAside : aM := ([[some (.aload_n 0, 1, 0, 0, .null), some (.getfield 7, 4, 7, 0, .null), none, none, some (.iconst 0, 5, 0, 0, .int (0)), some (.iload_n 1, 6, 1, 0, .null), some (.iadd, 7, 0, 0, .null), some (.aload_n 0, 8, 0, 0, .null), some (.getfield 80, 11, 7, 11, .int 0), none, none, some (.iastore, 12, 0, 0, .null), some (.iconst 0, 13, 0, 0, .int (0)), some (.istore_n 2, 14, 2, 0, .null), some (.iload_n 2, 15, 2, 0, .null), some (.iconst 3, 16, 0, 0, .int (3))],
 [some (.aload_n 0, 17, 0, 0, .null), some (.getfield 80, 20, 7, 11, .int 0), none, none, some (.imul, 21, 0, 0, .null), some (.if_icmp .ge 27, 24, 48, 0, .null), none, none, some (.aload_n 0, 25, 0, 0, .null), some (.getfield 7, 28, 7, 0, .null), none, none, some (.iload_n 1, 29, 1, 0, .null), some (.iconst 0, 30, 0, 0, .int (0)), some (.invokestatic 52, 33, 135, 2, .null), none],
 [none, some (.iload_n 2, 34, 2, 0, .null), some (.iadd, 35, 0, 0, .null), some (.aload_n 0, 36, 0, 0, .null), some (.getfield 35, 39, 7, 10, .null), none, none, some (.iload_n 2, 40, 2, 0, .null), some (.iaload, 41, 0, 0, .null), some (.iastore, 42, 0, 0, .null), some (.iinc 2 1, 45, 2, 0, .int (1)), none, none, some (.goto (-31), 48, 14, 0, .null), none, none],
 [some (.return_, 49, 0, 0, .null)]],
  3, none, 7, 158)
def kX7_like : aM := ([[some (.iload_n 1, 1, 1, 0, .null), some (.invokestatic 48, 4, 132, 1, .null), none, none, some (.ifCond .eq 10, 7, 14, 0, .null), none, none, some (.iload_n 2, 8, 2, 0, .null), some (.invokestatic 48, 11, 132, 1, .null), none, none, some (.ifCond .ne 10, 14, 21, 0, .null), none, none, some (.aload_n 0, 15, 0, 0, .null), some (.ldc 47, 17, 0, 0, .int (-1000000001))],
 [none, some (.invokevirtual 68, 20, 130, 2, .retAddr 7), none, none, some (.ireturn, 21, 0, 0, .null), some (.aload_n 0, 22, 0, 0, .null), some (.iload_n 2, 23, 2, 0, .null), some (.invokevirtual 96, 26, 142, 2, .retAddr 7), none, none, some (.aload_n 0, 27, 0, 0, .null), some (.iload_n 1, 28, 1, 0, .null), some (.invokevirtual 117, 31, 158, 2, .retAddr 7), none, none, some (.aload_n 0, 32, 0, 0, .null)],
 [some (.getfield 80, 35, 7, 11, .int 0), none, none, some (.ireturn, 36, 0, 0, .null)]],
  3, (some .int), 7, 159)
def kX7_wind : aM := ([[some (.iload_n 1, 1, 1, 0, .null), some (.i2l, 2, 0, 0, .null), some (.lconst 0, 3, 0, 0, .long 0), some (.ldc2_w 120, 6, 0, 0, .long (20)), none, none, some (.invokestatic 58, 9, 129, 3, .null), none, none, some (.ifCond .eq 12, 12, 21, 0, .null), none, none, some (.aload_n 0, 13, 0, 0, .null), some (.iconst 4, 14, 0, 0, .int (4)), some (.iload_n 1, 15, 1, 0, .null), some (.invokevirtual 110, 18, 131, 3, .retAddr 7)],
 [none, none, some (.goto 9, 21, 27, 0, .null), none, none, some (.aload_n 0, 22, 0, 0, .null), some (.ldc 47, 24, 0, 0, .int (-1000000001)), none, some (.invokevirtual 68, 27, 130, 2, .retAddr 7), none, none, some (.ireturn, 28, 0, 0, .null)]],
  2, (some .int), 7, 160)
def kX7_garments : aM := ([[some (.aload_n 0, 1, 0, 0, .null), some (.getfield 7, 4, 7, 0, .null), none, none, some (.iconst 0, 5, 0, 0, .int (0)), some (.iaload, 6, 0, 0, .null), some (.aload_n 0, 7, 0, 0, .null), some (.getfield 7, 10, 7, 0, .null), none, none, some (.iconst 1, 11, 0, 0, .int (1)), some (.iaload, 12, 0, 0, .null), some (.iadd, 13, 0, 0, .null), some (.aload_n 0, 14, 0, 0, .null), some (.getfield 7, 17, 7, 0, .null), none],
 [none, some (.iconst 2, 18, 0, 0, .int (2)), some (.iaload, 19, 0, 0, .null), some (.iadd, 20, 0, 0, .null), some (.aload_n 0, 21, 0, 0, .null), some (.getfield 7, 24, 7, 0, .null), none, none, some (.iconst 3, 25, 0, 0, .int (3)), some (.iaload, 26, 0, 0, .null), some (.iadd, 27, 0, 0, .null), some (.ireturn, 28, 0, 0, .null)]],
  1, (some .int), 7, 161)
def kX7_days : aM := ([[some (.iload_n 1, 1, 1, 0, .null), some (.i2l, 2, 0, 0, .null), some (.lconst 1, 3, 0, 0, .long 1), some (.ldc2_w 122, 6, 0, 0, .long (99)), none, none, some (.invokestatic 58, 9, 129, 3, .null), none, none, some (.ifCond .ne 10, 12, 19, 0, .null), none, none, some (.aload_n 0, 13, 0, 0, .null), some (.ldc 47, 15, 0, 0, .int (-1000000001)), none, some (.invokevirtual 68, 18, 130, 2, .retAddr 7)],
 [none, none, some (.ireturn, 19, 0, 0, .null), some (.aload_n 0, 20, 0, 0, .null), some (.getfield 7, 23, 7, 0, .null), none, none, some (.iconst 5, 24, 0, 0, .int (5)), some (.iaload, 25, 0, 0, .null), some (.iload_n 1, 26, 1, 0, .null), some (.iadd, 27, 0, 0, .null), some (.sipush 9999, 30, 0, 0, .int (9999)), none, none, some (.if_icmp .le 10, 33, 40, 0, .null), none],
 [none, some (.aload_n 0, 34, 0, 0, .null), some (.ldc 124, 36, 0, 0, .int (-1000000005)), none, some (.invokevirtual 68, 39, 130, 2, .retAddr 7), none, none, some (.ireturn, 40, 0, 0, .null), some (.iconst 0, 41, 0, 0, .int (0)), some (.istore_n 2, 42, 2, 0, .null), some (.iconst 0, 43, 0, 0, .int (0)), some (.istore_n 3, 44, 3, 0, .null), some (.iload_n 3, 45, 3, 0, .null), some (.iconst 4, 46, 0, 0, .int (4)), some (.if_icmp .ge 90, 49, 136, 0, .null), none],
 [none, some (.iconst 0, 50, 0, 0, .int (0)), some (.istore 4, 52, 4, 0, .null), none, some (.iload 4, 54, 4, 0, .null), none, some (.aload_n 0, 55, 0, 0, .null), some (.getfield 7, 58, 7, 0, .null), none, none, some (.iconst 0, 59, 0, 0, .int (0)), some (.iload_n 3, 60, 3, 0, .null), some (.iadd, 61, 0, 0, .null), some (.iaload, 62, 0, 0, .null), some (.if_icmp .ge 68, 65, 130, 0, .null), none],
 [none, some (.iload_n 3, 66, 3, 0, .null), some (.iload 4, 68, 4, 0, .null), none, some (.invokestatic 52, 71, 135, 2, .null), none, none, some (.iconst 2, 72, 0, 0, .int (2)), some (.iadd, 73, 0, 0, .null), some (.istore 5, 75, 5, 0, .null), none, some (.aload_n 0, 76, 0, 0, .null), some (.getfield 7, 79, 7, 0, .null), none, none, some (.iload 5, 81, 5, 0, .null)],
 [none, some (.aload_n 0, 82, 0, 0, .null), some (.getfield 7, 85, 7, 0, .null), none, none, some (.iload 5, 87, 5, 0, .null), none, some (.iaload, 88, 0, 0, .null), some (.iload_n 1, 89, 1, 0, .null), some (.if_icmp .ge 7, 92, 96, 0, .null), none, none, some (.iconst 0, 93, 0, 0, .int (0)), some (.goto 12, 96, 105, 0, .null), none, none],
 [some (.aload_n 0, 97, 0, 0, .null), some (.getfield 7, 100, 7, 0, .null), none, none, some (.iload 5, 102, 5, 0, .null), none, some (.iaload, 103, 0, 0, .null), some (.iload_n 1, 104, 1, 0, .null), some (.isub, 105, 0, 0, .null), some (.iastore, 106, 0, 0, .null), some (.iload_n 2, 107, 2, 0, .null), some (.aload_n 0, 108, 0, 0, .null), some (.getfield 7, 111, 7, 0, .null), none, none, some (.iload 5, 113, 5, 0, .null)],
 [none, some (.iaload, 114, 0, 0, .null), some (.ifCond .ne 7, 117, 121, 0, .null), none, none, some (.iconst 1, 118, 0, 0, .int (1)), some (.goto 4, 121, 122, 0, .null), none, none, some (.iconst 0, 122, 0, 0, .int (0)), some (.iadd, 123, 0, 0, .null), some (.istore_n 2, 124, 2, 0, .null), some (.iinc 4 1, 127, 4, 0, .int (1)), none, none, some (.goto (-75), 130, 52, 0, .null)],
 [none, none, some (.iinc 3 1, 133, 3, 0, .int (1)), none, none, some (.goto (-89), 136, 44, 0, .null), none, none, some (.aload_n 0, 137, 0, 0, .null), some (.getfield 7, 140, 7, 0, .null), none, none, some (.iconst 5, 141, 0, 0, .int (5)), some (.dup2, 142, 0, 0, .null), some (.iaload, 143, 0, 0, .null), some (.iload_n 1, 144, 1, 0, .null)],
 [some (.iadd, 145, 0, 0, .null), some (.iastore, 146, 0, 0, .null), some (.iload_n 2, 147, 2, 0, .null), some (.ireturn, 148, 0, 0, .null)]],
  6, (some .int), 7, 162)
def kX7_means : aM := ([[some (.iload_n 1, 1, 1, 0, .null), some (.invokestatic 125, 4, 134, 1, .null), none, none, some (.ifCond .eq 17, 7, 21, 0, .null), none, none, some (.iload_n 2, 8, 2, 0, .null), some (.i2l, 9, 0, 0, .null), some (.ldc2_w 128, 12, 0, 0, .long (-999)), none, none, some (.ldc2_w 130, 15, 0, 0, .long (9999)), none, none, some (.invokestatic 58, 18, 129, 3, .null)],
 [none, none, some (.ifCond .ne 10, 21, 28, 0, .null), none, none, some (.aload_n 0, 22, 0, 0, .null), some (.ldc 47, 24, 0, 0, .int (-1000000001)), none, some (.invokevirtual 68, 27, 130, 2, .retAddr 7), none, none, some (.ireturn, 28, 0, 0, .null), some (.aload_n 0, 29, 0, 0, .null), some (.getfield 7, 32, 7, 0, .null), none, none],
 [some (.bipush 6, 34, 0, 0, .int (6)), none, some (.iload_n 1, 35, 1, 0, .null), some (.iadd, 36, 0, 0, .null), some (.iaload, 37, 0, 0, .null), some (.iconst 1, 38, 0, 0, .int (1)), some (.if_icmp .ne 15, 41, 53, 0, .null), none, none, some (.aload_n 0, 42, 0, 0, .null), some (.getfield 7, 45, 7, 0, .null), none, none, some (.bipush 16, 47, 0, 0, .int (16)), none, some (.iload_n 1, 48, 1, 0, .null)],
 [some (.iadd, 49, 0, 0, .null), some (.iaload, 50, 0, 0, .null), some (.goto 6, 53, 56, 0, .null), none, none, some (.sipush (-1000), 56, 0, 0, .int (-1000)), none, none, some (.istore_n 3, 57, 3, 0, .null), some (.aload_n 0, 58, 0, 0, .null), some (.getfield 7, 61, 7, 0, .null), none, none, some (.bipush 6, 63, 0, 0, .int (6)), none, some (.iload_n 1, 64, 1, 0, .null)],
 [some (.iadd, 65, 0, 0, .null), some (.iconst 1, 66, 0, 0, .int (1)), some (.iastore, 67, 0, 0, .null), some (.aload_n 0, 68, 0, 0, .null), some (.getfield 7, 71, 7, 0, .null), none, none, some (.bipush 16, 73, 0, 0, .int (16)), none, some (.iload_n 1, 74, 1, 0, .null), some (.iadd, 75, 0, 0, .null), some (.iload_n 2, 76, 2, 0, .null), some (.iastore, 77, 0, 0, .null), some (.iload_n 3, 78, 3, 0, .null), some (.ireturn, 79, 0, 0, .null)]],
  4, (some .int), 7, 163)
def kX7_forget : aM := ([[some (.iload_n 1, 1, 1, 0, .null), some (.invokestatic 125, 4, 134, 1, .null), none, none, some (.ifCond .eq 15, 7, 19, 0, .null), none, none, some (.aload_n 0, 8, 0, 0, .null), some (.bipush 6, 10, 0, 0, .int (6)), none, some (.iload_n 1, 11, 1, 0, .null), some (.iadd, 12, 0, 0, .null), some (.iconst 0, 13, 0, 0, .int (0)), some (.invokevirtual 110, 16, 131, 3, .retAddr 7), none, none],
 [some (.goto 9, 19, 25, 0, .null), none, none, some (.aload_n 0, 20, 0, 0, .null), some (.ldc 47, 22, 0, 0, .int (-1000000001)), none, some (.invokevirtual 68, 25, 130, 2, .retAddr 7), none, none, some (.ireturn, 26, 0, 0, .null)]],
  2, (some .int), 7, 164)
def kX7_number : aM := ([[some (.iload_n 1, 1, 1, 0, .null), some (.invokestatic 125, 4, 134, 1, .null), none, none, some (.ifCond .ne 10, 7, 14, 0, .null), none, none, some (.aload_n 0, 8, 0, 0, .null), some (.ldc 47, 10, 0, 0, .int (-1000000001)), none, some (.invokevirtual 68, 13, 130, 2, .retAddr 7), none, none, some (.ireturn, 14, 0, 0, .null), some (.aload_n 0, 15, 0, 0, .null), some (.getfield 7, 18, 7, 0, .null)],
 [none, none, some (.bipush 6, 20, 0, 0, .int (6)), none, some (.iload_n 1, 21, 1, 0, .null), some (.iadd, 22, 0, 0, .null), some (.iaload, 23, 0, 0, .null), some (.iconst 1, 24, 0, 0, .int (1)), some (.if_icmp .ne 15, 27, 39, 0, .null), none, none, some (.aload_n 0, 28, 0, 0, .null), some (.getfield 7, 31, 7, 0, .null), none, none, some (.bipush 16, 33, 0, 0, .int (16))],
 [none, some (.iload_n 1, 34, 1, 0, .null), some (.iadd, 35, 0, 0, .null), some (.iaload, 36, 0, 0, .null), some (.goto 9, 39, 45, 0, .null), none, none, some (.aload_n 0, 40, 0, 0, .null), some (.ldc 132, 42, 0, 0, .int (-1000000004)), none, some (.invokevirtual 68, 45, 130, 2, .retAddr 7), none, none, some (.ireturn, 46, 0, 0, .null)]],
  2, (some .int), 7, 165)
def kX7_orNone : aM := ([[some (.iload_n 1, 1, 1, 0, .null), some (.ifCond .ge 12, 4, 13, 0, .null), none, none, some (.aload_n 0, 5, 0, 0, .null), some (.ldc 132, 7, 0, 0, .int (-1000000004)), none, some (.invokevirtual 68, 10, 130, 2, .retAddr 7), none, none, some (.goto 4, 13, 14, 0, .null), none, none, some (.iload_n 1, 14, 1, 0, .null), some (.ireturn, 15, 0, 0, .null)]],
  2, (some .int), 7, 166)
def kX7_read : aM := ([[some (.iload_n 1, 1, 1, 0, .null), some (.i2l, 2, 0, 0, .null), some (.ldc2_w 133, 5, 0, 0, .long (-9999)), none, none, some (.ldc2_w 130, 8, 0, 0, .long (9999)), none, none, some (.invokestatic 58, 11, 129, 3, .null), none, none, some (.ifCond .eq 15, 14, 26, 0, .null), none, none, some (.aload_n 0, 15, 0, 0, .null), some (.aload_n 0, 16, 0, 0, .null)],
 [some (.iload_n 1, 17, 1, 0, .null), some (.invokevirtual 135, 20, 150, 2, .retAddr 7), none, none, some (.invokevirtual 138, 23, 166, 2, .retAddr 7), none, none, some (.goto 9, 26, 32, 0, .null), none, none, some (.aload_n 0, 27, 0, 0, .null), some (.ldc 47, 29, 0, 0, .int (-1000000001)), none, some (.invokevirtual 68, 32, 130, 2, .retAddr 7), none, none],
 [some (.ireturn, 33, 0, 0, .null)]],
  2, (some .int), 7, 167)
def kX7_apart : aM := ([[some (.iconst (-1), 1, 0, 0, .int (-1)), some (.istore_n 1, 2, 1, 0, .null), some (.iconst 0, 3, 0, 0, .int (0)), some (.istore_n 2, 4, 2, 0, .null), some (.iload_n 2, 5, 2, 0, .null), some (.bipush 10, 7, 0, 0, .int (10)), none, some (.if_icmp .ge 85, 10, 92, 0, .null), none, none, some (.iconst 0, 11, 0, 0, .int (0)), some (.istore_n 3, 12, 3, 0, .null), some (.iload_n 3, 13, 3, 0, .null), some (.iload_n 2, 14, 2, 0, .null), some (.if_icmp .ge 72, 17, 86, 0, .null), none],
 [none, some (.aload_n 0, 18, 0, 0, .null), some (.getfield 7, 21, 7, 0, .null), none, none, some (.bipush 16, 23, 0, 0, .int (16)), none, some (.iload_n 2, 24, 2, 0, .null), some (.iadd, 25, 0, 0, .null), some (.iaload, 26, 0, 0, .null), some (.aload_n 0, 27, 0, 0, .null), some (.getfield 7, 30, 7, 0, .null), none, none, some (.bipush 16, 32, 0, 0, .int (16)), none],
 [some (.iload_n 3, 33, 3, 0, .null), some (.iadd, 34, 0, 0, .null), some (.iaload, 35, 0, 0, .null), some (.invokestatic 103, 38, 137, 2, .null), none, none, some (.istore 4, 40, 4, 0, .null), none, some (.aload_n 0, 41, 0, 0, .null), some (.getfield 7, 44, 7, 0, .null), none, none, some (.bipush 6, 46, 0, 0, .int (6)), none, some (.iload_n 2, 47, 2, 0, .null), some (.iadd, 48, 0, 0, .null)],
 [some (.iaload, 49, 0, 0, .null), some (.aload_n 0, 50, 0, 0, .null), some (.getfield 7, 53, 7, 0, .null), none, none, some (.bipush 6, 55, 0, 0, .int (6)), none, some (.iload_n 3, 56, 3, 0, .null), some (.iadd, 57, 0, 0, .null), some (.iaload, 58, 0, 0, .null), some (.iadd, 59, 0, 0, .null), some (.iconst 2, 60, 0, 0, .int (2)), some (.if_icmp .ne 18, 63, 78, 0, .null), none, none, some (.iload_n 1, 64, 1, 0, .null)],
 [some (.ifCond .lt 9, 67, 73, 0, .null), none, none, some (.iload 4, 69, 4, 0, .null), none, some (.iload_n 1, 70, 1, 0, .null), some (.if_icmp .ge 8, 73, 78, 0, .null), none, none, some (.iload 4, 75, 4, 0, .null), none, some (.goto 4, 78, 79, 0, .null), none, none, some (.iload_n 1, 79, 1, 0, .null), some (.istore_n 1, 80, 1, 0, .null)],
 [some (.iinc 3 1, 83, 3, 0, .int (1)), none, none, some (.goto (-71), 86, 12, 0, .null), none, none, some (.iinc 2 1, 89, 2, 0, .int (1)), none, none, some (.goto (-85), 92, 4, 0, .null), none, none, some (.aload_n 0, 93, 0, 0, .null), some (.iload_n 1, 94, 1, 0, .null), some (.invokevirtual 138, 97, 166, 2, .retAddr 7), none],
 [none, some (.ireturn, 98, 0, 0, .null)]],
  5, (some .int), 7, 168)
def kX7_worth : aM := ([[some (.iload_n 1, 1, 1, 0, .null), some (.invokestatic 48, 4, 132, 1, .null), none, none, some (.ifCond .eq 17, 7, 21, 0, .null), none, none, some (.aload_n 0, 8, 0, 0, .null), some (.iload_n 1, 9, 1, 0, .null), some (.aload_n 0, 10, 0, 0, .null), some (.getfield 7, 13, 7, 0, .null), none, none, some (.iconst 4, 14, 0, 0, .int (4)), some (.iaload, 15, 0, 0, .null), some (.invokevirtual 141, 18, 148, 3, .retAddr 7)],
 [none, none, some (.goto 9, 21, 27, 0, .null), none, none, some (.aload_n 0, 22, 0, 0, .null), some (.ldc 47, 24, 0, 0, .int (-1000000001)), none, some (.invokevirtual 68, 27, 130, 2, .retAddr 7), none, none, some (.ireturn, 28, 0, 0, .null)]],
  2, (some .int), 7, 169)
def kX7_worthIn : aM := ([[some (.iload_n 1, 1, 1, 0, .null), some (.invokestatic 48, 4, 132, 1, .null), none, none, some (.ifCond .eq 24, 7, 28, 0, .null), none, none, some (.iload_n 2, 8, 2, 0, .null), some (.i2l, 9, 0, 0, .null), some (.lconst 0, 10, 0, 0, .long 0), some (.ldc2_w 120, 13, 0, 0, .long (20)), none, none, some (.invokestatic 58, 16, 129, 3, .null), none, none],
 [some (.ifCond .eq 12, 19, 28, 0, .null), none, none, some (.aload_n 0, 20, 0, 0, .null), some (.iload_n 1, 21, 1, 0, .null), some (.iload_n 2, 22, 2, 0, .null), some (.invokevirtual 141, 25, 148, 3, .retAddr 7), none, none, some (.goto 9, 28, 34, 0, .null), none, none, some (.aload_n 0, 29, 0, 0, .null), some (.ldc 47, 31, 0, 0, .int (-1000000001)), none, some (.invokevirtual 68, 34, 130, 2, .retAddr 7)],
 [none, none, some (.ireturn, 35, 0, 0, .null)]],
  3, (some .int), 7, 170)
def kX7_says : aM := ([[some (.iload_n 1, 1, 1, 0, .null), some (.invokestatic 48, 4, 132, 1, .null), none, none, some (.ifCond .eq 25, 7, 29, 0, .null), none, none, some (.aload_n 0, 8, 0, 0, .null), some (.aload_n 0, 9, 0, 0, .null), some (.aload_n 0, 10, 0, 0, .null), some (.iload_n 1, 11, 1, 0, .null), some (.aload_n 0, 12, 0, 0, .null), some (.getfield 7, 15, 7, 0, .null), none, none, some (.iconst 4, 16, 0, 0, .int (4))],
 [some (.iaload, 17, 0, 0, .null), some (.invokevirtual 141, 20, 148, 3, .retAddr 7), none, none, some (.invokevirtual 135, 23, 150, 2, .retAddr 7), none, none, some (.invokevirtual 138, 26, 166, 2, .retAddr 7), none, none, some (.goto 9, 29, 35, 0, .null), none, none, some (.aload_n 0, 30, 0, 0, .null), some (.ldc 47, 32, 0, 0, .int (-1000000001)), none],
 [some (.invokevirtual 68, 35, 130, 2, .retAddr 7), none, none, some (.ireturn, 36, 0, 0, .null)]],
  2, (some .int), 7, 171)
def kX7_windsOf : aM := ([[some (.iconst 0, 1, 0, 0, .int (0)), some (.istore_n 3, 2, 3, 0, .null), some (.iconst 0, 3, 0, 0, .int (0)), some (.istore 4, 5, 4, 0, .null), none, some (.iload 4, 7, 4, 0, .null), none, some (.bipush 20, 9, 0, 0, .int (20)), none, some (.if_icmp .gt 35, 12, 44, 0, .null), none, none, some (.iload_n 3, 13, 3, 0, .null), some (.aload_n 0, 14, 0, 0, .null), some (.aload_n 0, 15, 0, 0, .null), some (.iload_n 1, 16, 1, 0, .null)],
 [some (.iload 4, 18, 4, 0, .null), none, some (.invokevirtual 141, 21, 148, 3, .retAddr 7), none, none, some (.invokevirtual 135, 24, 150, 2, .retAddr 7), none, none, some (.iload_n 2, 25, 2, 0, .null), some (.if_icmp .ne 10, 28, 35, 0, .null), none, none, some (.iconst 1, 29, 0, 0, .int (1)), some (.iload 4, 31, 4, 0, .null), none, some (.ishl, 32, 0, 0, .null)],
 [some (.goto 4, 35, 36, 0, .null), none, none, some (.iconst 0, 36, 0, 0, .int (0)), some (.ior, 37, 0, 0, .null), some (.istore_n 3, 38, 3, 0, .null), some (.iinc 4 1, 41, 4, 0, .int (1)), none, none, some (.goto (-36), 44, 5, 0, .null), none, none, some (.iload_n 3, 45, 3, 0, .null), some (.ireturn, 46, 0, 0, .null)]],
  5, (some .int), 7, 172)
def kX7_winds : aM := ([[some (.iload_n 1, 1, 1, 0, .null), some (.invokestatic 48, 4, 132, 1, .null), none, none, some (.ifCond .ne 10, 7, 14, 0, .null), none, none, some (.aload_n 0, 8, 0, 0, .null), some (.ldc 47, 10, 0, 0, .int (-1000000001)), none, some (.invokevirtual 68, 13, 130, 2, .retAddr 7), none, none, some (.ireturn, 14, 0, 0, .null), some (.aload_n 0, 15, 0, 0, .null), some (.aload_n 0, 16, 0, 0, .null)],
 [some (.iload_n 1, 17, 1, 0, .null), some (.aload_n 0, 18, 0, 0, .null), some (.getfield 7, 21, 7, 0, .null), none, none, some (.iconst 4, 22, 0, 0, .int (4)), some (.iaload, 23, 0, 0, .null), some (.invokevirtual 141, 26, 148, 3, .retAddr 7), none, none, some (.invokevirtual 135, 29, 150, 2, .retAddr 7), none, none, some (.istore_n 2, 30, 2, 0, .null), some (.iload_n 2, 31, 2, 0, .null), some (.ifCond .ge 12, 34, 43, 0, .null)],
 [none, none, some (.aload_n 0, 35, 0, 0, .null), some (.ldc 132, 37, 0, 0, .int (-1000000004)), none, some (.invokevirtual 68, 40, 130, 2, .retAddr 7), none, none, some (.goto 9, 43, 49, 0, .null), none, none, some (.aload_n 0, 44, 0, 0, .null), some (.iload_n 1, 45, 1, 0, .null), some (.iload_n 2, 46, 2, 0, .null), some (.invokevirtual 144, 49, 172, 3, .retAddr 7), none],
 [none, some (.ireturn, 50, 0, 0, .null)]],
  3, (some .int), 7, 173)
def kX7_laysBut : aM := ([[some (.aload_n 0, 1, 0, 0, .null), some (.iconst 0, 2, 0, 0, .int (0)), some (.putfield 80, 5, 7, 11, .int 0), none, none, some (.iconst 0, 6, 0, 0, .int (0)), some (.istore_n 3, 7, 3, 0, .null), some (.iload_n 3, 8, 3, 0, .null), some (.aload_n 0, 9, 0, 0, .null), some (.getfield 7, 12, 7, 0, .null), none, none, some (.iconst 0, 13, 0, 0, .int (0)), some (.iload_n 1, 14, 1, 0, .null), some (.iadd, 15, 0, 0, .null), some (.iaload, 16, 0, 0, .null)],
 [some (.if_icmp .ge 69, 19, 85, 0, .null), none, none, some (.iload_n 2, 20, 2, 0, .null), some (.iload_n 3, 21, 3, 0, .null), some (.ishr, 22, 0, 0, .null), some (.iconst 1, 23, 0, 0, .int (1)), some (.iand, 24, 0, 0, .null), some (.ifCond .ne 55, 27, 79, 0, .null), none, none, some (.iconst 0, 28, 0, 0, .int (0)), some (.istore 4, 30, 4, 0, .null), none, some (.iload 4, 32, 4, 0, .null), none],
 [some (.iconst 3, 33, 0, 0, .int (3)), some (.if_icmp .ge 36, 36, 69, 0, .null), none, none, some (.aload_n 0, 37, 0, 0, .null), some (.getfield 35, 40, 7, 10, .null), none, none, some (.iconst 3, 41, 0, 0, .int (3)), some (.aload_n 0, 42, 0, 0, .null), some (.getfield 80, 45, 7, 11, .int 0), none, none, some (.imul, 46, 0, 0, .null), some (.iload 4, 48, 4, 0, .null), none],
 [some (.iadd, 49, 0, 0, .null), some (.aload_n 0, 50, 0, 0, .null), some (.getfield 7, 53, 7, 0, .null), none, none, some (.iload_n 1, 54, 1, 0, .null), some (.iload_n 3, 55, 3, 0, .null), some (.invokestatic 52, 58, 135, 2, .null), none, none, some (.iload 4, 60, 4, 0, .null), none, some (.iadd, 61, 0, 0, .null), some (.iaload, 62, 0, 0, .null), some (.iastore, 63, 0, 0, .null), some (.iinc 4 1, 66, 4, 0, .int (1))],
 [none, none, some (.goto (-36), 69, 30, 0, .null), none, none, some (.aload_n 0, 70, 0, 0, .null), some (.dup, 71, 0, 0, .null), some (.getfield 80, 74, 7, 11, .int 0), none, none, some (.iconst 1, 75, 0, 0, .int (1)), some (.iadd, 76, 0, 0, .null), some (.putfield 80, 79, 7, 11, .int 0), none, none, some (.iinc 3 1, 82, 3, 0, .int (1))],
 [none, none, some (.goto (-75), 85, 7, 0, .null), none, none, some (.return_, 86, 0, 0, .null)]],
  5, none, 7, 174)
def kX7_lost : aM := ([[some (.iload_n 1, 1, 1, 0, .null), some (.invokestatic 48, 4, 132, 1, .null), none, none, some (.ifCond .ne 10, 7, 14, 0, .null), none, none, some (.aload_n 0, 8, 0, 0, .null), some (.ldc 47, 10, 0, 0, .int (-1000000001)), none, some (.invokevirtual 68, 13, 130, 2, .retAddr 7), none, none, some (.ireturn, 14, 0, 0, .null), some (.aload_n 0, 15, 0, 0, .null), some (.aload_n 0, 16, 0, 0, .null)],
 [some (.iload_n 1, 17, 1, 0, .null), some (.aload_n 0, 18, 0, 0, .null), some (.getfield 7, 21, 7, 0, .null), none, none, some (.iconst 4, 22, 0, 0, .int (4)), some (.iaload, 23, 0, 0, .null), some (.invokevirtual 141, 26, 148, 3, .retAddr 7), none, none, some (.invokevirtual 135, 29, 150, 2, .retAddr 7), none, none, some (.istore_n 2, 30, 2, 0, .null), some (.iload_n 2, 31, 2, 0, .null), some (.ifCond .ge 10, 34, 41, 0, .null)],
 [none, none, some (.aload_n 0, 35, 0, 0, .null), some (.ldc 132, 37, 0, 0, .int (-1000000004)), none, some (.invokevirtual 68, 40, 130, 2, .retAddr 7), none, none, some (.ireturn, 41, 0, 0, .null), some (.iconst 0, 42, 0, 0, .int (0)), some (.istore_n 3, 43, 3, 0, .null), some (.iconst 0, 44, 0, 0, .int (0)), some (.istore 4, 46, 4, 0, .null), none, some (.iload 4, 48, 4, 0, .null), none],
 [some (.aload_n 0, 49, 0, 0, .null), some (.getfield 7, 52, 7, 0, .null), none, none, some (.iconst 0, 53, 0, 0, .int (0)), some (.iload_n 1, 54, 1, 0, .null), some (.iadd, 55, 0, 0, .null), some (.iaload, 56, 0, 0, .null), some (.if_icmp .ge 41, 59, 97, 0, .null), none, none, some (.aload_n 0, 60, 0, 0, .null), some (.iload_n 1, 61, 1, 0, .null), some (.iconst 1, 62, 0, 0, .int (1)), some (.iload 4, 64, 4, 0, .null), none],
 [some (.ishl, 65, 0, 0, .null), some (.invokevirtual 147, 68, 174, 3, .retAddr 7), none, none, some (.iload_n 3, 69, 3, 0, .null), some (.aload_n 0, 70, 0, 0, .null), some (.aload_n 0, 71, 0, 0, .null), some (.invokevirtual 151, 74, 149, 1, .retAddr 7), none, none, some (.invokevirtual 135, 77, 150, 2, .retAddr 7), none, none, some (.iload_n 2, 78, 2, 0, .null), some (.if_icmp .ne 7, 81, 85, 0, .null), none],
 [none, some (.iconst 0, 82, 0, 0, .int (0)), some (.goto 7, 85, 89, 0, .null), none, none, some (.iconst 1, 86, 0, 0, .int (1)), some (.iload 4, 88, 4, 0, .null), none, some (.ishl, 89, 0, 0, .null), some (.ior, 90, 0, 0, .null), some (.istore_n 3, 91, 3, 0, .null), some (.iinc 4 1, 94, 4, 0, .int (1)), none, none, some (.goto (-48), 97, 46, 0, .null), none],
 [none, some (.iload_n 3, 98, 3, 0, .null), some (.ireturn, 99, 0, 0, .null)]],
  5, (some .int), 7, 175)
def kX7_manyIn : aM := ([[some (.iconst 0, 1, 0, 0, .int (0)), some (.istore_n 1, 2, 1, 0, .null), some (.iload_n 0, 3, 0, 0, .null), some (.istore_n 2, 4, 2, 0, .null), some (.iload_n 2, 5, 2, 0, .null), some (.ifCond .eq 15, 8, 20, 0, .null), none, none, some (.iinc 1 1, 11, 1, 0, .int (1)), none, none, some (.iload_n 2, 12, 2, 0, .null), some (.iload_n 2, 13, 2, 0, .null), some (.iconst 1, 14, 0, 0, .int (1)), some (.isub, 15, 0, 0, .null), some (.iand, 16, 0, 0, .null)],
 [some (.istore_n 2, 17, 2, 0, .null), some (.goto (-13), 20, 4, 0, .null), none, none, some (.iload_n 1, 21, 1, 0, .null), some (.ireturn, 22, 0, 0, .null)]],
  3, (some .int), 7, 176)
def kX7_fewestSet : aM := ([[some (.iconst (-1), 1, 0, 0, .int (-1)), some (.istore_n 3, 2, 3, 0, .null), some (.iconst 0, 3, 0, 0, .int (0)), some (.istore 4, 5, 4, 0, .null), none, some (.iload 4, 7, 4, 0, .null), none, some (.iconst 1, 8, 0, 0, .int (1)), some (.aload_n 0, 9, 0, 0, .null), some (.getfield 7, 12, 7, 0, .null), none, none, some (.iconst 0, 13, 0, 0, .int (0)), some (.iload_n 1, 14, 1, 0, .null), some (.iadd, 15, 0, 0, .null), some (.iaload, 16, 0, 0, .null)],
 [some (.ishl, 17, 0, 0, .null), some (.if_icmp .ge 76, 20, 93, 0, .null), none, none, some (.aload_n 0, 21, 0, 0, .null), some (.getfield 7, 24, 7, 0, .null), none, none, some (.bipush 6, 26, 0, 0, .int (6)), none, some (.iload_n 2, 27, 2, 0, .null), some (.iadd, 28, 0, 0, .null), some (.iaload, 29, 0, 0, .null), some (.iconst 1, 30, 0, 0, .int (1)), some (.if_icmp .ne 63, 33, 93, 0, .null), none],
 [none, some (.aload_n 0, 34, 0, 0, .null), some (.iload_n 1, 35, 1, 0, .null), some (.iload 4, 37, 4, 0, .null), none, some (.invokevirtual 147, 40, 174, 3, .retAddr 7), none, none, some (.iload_n 3, 41, 3, 0, .null), some (.ifCond .lt 15, 44, 56, 0, .null), none, none, some (.iload 4, 46, 4, 0, .null), none, some (.invokestatic 155, 49, 176, 1, .null), none],
 [none, some (.iload_n 3, 50, 3, 0, .null), some (.invokestatic 155, 53, 176, 1, .null), none, none, some (.if_icmp .ge 7, 56, 60, 0, .null), none, none, some (.iconst 1, 57, 0, 0, .int (1)), some (.goto 4, 60, 61, 0, .null), none, none, some (.iconst 0, 61, 0, 0, .int (0)), some (.istore 5, 63, 5, 0, .null), none, some (.iload 5, 65, 5, 0, .null)],
 [none, some (.ifCond .eq 20, 68, 85, 0, .null), none, none, some (.aload_n 0, 69, 0, 0, .null), some (.aload_n 0, 70, 0, 0, .null), some (.invokevirtual 151, 73, 149, 1, .retAddr 7), none, none, some (.invokevirtual 135, 76, 150, 2, .retAddr 7), none, none, some (.iload_n 2, 77, 2, 0, .null), some (.if_icmp .ne 8, 80, 85, 0, .null), none, none],
 [some (.iload 4, 82, 4, 0, .null), none, some (.goto 4, 85, 86, 0, .null), none, none, some (.iload_n 3, 86, 3, 0, .null), some (.istore_n 3, 87, 3, 0, .null), some (.iinc 4 1, 90, 4, 0, .int (1)), none, none, some (.goto (-85), 93, 5, 0, .null), none, none, some (.iload_n 3, 94, 3, 0, .null), some (.ireturn, 95, 0, 0, .null)]],
  6, (some .int), 7, 177)
def kX7_fewest : aM := ([[some (.iload_n 1, 1, 1, 0, .null), some (.invokestatic 48, 4, 132, 1, .null), none, none, some (.ifCond .eq 10, 7, 14, 0, .null), none, none, some (.iload_n 2, 8, 2, 0, .null), some (.invokestatic 125, 11, 134, 1, .null), none, none, some (.ifCond .ne 10, 14, 21, 0, .null), none, none, some (.aload_n 0, 15, 0, 0, .null), some (.ldc 47, 17, 0, 0, .int (-1000000001))],
 [none, some (.invokevirtual 68, 20, 130, 2, .retAddr 7), none, none, some (.ireturn, 21, 0, 0, .null), some (.aload_n 0, 22, 0, 0, .null), some (.iload_n 1, 23, 1, 0, .null), some (.iload_n 2, 24, 2, 0, .null), some (.invokevirtual 158, 27, 177, 3, .retAddr 7), none, none, some (.istore_n 3, 28, 3, 0, .null), some (.iload_n 3, 29, 3, 0, .null), some (.ifCond .ge 12, 32, 41, 0, .null), none, none],
 [some (.aload_n 0, 33, 0, 0, .null), some (.ldc 132, 35, 0, 0, .int (-1000000004)), none, some (.invokevirtual 68, 38, 130, 2, .retAddr 7), none, none, some (.goto 7, 41, 45, 0, .null), none, none, some (.iload_n 3, 42, 3, 0, .null), some (.invokestatic 155, 45, 176, 1, .null), none, none, some (.ireturn, 46, 0, 0, .null)]],
  4, (some .int), 7, 178)
def kX7_which : aM := ([[some (.iload_n 1, 1, 1, 0, .null), some (.invokestatic 48, 4, 132, 1, .null), none, none, some (.ifCond .eq 23, 7, 27, 0, .null), none, none, some (.iload_n 2, 8, 2, 0, .null), some (.invokestatic 125, 11, 134, 1, .null), none, none, some (.ifCond .eq 16, 14, 27, 0, .null), none, none, some (.aload_n 0, 15, 0, 0, .null), some (.aload_n 0, 16, 0, 0, .null)],
 [some (.iload_n 1, 17, 1, 0, .null), some (.iload_n 2, 18, 2, 0, .null), some (.invokevirtual 158, 21, 177, 3, .retAddr 7), none, none, some (.invokevirtual 138, 24, 166, 2, .retAddr 7), none, none, some (.goto 9, 27, 33, 0, .null), none, none, some (.aload_n 0, 28, 0, 0, .null), some (.ldc 47, 30, 0, 0, .int (-1000000001)), none, some (.invokevirtual 68, 33, 130, 2, .retAddr 7), none],
 [none, some (.ireturn, 34, 0, 0, .null)]],
  3, (some .int), 7, 179)
def kX7_more : aM := ([[some (.iload_n 1, 1, 1, 0, .null), some (.invokestatic 48, 4, 132, 1, .null), none, none, some (.ifCond .eq 10, 7, 14, 0, .null), none, none, some (.iload_n 2, 8, 2, 0, .null), some (.invokestatic 125, 11, 134, 1, .null), none, none, some (.ifCond .ne 10, 14, 21, 0, .null), none, none, some (.aload_n 0, 15, 0, 0, .null), some (.ldc 47, 17, 0, 0, .int (-1000000001))],
 [none, some (.invokevirtual 68, 20, 130, 2, .retAddr 7), none, none, some (.ireturn, 21, 0, 0, .null), some (.aload_n 0, 22, 0, 0, .null), some (.iload_n 1, 23, 1, 0, .null), some (.invokevirtual 96, 26, 142, 2, .retAddr 7), none, none, some (.iconst 3, 27, 0, 0, .int (3)), some (.aload_n 0, 28, 0, 0, .null), some (.getfield 80, 31, 7, 11, .int 0), none, none, some (.imul, 32, 0, 0, .null)],
 [some (.istore_n 3, 33, 3, 0, .null), some (.aload_n 0, 34, 0, 0, .null), some (.dup, 35, 0, 0, .null), some (.getfield 80, 38, 7, 11, .int 0), none, none, some (.iconst 1, 39, 0, 0, .int (1)), some (.iadd, 40, 0, 0, .null), some (.putfield 80, 43, 7, 11, .int 0), none, none, some (.aload_n 0, 44, 0, 0, .null), some (.getfield 35, 47, 7, 10, .null), none, none, some (.iload_n 3, 48, 3, 0, .null)],
 [some (.iconst 2, 49, 0, 0, .int (2)), some (.iadd, 50, 0, 0, .null), some (.iconst 0, 51, 0, 0, .int (0)), some (.iastore, 52, 0, 0, .null), some (.iconst 1, 53, 0, 0, .int (1)), some (.istore 4, 55, 4, 0, .null), none, some (.iload 4, 57, 4, 0, .null), none, some (.bipush 60, 59, 0, 0, .int (60)), none, some (.if_icmp .ge 69, 62, 128, 0, .null), none, none, some (.aload_n 0, 63, 0, 0, .null), some (.getfield 7, 66, 7, 0, .null)],
 [none, none, some (.bipush 6, 68, 0, 0, .int (6)), none, some (.iload_n 2, 69, 2, 0, .null), some (.iadd, 70, 0, 0, .null), some (.iaload, 71, 0, 0, .null), some (.iconst 1, 72, 0, 0, .int (1)), some (.if_icmp .ne 56, 75, 128, 0, .null), none, none, some (.aload_n 0, 76, 0, 0, .null), some (.getfield 35, 79, 7, 10, .null), none, none, some (.iload_n 3, 80, 3, 0, .null)],
 [some (.iload 4, 82, 4, 0, .null), none, some (.bipush 10, 84, 0, 0, .int (10)), none, some (.idiv, 85, 0, 0, .null), some (.iastore, 86, 0, 0, .null), some (.aload_n 0, 87, 0, 0, .null), some (.getfield 35, 90, 7, 10, .null), none, none, some (.iload_n 3, 91, 3, 0, .null), some (.iconst 1, 92, 0, 0, .int (1)), some (.iadd, 93, 0, 0, .null), some (.iload 4, 95, 4, 0, .null), none, some (.bipush 10, 97, 0, 0, .int (10))],
 [none, some (.irem, 98, 0, 0, .null), some (.iastore, 99, 0, 0, .null), some (.iload 4, 101, 4, 0, .null), none, some (.bipush 10, 103, 0, 0, .int (10)), none, some (.irem, 104, 0, 0, .null), some (.ifCond .le 18, 107, 122, 0, .null), none, none, some (.aload_n 0, 108, 0, 0, .null), some (.aload_n 0, 109, 0, 0, .null), some (.invokevirtual 151, 112, 149, 1, .retAddr 7), none, none],
 [some (.invokevirtual 135, 115, 150, 2, .retAddr 7), none, none, some (.iload_n 2, 116, 2, 0, .null), some (.if_icmp .ne 6, 119, 122, 0, .null), none, none, some (.iload 4, 121, 4, 0, .null), none, some (.ireturn, 122, 0, 0, .null), some (.iinc 4 1, 125, 4, 0, .int (1)), none, none, some (.goto (-70), 128, 55, 0, .null), none, none],
 [some (.aload_n 0, 129, 0, 0, .null), some (.ldc 132, 131, 0, 0, .int (-1000000004)), none, some (.invokevirtual 68, 134, 130, 2, .retAddr 7), none, none, some (.ireturn, 135, 0, 0, .null)]],
  5, (some .int), 7, 180)
def kX7_beginsOrders : aM := ([[some (.iconst 0, 1, 0, 0, .int (0)), some (.istore_n 2, 2, 2, 0, .null), some (.iload_n 2, 3, 2, 0, .null), some (.bipush 7, 5, 0, 0, .int (7)), none, some (.if_icmp .ge 16, 8, 21, 0, .null), none, none, some (.aload_n 0, 9, 0, 0, .null), some (.getfield 38, 12, 7, 12, .null), none, none, some (.iload_n 2, 13, 2, 0, .null), some (.iload_n 2, 14, 2, 0, .null), some (.iastore, 15, 0, 0, .null), some (.iinc 2 1, 18, 2, 0, .int (1))],
 [none, none, some (.goto (-16), 21, 2, 0, .null), none, none, some (.aload_n 0, 22, 0, 0, .null), some (.iload_n 1, 23, 1, 0, .null), some (.invokevirtual 96, 26, 142, 2, .retAddr 7), none, none, some (.return_, 27, 0, 0, .null)]],
  3, none, 7, 181)
def kX7_hasNext : aM := ([[some (.aload_n 0, 1, 0, 0, .null), some (.getfield 7, 4, 7, 0, .null), none, none, some (.iconst 0, 5, 0, 0, .int (0)), some (.iload_n 1, 6, 1, 0, .null), some (.iadd, 7, 0, 0, .null), some (.iaload, 8, 0, 0, .null), some (.istore_n 2, 9, 2, 0, .null), some (.iload_n 2, 10, 2, 0, .null), some (.iconst 2, 11, 0, 0, .int (2)), some (.isub, 12, 0, 0, .null), some (.istore_n 3, 13, 3, 0, .null), some (.iload_n 3, 14, 3, 0, .null), some (.ifCond .lt 26, 17, 40, 0, .null), none],
 [none, some (.aload_n 0, 18, 0, 0, .null), some (.getfield 38, 21, 7, 12, .null), none, none, some (.iload_n 3, 22, 3, 0, .null), some (.iaload, 23, 0, 0, .null), some (.aload_n 0, 24, 0, 0, .null), some (.getfield 38, 27, 7, 12, .null), none, none, some (.iload_n 3, 28, 3, 0, .null), some (.iconst 1, 29, 0, 0, .int (1)), some (.iadd, 30, 0, 0, .null), some (.iaload, 31, 0, 0, .null), some (.if_icmp .le 9, 34, 40, 0, .null)],
 [none, none, some (.iinc 3 (-1), 37, 3, 0, .int (-1)), none, none, some (.goto (-24), 40, 13, 0, .null), none, none, some (.iload_n 3, 41, 3, 0, .null), some (.ifCond .ge 5, 44, 46, 0, .null), none, none, some (.iconst 0, 45, 0, 0, .int (0)), some (.ireturn, 46, 0, 0, .null), some (.iload_n 2, 47, 2, 0, .null), some (.iconst 1, 48, 0, 0, .int (1))],
 [some (.isub, 49, 0, 0, .null), some (.istore 4, 51, 4, 0, .null), none, some (.aload_n 0, 52, 0, 0, .null), some (.getfield 38, 55, 7, 12, .null), none, none, some (.iload 4, 57, 4, 0, .null), none, some (.iaload, 58, 0, 0, .null), some (.aload_n 0, 59, 0, 0, .null), some (.getfield 38, 62, 7, 12, .null), none, none, some (.iload_n 3, 63, 3, 0, .null), some (.iaload, 64, 0, 0, .null)],
 [some (.if_icmp .ge 9, 67, 73, 0, .null), none, none, some (.iinc 4 (-1), 70, 4, 0, .int (-1)), none, none, some (.goto (-19), 73, 51, 0, .null), none, none, some (.aload_n 0, 74, 0, 0, .null), some (.iload_n 3, 75, 3, 0, .null), some (.iload 4, 77, 4, 0, .null), none, some (.invokevirtual 161, 80, 183, 3, .retAddr 7), none, none],
 [some (.iload_n 3, 81, 3, 0, .null), some (.iconst 1, 82, 0, 0, .int (1)), some (.iadd, 83, 0, 0, .null), some (.istore 5, 85, 5, 0, .null), none, some (.iload_n 2, 86, 2, 0, .null), some (.iconst 1, 87, 0, 0, .int (1)), some (.isub, 88, 0, 0, .null), some (.istore 6, 90, 6, 0, .null), none, some (.iload 5, 92, 5, 0, .null), none, some (.iload 6, 94, 6, 0, .null), none, some (.if_icmp .ge 20, 97, 114, 0, .null), none],
 [none, some (.aload_n 0, 98, 0, 0, .null), some (.iload 5, 100, 5, 0, .null), none, some (.iload 6, 102, 6, 0, .null), none, some (.invokevirtual 161, 105, 183, 3, .retAddr 7), none, none, some (.iinc 5 1, 108, 5, 0, .int (1)), none, none, some (.iinc 6 (-1), 111, 6, 0, .int (-1)), none, none, some (.goto (-21), 114, 90, 0, .null)],
 [none, none, some (.aload_n 0, 115, 0, 0, .null), some (.iload_n 1, 116, 1, 0, .null), some (.invokevirtual 164, 119, 184, 2, .retAddr 7), none, none, some (.iconst 1, 120, 0, 0, .int (1)), some (.ireturn, 121, 0, 0, .null)]],
  7, (some .boolean), 7, 182)
def kX7_swapsOrder : aM := ([[some (.aload_n 0, 1, 0, 0, .null), some (.getfield 38, 4, 7, 12, .null), none, none, some (.iload_n 1, 5, 1, 0, .null), some (.iaload, 6, 0, 0, .null), some (.istore_n 3, 7, 3, 0, .null), some (.aload_n 0, 8, 0, 0, .null), some (.getfield 38, 11, 7, 12, .null), none, none, some (.iload_n 1, 12, 1, 0, .null), some (.aload_n 0, 13, 0, 0, .null), some (.getfield 38, 16, 7, 12, .null), none, none],
 [some (.iload_n 2, 17, 2, 0, .null), some (.iaload, 18, 0, 0, .null), some (.iastore, 19, 0, 0, .null), some (.aload_n 0, 20, 0, 0, .null), some (.getfield 38, 23, 7, 12, .null), none, none, some (.iload_n 2, 24, 2, 0, .null), some (.iload_n 3, 25, 3, 0, .null), some (.iastore, 26, 0, 0, .null), some (.return_, 27, 0, 0, .null)]],
  4, none, 7, 183)
def kX7_laysOrder : aM := ([[some (.iconst 0, 1, 0, 0, .int (0)), some (.istore_n 2, 2, 2, 0, .null), some (.iload_n 2, 3, 2, 0, .null), some (.aload_n 0, 4, 0, 0, .null), some (.getfield 80, 7, 7, 11, .int 0), none, none, some (.if_icmp .ge 49, 10, 56, 0, .null), none, none, some (.iconst 0, 11, 0, 0, .int (0)), some (.istore_n 3, 12, 3, 0, .null), some (.iload_n 3, 13, 3, 0, .null), some (.iconst 3, 14, 0, 0, .int (3)), some (.if_icmp .ge 36, 17, 50, 0, .null), none],
 [none, some (.aload_n 0, 18, 0, 0, .null), some (.getfield 35, 21, 7, 10, .null), none, none, some (.iconst 3, 22, 0, 0, .int (3)), some (.iload_n 2, 23, 2, 0, .null), some (.imul, 24, 0, 0, .null), some (.iload_n 3, 25, 3, 0, .null), some (.iadd, 26, 0, 0, .null), some (.aload_n 0, 27, 0, 0, .null), some (.getfield 7, 30, 7, 0, .null), none, none, some (.iload_n 1, 31, 1, 0, .null), some (.aload_n 0, 32, 0, 0, .null)],
 [some (.getfield 38, 35, 7, 12, .null), none, none, some (.iload_n 2, 36, 2, 0, .null), some (.iaload, 37, 0, 0, .null), some (.invokestatic 52, 40, 135, 2, .null), none, none, some (.iload_n 3, 41, 3, 0, .null), some (.iadd, 42, 0, 0, .null), some (.iaload, 43, 0, 0, .null), some (.iastore, 44, 0, 0, .null), some (.iinc 3 1, 47, 3, 0, .int (1)), none, none, some (.goto (-35), 50, 12, 0, .null)],
 [none, none, some (.iinc 2 1, 53, 2, 0, .int (1)), none, none, some (.goto (-51), 56, 2, 0, .null), none, none, some (.return_, 57, 0, 0, .null)]],
  4, none, 7, 184)
def kX7_orders : aM := ([[some (.iload_n 1, 1, 1, 0, .null), some (.invokestatic 48, 4, 132, 1, .null), none, none, some (.ifCond .eq 10, 7, 14, 0, .null), none, none, some (.iload_n 2, 8, 2, 0, .null), some (.invokestatic 125, 11, 134, 1, .null), none, none, some (.ifCond .ne 10, 14, 21, 0, .null), none, none, some (.aload_n 0, 15, 0, 0, .null), some (.ldc 47, 17, 0, 0, .int (-1000000001))],
 [none, some (.invokevirtual 68, 20, 130, 2, .retAddr 7), none, none, some (.ireturn, 21, 0, 0, .null), some (.aload_n 0, 22, 0, 0, .null), some (.getfield 7, 25, 7, 0, .null), none, none, some (.bipush 6, 27, 0, 0, .int (6)), none, some (.iload_n 2, 28, 2, 0, .null), some (.iadd, 29, 0, 0, .null), some (.iaload, 30, 0, 0, .null), some (.ifCond .ne 10, 33, 40, 0, .null), none],
 [none, some (.aload_n 0, 34, 0, 0, .null), some (.ldc 132, 36, 0, 0, .int (-1000000004)), none, some (.invokevirtual 68, 39, 130, 2, .retAddr 7), none, none, some (.ireturn, 40, 0, 0, .null), some (.iconst 0, 41, 0, 0, .int (0)), some (.istore_n 3, 42, 3, 0, .null), some (.aload_n 0, 43, 0, 0, .null), some (.iload_n 1, 44, 1, 0, .null), some (.invokevirtual 167, 47, 181, 2, .retAddr 7), none, none, some (.iconst 1, 48, 0, 0, .int (1))],
 [some (.istore 4, 50, 4, 0, .null), none, some (.iload 4, 52, 4, 0, .null), none, some (.ifCond .eq 33, 55, 85, 0, .null), none, none, some (.iload_n 3, 56, 3, 0, .null), some (.aload_n 0, 57, 0, 0, .null), some (.aload_n 0, 58, 0, 0, .null), some (.invokevirtual 151, 61, 149, 1, .retAddr 7), none, none, some (.invokevirtual 135, 64, 150, 2, .retAddr 7), none, none],
 [some (.iload_n 2, 65, 2, 0, .null), some (.if_icmp .ne 7, 68, 72, 0, .null), none, none, some (.iconst 1, 69, 0, 0, .int (1)), some (.goto 4, 72, 73, 0, .null), none, none, some (.iconst 0, 73, 0, 0, .int (0)), some (.iadd, 74, 0, 0, .null), some (.istore_n 3, 75, 3, 0, .null), some (.aload_n 0, 76, 0, 0, .null), some (.iload_n 1, 77, 1, 0, .null), some (.invokevirtual 170, 80, 182, 2, .retAddr 7), none, none],
 [some (.istore 4, 82, 4, 0, .null), none, some (.goto (-32), 85, 50, 0, .null), none, none, some (.iload_n 3, 86, 3, 0, .null), some (.ireturn, 87, 0, 0, .null)]],
  5, (some .int), 7, 185)
def kX7_furthest : aM := ([[some (.aload_n 0, 1, 0, 0, .null), some (.iload_n 1, 2, 1, 0, .null), some (.invokevirtual 167, 5, 181, 2, .retAddr 7), none, none, some (.aload_n 0, 6, 0, 0, .null), some (.invokevirtual 151, 9, 149, 1, .retAddr 7), none, none, some (.istore_n 3, 10, 3, 0, .null), some (.aload_n 0, 11, 0, 0, .null), some (.iload_n 1, 12, 1, 0, .null), some (.invokevirtual 170, 15, 182, 2, .retAddr 7), none, none, some (.ifCond .eq 27, 18, 42, 0, .null)],
 [none, none, some (.iload_n 2, 19, 2, 0, .null), some (.aload_n 0, 20, 0, 0, .null), some (.invokevirtual 151, 23, 149, 1, .retAddr 7), none, none, some (.imul, 24, 0, 0, .null), some (.iload_n 2, 25, 2, 0, .null), some (.iload_n 3, 26, 3, 0, .null), some (.imul, 27, 0, 0, .null), some (.if_icmp .le 10, 30, 37, 0, .null), none, none, some (.aload_n 0, 31, 0, 0, .null), some (.invokevirtual 151, 34, 149, 1, .retAddr 7)],
 [none, none, some (.goto 4, 37, 38, 0, .null), none, none, some (.iload_n 3, 38, 3, 0, .null), some (.istore_n 3, 39, 3, 0, .null), some (.goto (-29), 42, 10, 0, .null), none, none, some (.iload_n 3, 43, 3, 0, .null), some (.ireturn, 44, 0, 0, .null)]],
  4, (some .int), 7, 186)
def kX7_most : aM := ([[some (.iload_n 1, 1, 1, 0, .null), some (.invokestatic 48, 4, 132, 1, .null), none, none, some (.ifCond .eq 12, 7, 16, 0, .null), none, none, some (.aload_n 0, 8, 0, 0, .null), some (.iload_n 1, 9, 1, 0, .null), some (.iconst 1, 10, 0, 0, .int (1)), some (.invokevirtual 173, 13, 186, 3, .retAddr 7), none, none, some (.goto 9, 16, 22, 0, .null), none, none],
 [some (.aload_n 0, 17, 0, 0, .null), some (.ldc 47, 19, 0, 0, .int (-1000000001)), none, some (.invokevirtual 68, 22, 130, 2, .retAddr 7), none, none, some (.ireturn, 23, 0, 0, .null)]],
  2, (some .int), 7, 187)
def kX7_least : aM := ([[some (.iload_n 1, 1, 1, 0, .null), some (.invokestatic 48, 4, 132, 1, .null), none, none, some (.ifCond .eq 12, 7, 16, 0, .null), none, none, some (.aload_n 0, 8, 0, 0, .null), some (.iload_n 1, 9, 1, 0, .null), some (.iconst (-1), 10, 0, 0, .int (-1)), some (.invokevirtual 173, 13, 186, 3, .retAddr 7), none, none, some (.goto 9, 16, 22, 0, .null), none, none],
 [some (.aload_n 0, 17, 0, 0, .null), some (.ldc 47, 19, 0, 0, .int (-1000000001)), none, some (.invokevirtual 68, 22, 130, 2, .retAddr 7), none, none, some (.ireturn, 23, 0, 0, .null)]],
  2, (some .int), 7, 188)
def kX7_notesOrder : aM := ([[some (.iconst 0, 1, 0, 0, .int (0)), some (.istore_n 1, 2, 1, 0, .null), some (.iload_n 1, 3, 1, 0, .null), some (.bipush 7, 5, 0, 0, .int (7)), none, some (.if_icmp .ge 21, 8, 26, 0, .null), none, none, some (.aload_n 0, 9, 0, 0, .null), some (.getfield 41, 12, 7, 13, .null), none, none, some (.iload_n 1, 13, 1, 0, .null), some (.aload_n 0, 14, 0, 0, .null), some (.getfield 38, 17, 7, 12, .null), none],
 [none, some (.iload_n 1, 18, 1, 0, .null), some (.iaload, 19, 0, 0, .null), some (.iastore, 20, 0, 0, .null), some (.iinc 1 1, 23, 1, 0, .int (1)), none, none, some (.goto (-21), 26, 2, 0, .null), none, none, some (.return_, 27, 0, 0, .null)]],
  2, none, 7, 189)
def kX7_order : aM := ([[some (.iload_n 1, 1, 1, 0, .null), some (.invokestatic 48, 4, 132, 1, .null), none, none, some (.ifCond .eq 17, 7, 21, 0, .null), none, none, some (.iload_n 2, 8, 2, 0, .null), some (.i2l, 9, 0, 0, .null), some (.ldc2_w 133, 12, 0, 0, .long (-9999)), none, none, some (.ldc2_w 130, 15, 0, 0, .long (9999)), none, none, some (.invokestatic 58, 18, 129, 3, .null)],
 [none, none, some (.ifCond .ne 10, 21, 28, 0, .null), none, none, some (.aload_n 0, 22, 0, 0, .null), some (.ldc 47, 24, 0, 0, .int (-1000000001)), none, some (.invokevirtual 68, 27, 130, 2, .retAddr 7), none, none, some (.ireturn, 28, 0, 0, .null), some (.aload_n 0, 29, 0, 0, .null), some (.iload_n 1, 30, 1, 0, .null), some (.invokevirtual 167, 33, 181, 2, .retAddr 7), none],
 [none, some (.aload_n 0, 34, 0, 0, .null), some (.invokevirtual 151, 37, 149, 1, .retAddr 7), none, none, some (.istore_n 3, 38, 3, 0, .null), some (.aload_n 0, 39, 0, 0, .null), some (.invokevirtual 176, 42, 189, 1, .retAddr 7), none, none, some (.aload_n 0, 43, 0, 0, .null), some (.iload_n 1, 44, 1, 0, .null), some (.invokevirtual 170, 47, 182, 2, .retAddr 7), none, none, some (.ifCond .eq 33, 50, 80, 0, .null)],
 [none, none, some (.aload_n 0, 51, 0, 0, .null), some (.invokevirtual 151, 54, 149, 1, .retAddr 7), none, none, some (.istore 4, 56, 4, 0, .null), none, some (.iload 4, 58, 4, 0, .null), none, some (.iload_n 2, 59, 2, 0, .null), some (.invokestatic 103, 62, 137, 2, .null), none, none, some (.iload_n 3, 63, 3, 0, .null), some (.iload_n 2, 64, 2, 0, .null)],
 [some (.invokestatic 103, 67, 137, 2, .null), none, none, some (.if_icmp .ge 10, 70, 77, 0, .null), none, none, some (.iload 4, 72, 4, 0, .null), none, some (.istore_n 3, 73, 3, 0, .null), some (.aload_n 0, 74, 0, 0, .null), some (.invokevirtual 176, 77, 189, 1, .retAddr 7), none, none, some (.goto (-35), 80, 42, 0, .null), none, none],
 [some (.iconst 0, 81, 0, 0, .int (0)), some (.istore 4, 83, 4, 0, .null), none, some (.iload 4, 85, 4, 0, .null), none, some (.bipush 7, 87, 0, 0, .int (7)), none, some (.if_icmp .ge 23, 90, 110, 0, .null), none, none, some (.aload_n 0, 91, 0, 0, .null), some (.getfield 38, 94, 7, 12, .null), none, none, some (.iload 4, 96, 4, 0, .null), none],
 [some (.aload_n 0, 97, 0, 0, .null), some (.getfield 41, 100, 7, 13, .null), none, none, some (.iload 4, 102, 4, 0, .null), none, some (.iaload, 103, 0, 0, .null), some (.iastore, 104, 0, 0, .null), some (.iinc 4 1, 107, 4, 0, .int (1)), none, none, some (.goto (-24), 110, 83, 0, .null), none, none, some (.aload_n 0, 111, 0, 0, .null), some (.iload_n 1, 112, 1, 0, .null)],
 [some (.invokevirtual 164, 115, 184, 2, .retAddr 7), none, none, some (.aload_n 0, 116, 0, 0, .null), some (.iload_n 1, 117, 1, 0, .null), some (.invokevirtual 117, 120, 158, 2, .retAddr 7), none, none, some (.iload_n 3, 121, 3, 0, .null), some (.ireturn, 122, 0, 0, .null)]],
  5, (some .int), 7, 190)
def kX7_worths : aM := ([[some (.iload_n 1, 1, 1, 0, .null), some (.invokestatic 48, 4, 132, 1, .null), none, none, some (.ifCond .ne 10, 7, 14, 0, .null), none, none, some (.aload_n 0, 8, 0, 0, .null), some (.ldc 47, 10, 0, 0, .int (-1000000001)), none, some (.invokevirtual 68, 13, 130, 2, .retAddr 7), none, none, some (.ireturn, 14, 0, 0, .null), some (.aload_n 0, 15, 0, 0, .null), some (.dup, 16, 0, 0, .null)],
 [some (.getfield 179, 19, 7, 15, .int 0), none, none, some (.iconst 1, 20, 0, 0, .int (1)), some (.iadd, 21, 0, 0, .null), some (.putfield 179, 24, 7, 15, .int 0), none, none, some (.iconst 0, 25, 0, 0, .int (0)), some (.istore_n 2, 26, 2, 0, .null), some (.aload_n 0, 27, 0, 0, .null), some (.iload_n 1, 28, 1, 0, .null), some (.invokevirtual 167, 31, 181, 2, .retAddr 7), none, none, some (.iconst 1, 32, 0, 0, .int (1))],
 [some (.istore_n 3, 33, 3, 0, .null), some (.iload_n 3, 34, 3, 0, .null), some (.ifCond .eq 55, 37, 89, 0, .null), none, none, some (.aload_n 0, 38, 0, 0, .null), some (.invokevirtual 151, 41, 149, 1, .retAddr 7), none, none, some (.sipush 9999, 44, 0, 0, .int (9999)), none, none, some (.iadd, 45, 0, 0, .null), some (.istore 4, 47, 4, 0, .null), none, some (.iload_n 2, 48, 2, 0, .null)],
 [some (.aload_n 0, 49, 0, 0, .null), some (.getfield 44, 52, 7, 14, .null), none, none, some (.iload 4, 54, 4, 0, .null), none, some (.iaload, 55, 0, 0, .null), some (.aload_n 0, 56, 0, 0, .null), some (.getfield 179, 59, 7, 15, .int 0), none, none, some (.if_icmp .ne 7, 62, 66, 0, .null), none, none, some (.iconst 0, 63, 0, 0, .int (0)), some (.goto 4, 66, 67, 0, .null)],
 [none, none, some (.iconst 1, 67, 0, 0, .int (1)), some (.iadd, 68, 0, 0, .null), some (.istore_n 2, 69, 2, 0, .null), some (.aload_n 0, 70, 0, 0, .null), some (.getfield 44, 73, 7, 14, .null), none, none, some (.iload 4, 75, 4, 0, .null), none, some (.aload_n 0, 76, 0, 0, .null), some (.getfield 179, 79, 7, 15, .int 0), none, none, some (.iastore, 80, 0, 0, .null)],
 [some (.aload_n 0, 81, 0, 0, .null), some (.iload_n 1, 82, 1, 0, .null), some (.invokevirtual 170, 85, 182, 2, .retAddr 7), none, none, some (.istore_n 3, 86, 3, 0, .null), some (.goto (-53), 89, 33, 0, .null), none, none, some (.iload_n 2, 90, 2, 0, .null), some (.ireturn, 91, 0, 0, .null)]],
  5, (some .int), 7, 191)
def kX7_can : aM := ([[some (.iload_n 1, 1, 1, 0, .null), some (.invokestatic 48, 4, 132, 1, .null), none, none, some (.ifCond .ne 10, 7, 14, 0, .null), none, none, some (.aload_n 0, 8, 0, 0, .null), some (.ldc 47, 10, 0, 0, .int (-1000000001)), none, some (.invokevirtual 68, 13, 130, 2, .retAddr 7), none, none, some (.ireturn, 14, 0, 0, .null), some (.aload_n 0, 15, 0, 0, .null), some (.iconst 0, 16, 0, 0, .int (0))],
 [some (.invokevirtual 135, 19, 150, 2, .retAddr 7), none, none, some (.ifCond .ge 10, 22, 29, 0, .null), none, none, some (.aload_n 0, 23, 0, 0, .null), some (.ldc 132, 25, 0, 0, .int (-1000000004)), none, some (.invokevirtual 68, 28, 130, 2, .retAddr 7), none, none, some (.ireturn, 29, 0, 0, .null), some (.iconst 0, 30, 0, 0, .int (0)), some (.istore_n 2, 31, 2, 0, .null), some (.aload_n 0, 32, 0, 0, .null)],
 [some (.iload_n 1, 33, 1, 0, .null), some (.invokevirtual 167, 36, 181, 2, .retAddr 7), none, none, some (.iconst 1, 37, 0, 0, .int (1)), some (.istore_n 3, 38, 3, 0, .null), some (.iload_n 3, 39, 3, 0, .null), some (.ifCond .eq 25, 42, 64, 0, .null), none, none, some (.iload_n 2, 43, 2, 0, .null), some (.iconst 1, 44, 0, 0, .int (1)), some (.aload_n 0, 45, 0, 0, .null), some (.aload_n 0, 46, 0, 0, .null), some (.invokevirtual 151, 49, 149, 1, .retAddr 7), none],
 [none, some (.invokevirtual 135, 52, 150, 2, .retAddr 7), none, none, some (.ishl, 53, 0, 0, .null), some (.ior, 54, 0, 0, .null), some (.istore_n 2, 55, 2, 0, .null), some (.aload_n 0, 56, 0, 0, .null), some (.iload_n 1, 57, 1, 0, .null), some (.invokevirtual 170, 60, 182, 2, .retAddr 7), none, none, some (.istore_n 3, 61, 3, 0, .null), some (.goto (-23), 64, 38, 0, .null), none, none],
 [some (.iload_n 2, 65, 2, 0, .null), some (.ireturn, 66, 0, 0, .null)]],
  4, (some .int), 7, 192)
def kX7_join : aM := ([[some (.iload_n 1, 1, 1, 0, .null), some (.invokestatic 48, 4, 132, 1, .null), none, none, some (.ifCond .eq 15, 7, 19, 0, .null), none, none, some (.iload_n 2, 8, 2, 0, .null), some (.invokestatic 48, 11, 132, 1, .null), none, none, some (.ifCond .eq 8, 14, 19, 0, .null), none, none, some (.iload_n 1, 15, 1, 0, .null), some (.iload_n 2, 16, 2, 0, .null)],
 [some (.if_icmp .ne 10, 19, 26, 0, .null), none, none, some (.aload_n 0, 20, 0, 0, .null), some (.ldc 47, 22, 0, 0, .int (-1000000001)), none, some (.invokevirtual 68, 25, 130, 2, .retAddr 7), none, none, some (.ireturn, 26, 0, 0, .null), some (.iconst 0, 27, 0, 0, .int (0)), some (.istore_n 3, 28, 3, 0, .null), some (.sipush (-10000), 31, 0, 0, .int (-10000)), none, none, some (.istore 4, 33, 4, 0, .null)],
 [none, some (.iconst 0, 34, 0, 0, .int (0)), some (.istore 5, 36, 5, 0, .null), none, some (.iload 5, 38, 5, 0, .null), none, some (.aload_n 0, 39, 0, 0, .null), some (.getfield 7, 42, 7, 0, .null), none, none, some (.iconst 0, 43, 0, 0, .int (0)), some (.iload_n 1, 44, 1, 0, .null), some (.iadd, 45, 0, 0, .null), some (.iaload, 46, 0, 0, .null), some (.if_icmp .gt 126, 49, 172, 0, .null), none],
 [none, some (.aload_n 0, 50, 0, 0, .null), some (.iload_n 2, 51, 2, 0, .null), some (.invokevirtual 96, 54, 142, 2, .retAddr 7), none, none, some (.iload 5, 56, 5, 0, .null), none, some (.istore 6, 58, 6, 0, .null), none, some (.iload 6, 60, 6, 0, .null), none, some (.aload_n 0, 61, 0, 0, .null), some (.getfield 7, 64, 7, 0, .null), none, none],
 [some (.iconst 0, 65, 0, 0, .int (0)), some (.iload_n 1, 66, 1, 0, .null), some (.iadd, 67, 0, 0, .null), some (.iaload, 68, 0, 0, .null), some (.if_icmp .ge 62, 71, 130, 0, .null), none, none, some (.iconst 0, 72, 0, 0, .int (0)), some (.istore 7, 74, 7, 0, .null), none, some (.iload 7, 76, 7, 0, .null), none, some (.iconst 3, 77, 0, 0, .int (3)), some (.if_icmp .ge 37, 80, 114, 0, .null), none, none],
 [some (.aload_n 0, 81, 0, 0, .null), some (.getfield 35, 84, 7, 10, .null), none, none, some (.iconst 3, 85, 0, 0, .int (3)), some (.aload_n 0, 86, 0, 0, .null), some (.getfield 80, 89, 7, 11, .int 0), none, none, some (.imul, 90, 0, 0, .null), some (.iload 7, 92, 7, 0, .null), none, some (.iadd, 93, 0, 0, .null), some (.aload_n 0, 94, 0, 0, .null), some (.getfield 7, 97, 7, 0, .null), none],
 [none, some (.iload_n 1, 98, 1, 0, .null), some (.iload 6, 100, 6, 0, .null), none, some (.invokestatic 52, 103, 135, 2, .null), none, none, some (.iload 7, 105, 7, 0, .null), none, some (.iadd, 106, 0, 0, .null), some (.iaload, 107, 0, 0, .null), some (.iastore, 108, 0, 0, .null), some (.iinc 7 1, 111, 7, 0, .int (1)), none, none, some (.goto (-37), 114, 74, 0, .null)],
 [none, none, some (.aload_n 0, 115, 0, 0, .null), some (.dup, 116, 0, 0, .null), some (.getfield 80, 119, 7, 11, .int 0), none, none, some (.iconst 1, 120, 0, 0, .int (1)), some (.iadd, 121, 0, 0, .null), some (.putfield 80, 124, 7, 11, .int 0), none, none, some (.iinc 6 1, 127, 6, 0, .int (1)), none, none, some (.goto (-69), 130, 58, 0, .null)],
 [none, none, some (.aload_n 0, 131, 0, 0, .null), some (.invokevirtual 151, 134, 149, 1, .retAddr 7), none, none, some (.istore 6, 136, 6, 0, .null), none, some (.iload 6, 138, 6, 0, .null), none, some (.iload 4, 140, 4, 0, .null), none, some (.if_icmp .le 8, 143, 148, 0, .null), none, none, some (.iload 5, 145, 5, 0, .null)],
 [none, some (.goto 4, 148, 149, 0, .null), none, none, some (.iload_n 3, 149, 3, 0, .null), some (.istore_n 3, 150, 3, 0, .null), some (.iload 6, 152, 6, 0, .null), none, some (.iload 4, 154, 4, 0, .null), none, some (.if_icmp .le 8, 157, 162, 0, .null), none, none, some (.iload 6, 159, 6, 0, .null), none, some (.goto 5, 162, 164, 0, .null)],
 [none, none, some (.iload 4, 164, 4, 0, .null), none, some (.istore 4, 166, 4, 0, .null), none, some (.iinc 5 1, 169, 5, 0, .int (1)), none, none, some (.goto (-133), 172, 36, 0, .null), none, none, some (.iload_n 3, 173, 3, 0, .null), some (.ireturn, 174, 0, 0, .null)]],
  8, (some .int), 7, 193)
def kX7_same : aM := ([[some (.iload_n 1, 1, 1, 0, .null), some (.invokestatic 48, 4, 132, 1, .null), none, none, some (.ifCond .eq 10, 7, 14, 0, .null), none, none, some (.iload_n 2, 8, 2, 0, .null), some (.invokestatic 48, 11, 132, 1, .null), none, none, some (.ifCond .ne 10, 14, 21, 0, .null), none, none, some (.aload_n 0, 15, 0, 0, .null), some (.ldc 47, 17, 0, 0, .int (-1000000001))],
 [none, some (.invokevirtual 68, 20, 130, 2, .retAddr 7), none, none, some (.ireturn, 21, 0, 0, .null), some (.iconst 0, 22, 0, 0, .int (0)), some (.istore_n 3, 23, 3, 0, .null), some (.iconst 0, 24, 0, 0, .int (0)), some (.istore 4, 26, 4, 0, .null), none, some (.aload_n 0, 27, 0, 0, .null), some (.iload_n 1, 28, 1, 0, .null), some (.iload 4, 30, 4, 0, .null), none, some (.invokevirtual 77, 33, 133, 3, .retAddr 7), none],
 [none, some (.ifCond .eq 81, 36, 114, 0, .null), none, none, some (.aload_n 0, 37, 0, 0, .null), some (.iload_n 2, 38, 2, 0, .null), some (.iload 4, 40, 4, 0, .null), none, some (.invokevirtual 77, 43, 133, 3, .retAddr 7), none, none, some (.ifCond .eq 71, 46, 114, 0, .null), none, none, some (.iload_n 1, 47, 1, 0, .null), some (.iload 4, 49, 4, 0, .null)],
 [none, some (.invokestatic 52, 52, 135, 2, .null), none, none, some (.istore 5, 54, 5, 0, .null), none, some (.iload_n 2, 55, 2, 0, .null), some (.iload 4, 57, 4, 0, .null), none, some (.invokestatic 52, 60, 135, 2, .null), none, none, some (.istore 6, 62, 6, 0, .null), none, some (.iload_n 3, 63, 3, 0, .null), some (.aload_n 0, 64, 0, 0, .null)],
 [some (.getfield 7, 67, 7, 0, .null), none, none, some (.iload 5, 69, 5, 0, .null), none, some (.iaload, 70, 0, 0, .null), some (.aload_n 0, 71, 0, 0, .null), some (.getfield 7, 74, 7, 0, .null), none, none, some (.iload 6, 76, 6, 0, .null), none, some (.iaload, 77, 0, 0, .null), some (.if_icmp .ne 28, 80, 105, 0, .null), none, none],
 [some (.aload_n 0, 81, 0, 0, .null), some (.getfield 7, 84, 7, 0, .null), none, none, some (.iload 5, 86, 5, 0, .null), none, some (.iconst 1, 87, 0, 0, .int (1)), some (.iadd, 88, 0, 0, .null), some (.iaload, 89, 0, 0, .null), some (.aload_n 0, 90, 0, 0, .null), some (.getfield 7, 93, 7, 0, .null), none, none, some (.iload 6, 95, 6, 0, .null), none, some (.iconst 1, 96, 0, 0, .int (1))],
 [some (.iadd, 97, 0, 0, .null), some (.iaload, 98, 0, 0, .null), some (.if_icmp .ne 7, 101, 105, 0, .null), none, none, some (.iconst 1, 102, 0, 0, .int (1)), some (.goto 4, 105, 106, 0, .null), none, none, some (.iconst 0, 106, 0, 0, .int (0)), some (.iadd, 107, 0, 0, .null), some (.istore_n 3, 108, 3, 0, .null), some (.iinc 4 1, 111, 4, 0, .int (1)), none, none, some (.goto (-85), 114, 26, 0, .null)],
 [none, none, some (.iload_n 3, 115, 3, 0, .null), some (.ireturn, 116, 0, 0, .null)]],
  7, (some .int), 7, 194)
def kX7_best : aM := ([[some (.iload_n 1, 1, 1, 0, .null), some (.invokestatic 125, 4, 134, 1, .null), none, none, some (.ifCond .ne 10, 7, 14, 0, .null), none, none, some (.aload_n 0, 8, 0, 0, .null), some (.ldc 47, 10, 0, 0, .int (-1000000001)), none, some (.invokevirtual 68, 13, 130, 2, .retAddr 7), none, none, some (.ireturn, 14, 0, 0, .null), some (.iconst (-1), 15, 0, 0, .int (-1)), some (.istore_n 2, 16, 2, 0, .null)],
 [some (.iconst 0, 17, 0, 0, .int (0)), some (.istore_n 3, 18, 3, 0, .null), some (.iconst 0, 19, 0, 0, .int (0)), some (.istore 4, 21, 4, 0, .null), none, some (.iload 4, 23, 4, 0, .null), none, some (.iconst 4, 24, 0, 0, .int (4)), some (.if_icmp .ge 60, 27, 84, 0, .null), none, none, some (.aload_n 0, 28, 0, 0, .null), some (.getfield 7, 31, 7, 0, .null), none, none, some (.bipush 6, 33, 0, 0, .int (6))],
 [none, some (.iload_n 1, 34, 1, 0, .null), some (.iadd, 35, 0, 0, .null), some (.iaload, 36, 0, 0, .null), some (.iconst 1, 37, 0, 0, .int (1)), some (.if_icmp .ne 47, 40, 84, 0, .null), none, none, some (.aload_n 0, 41, 0, 0, .null), some (.iload 4, 43, 4, 0, .null), none, some (.iload_n 1, 44, 1, 0, .null), some (.invokevirtual 144, 47, 172, 3, .retAddr 7), none, none, some (.invokestatic 155, 50, 176, 1, .null)],
 [none, none, some (.istore 5, 52, 5, 0, .null), none, some (.iload 5, 54, 5, 0, .null), none, some (.iload_n 3, 55, 3, 0, .null), some (.if_icmp .le 8, 58, 63, 0, .null), none, none, some (.iload 4, 60, 4, 0, .null), none, some (.goto 4, 63, 64, 0, .null), none, none, some (.iload_n 2, 64, 2, 0, .null)],
 [some (.istore_n 2, 65, 2, 0, .null), some (.iload 5, 67, 5, 0, .null), none, some (.iload_n 3, 68, 3, 0, .null), some (.if_icmp .le 8, 71, 76, 0, .null), none, none, some (.iload 5, 73, 5, 0, .null), none, some (.goto 4, 76, 77, 0, .null), none, none, some (.iload_n 3, 77, 3, 0, .null), some (.istore_n 3, 78, 3, 0, .null), some (.iinc 4 1, 81, 4, 0, .int (1)), none],
 [none, some (.goto (-60), 84, 21, 0, .null), none, none, some (.aload_n 0, 85, 0, 0, .null), some (.iload_n 2, 86, 2, 0, .null), some (.invokevirtual 138, 89, 166, 2, .retAddr 7), none, none, some (.ireturn, 90, 0, 0, .null)]],
  6, (some .int), 7, 195)
def kX7_feed : aM := ([[some (.iload_n 2, 1, 2, 0, .null), some (.i2l, 2, 0, 0, .null), some (.lconst 1, 3, 0, 0, .long 1), some (.ldc2_w 106, 6, 0, 0, .long (4)), none, none, some (.invokestatic 58, 9, 129, 3, .null), none, none, some (.ifCond .ne 10, 12, 19, 0, .null), none, none, some (.aload_n 0, 13, 0, 0, .null), some (.ldc 47, 15, 0, 0, .int (-1000000001)), none, some (.invokevirtual 68, 18, 130, 2, .retAddr 7)],
 [none, none, some (.ireturn, 19, 0, 0, .null), some (.aload_n 0, 20, 0, 0, .null), some (.getfield 182, 23, 7, 6, .int 0), none, none, some (.iload_n 2, 24, 2, 0, .null), some (.iadd, 25, 0, 0, .null), some (.bipush 120, 27, 0, 0, .int (120)), none, some (.if_icmp .le 10, 30, 37, 0, .null), none, none, some (.aload_n 0, 31, 0, 0, .null), some (.ldc 72, 33, 0, 0, .int (-1000000002))],
 [none, some (.invokevirtual 68, 36, 130, 2, .retAddr 7), none, none, some (.ireturn, 37, 0, 0, .null), some (.iload_n 2, 38, 2, 0, .null), some (.iconst 1, 39, 0, 0, .int (1)), some (.isub, 40, 0, 0, .null), some (.istore_n 3, 41, 3, 0, .null), some (.iload_n 3, 42, 3, 0, .null), some (.ifCond .lt 38, 45, 80, 0, .null), none, none, some (.aload_n 0, 46, 0, 0, .null), some (.getfield 22, 49, 7, 5, .null), none],
 [none, some (.aload_n 0, 50, 0, 0, .null), some (.getfield 182, 53, 7, 6, .int 0), none, none, some (.iload_n 1, 54, 1, 0, .null), some (.bipush 8, 56, 0, 0, .int (8)), none, some (.iload_n 3, 57, 3, 0, .null), some (.imul, 58, 0, 0, .null), some (.ishr, 59, 0, 0, .null), some (.sipush 255, 62, 0, 0, .int (255)), none, none, some (.iand, 63, 0, 0, .null), some (.iastore, 64, 0, 0, .null)],
 [some (.aload_n 0, 65, 0, 0, .null), some (.dup, 66, 0, 0, .null), some (.getfield 182, 69, 7, 6, .int 0), none, none, some (.iconst 1, 70, 0, 0, .int (1)), some (.iadd, 71, 0, 0, .null), some (.putfield 182, 74, 7, 6, .int 0), none, none, some (.iinc 3 (-1), 77, 3, 0, .int (-1)), none, none, some (.goto (-36), 80, 41, 0, .null), none, none],
 [some (.aload_n 0, 81, 0, 0, .null), some (.getfield 182, 84, 7, 6, .int 0), none, none, some (.ireturn, 85, 0, 0, .null)]],
  4, (some .int), 7, 196)
def kX7_wipe : aM := ([[some (.aload_n 0, 1, 0, 0, .null), some (.getfield 182, 4, 7, 6, .int 0), none, none, some (.istore_n 1, 5, 1, 0, .null), some (.aload_n 0, 6, 0, 0, .null), some (.iconst 0, 7, 0, 0, .int (0)), some (.putfield 182, 10, 7, 6, .int 0), none, none, some (.iload_n 1, 11, 1, 0, .null), some (.ireturn, 12, 0, 0, .null)]],
  2, (some .int), 7, 197)
def kX7_isLetter : aM := ([[some (.iload_n 0, 1, 0, 0, .null), some (.bipush 97, 3, 0, 0, .int (97)), none, some (.if_icmp .lt 13, 6, 16, 0, .null), none, none, some (.iload_n 0, 7, 0, 0, .null), some (.bipush 122, 9, 0, 0, .int (122)), none, some (.if_icmp .gt 7, 12, 16, 0, .null), none, none, some (.iconst 1, 13, 0, 0, .int (1)), some (.goto 4, 16, 17, 0, .null), none, none],
 [some (.iconst 0, 17, 0, 0, .int (0)), some (.ireturn, 18, 0, 0, .null)]],
  1, (some .boolean), 7, 198)
def kX7_isDigit : aM := ([[some (.iload_n 0, 1, 0, 0, .null), some (.bipush 48, 3, 0, 0, .int (48)), none, some (.if_icmp .lt 13, 6, 16, 0, .null), none, none, some (.iload_n 0, 7, 0, 0, .null), some (.bipush 57, 9, 0, 0, .int (57)), none, some (.if_icmp .gt 7, 12, 16, 0, .null), none, none, some (.iconst 1, 13, 0, 0, .int (1)), some (.goto 4, 16, 17, 0, .null), none, none],
 [some (.iconst 0, 17, 0, 0, .int (0)), some (.ireturn, 18, 0, 0, .null)]],
  1, (some .boolean), 7, 199)
def kX7_byteAt : aM := ([[some (.iload_n 1, 1, 1, 0, .null), some (.aload_n 0, 2, 0, 0, .null), some (.getfield 182, 5, 7, 6, .int 0), none, none, some (.if_icmp .ge 12, 8, 17, 0, .null), none, none, some (.aload_n 0, 9, 0, 0, .null), some (.getfield 22, 12, 7, 5, .null), none, none, some (.iload_n 1, 13, 1, 0, .null), some (.iaload, 14, 0, 0, .null), some (.goto 4, 17, 18, 0, .null), none],
 [none, some (.iconst (-1), 18, 0, 0, .int (-1)), some (.ireturn, 19, 0, 0, .null)]],
  2, (some .int), 7, 200)
def kX7_nextToken : aM := ([[some (.aload_n 0, 1, 0, 0, .null), some (.aload_n 0, 2, 0, 0, .null), some (.getfield 185, 5, 7, 18, .int 0), none, none, some (.putfield 188, 8, 7, 17, .int 0), none, none, some (.aload_n 0, 9, 0, 0, .null), some (.aload_n 0, 10, 0, 0, .null), some (.getfield 188, 13, 7, 17, .int 0), none, none, some (.invokevirtual 191, 16, 200, 2, .retAddr 7), none, none],
 [some (.bipush 32, 18, 0, 0, .int (32)), none, some (.if_icmp .ne 16, 21, 34, 0, .null), none, none, some (.aload_n 0, 22, 0, 0, .null), some (.dup, 23, 0, 0, .null), some (.getfield 188, 26, 7, 17, .int 0), none, none, some (.iconst 1, 27, 0, 0, .int (1)), some (.iadd, 28, 0, 0, .null), some (.putfield 188, 31, 7, 17, .int 0), none, none, some (.goto (-23), 34, 8, 0, .null)],
 [none, none, some (.aload_n 0, 35, 0, 0, .null), some (.aload_n 0, 36, 0, 0, .null), some (.getfield 188, 39, 7, 17, .int 0), none, none, some (.putfield 185, 42, 7, 18, .int 0), none, none, some (.aload_n 0, 43, 0, 0, .null), some (.aload_n 0, 44, 0, 0, .null), some (.getfield 188, 47, 7, 17, .int 0), none, none, some (.invokevirtual 191, 50, 200, 2, .retAddr 7)],
 [none, none, some (.istore_n 1, 51, 1, 0, .null), some (.aload_n 0, 52, 0, 0, .null), some (.iload_n 1, 53, 1, 0, .null), some (.ifCond .ge 7, 56, 60, 0, .null), none, none, some (.iconst 0, 57, 0, 0, .int (0)), some (.goto 46, 60, 103, 0, .null), none, none, some (.iload_n 1, 61, 1, 0, .null), some (.invokestatic 194, 64, 198, 1, .null), none, none],
 [some (.ifCond .eq 7, 67, 71, 0, .null), none, none, some (.iconst 1, 68, 0, 0, .int (1)), some (.goto 35, 71, 103, 0, .null), none, none, some (.iload_n 1, 72, 1, 0, .null), some (.invokestatic 197, 75, 199, 1, .null), none, none, some (.ifCond .eq 7, 78, 82, 0, .null), none, none, some (.iconst 2, 79, 0, 0, .int (2)), some (.goto 24, 82, 103, 0, .null)],
 [none, none, some (.iload_n 1, 83, 1, 0, .null), some (.bipush 59, 85, 0, 0, .int (59)), none, some (.if_icmp .ne 7, 88, 92, 0, .null), none, none, some (.iconst 3, 89, 0, 0, .int (3)), some (.goto 14, 92, 103, 0, .null), none, none, some (.iload_n 1, 93, 1, 0, .null), some (.bipush 45, 95, 0, 0, .int (45)), none, some (.if_icmp .ne 7, 98, 102, 0, .null)],
 [none, none, some (.iconst 5, 99, 0, 0, .int (5)), some (.goto 4, 102, 103, 0, .null), none, none, some (.iconst 4, 103, 0, 0, .int (4)), some (.putfield 200, 106, 7, 16, .int 0), none, none, some (.aload_n 0, 107, 0, 0, .null), some (.iconst 0, 108, 0, 0, .int (0)), some (.putfield 203, 111, 7, 19, .int 0), none, none, some (.aload_n 0, 112, 0, 0, .null)],
 [some (.getfield 200, 115, 7, 16, .int 0), none, none, some (.iconst 1, 116, 0, 0, .int (1)), some (.if_icmp .ne 30, 119, 146, 0, .null), none, none, some (.aload_n 0, 120, 0, 0, .null), some (.aload_n 0, 121, 0, 0, .null), some (.getfield 185, 124, 7, 18, .int 0), none, none, some (.invokevirtual 191, 127, 200, 2, .retAddr 7), none, none, some (.invokestatic 194, 130, 198, 1, .null)],
 [none, none, some (.ifCond .eq 16, 133, 146, 0, .null), none, none, some (.aload_n 0, 134, 0, 0, .null), some (.dup, 135, 0, 0, .null), some (.getfield 185, 138, 7, 18, .int 0), none, none, some (.iconst 1, 139, 0, 0, .int (1)), some (.iadd, 140, 0, 0, .null), some (.putfield 185, 143, 7, 18, .int 0), none, none, some (.goto (-32), 146, 111, 0, .null)],
 [none, none, some (.aload_n 0, 147, 0, 0, .null), some (.getfield 200, 150, 7, 16, .int 0), none, none, some (.iconst 2, 151, 0, 0, .int (2)), some (.if_icmp .ne 70, 154, 221, 0, .null), none, none, some (.aload_n 0, 155, 0, 0, .null), some (.aload_n 0, 156, 0, 0, .null), some (.getfield 185, 159, 7, 18, .int 0), none, none, some (.invokevirtual 191, 162, 200, 2, .retAddr 7)],
 [none, none, some (.invokestatic 197, 165, 199, 1, .null), none, none, some (.ifCond .eq 56, 168, 221, 0, .null), none, none, some (.aload_n 0, 169, 0, 0, .null), some (.aload_n 0, 170, 0, 0, .null), some (.getfield 203, 173, 7, 19, .int 0), none, none, some (.sipush 9999, 176, 0, 0, .int (9999)), none, none],
 [some (.if_icmp .le 10, 179, 186, 0, .null), none, none, some (.aload_n 0, 180, 0, 0, .null), some (.getfield 203, 183, 7, 19, .int 0), none, none, some (.goto 22, 186, 205, 0, .null), none, none, some (.bipush 10, 188, 0, 0, .int (10)), none, some (.aload_n 0, 189, 0, 0, .null), some (.getfield 203, 192, 7, 19, .int 0), none, none],
 [some (.imul, 193, 0, 0, .null), some (.aload_n 0, 194, 0, 0, .null), some (.aload_n 0, 195, 0, 0, .null), some (.getfield 185, 198, 7, 18, .int 0), none, none, some (.invokevirtual 191, 201, 200, 2, .retAddr 7), none, none, some (.iadd, 202, 0, 0, .null), some (.bipush 48, 204, 0, 0, .int (48)), none, some (.isub, 205, 0, 0, .null), some (.putfield 203, 208, 7, 19, .int 0), none, none],
 [some (.aload_n 0, 209, 0, 0, .null), some (.dup, 210, 0, 0, .null), some (.getfield 185, 213, 7, 18, .int 0), none, none, some (.iconst 1, 214, 0, 0, .int (1)), some (.iadd, 215, 0, 0, .null), some (.putfield 185, 218, 7, 18, .int 0), none, none, some (.goto (-72), 221, 146, 0, .null), none, none, some (.aload_n 0, 222, 0, 0, .null), some (.dup, 223, 0, 0, .null), some (.getfield 185, 226, 7, 18, .int 0)],
 [none, none, some (.aload_n 0, 227, 0, 0, .null), some (.getfield 200, 230, 7, 16, .int 0), none, none, some (.iconst 2, 231, 0, 0, .int (2)), some (.if_icmp .le 7, 234, 238, 0, .null), none, none, some (.iconst 1, 235, 0, 0, .int (1)), some (.goto 4, 238, 239, 0, .null), none, none, some (.iconst 0, 239, 0, 0, .int (0)), some (.iadd, 240, 0, 0, .null)],
 [some (.putfield 185, 243, 7, 18, .int 0), none, none, some (.return_, 244, 0, 0, .null)]],
  2, none, 7, 201)
def kX7_has3 : aM := ([[some (.aload_n 0, 1, 0, 0, .null), some (.aload_n 0, 2, 0, 0, .null), some (.getfield 188, 5, 7, 17, .int 0), none, none, some (.iload_n 1, 6, 1, 0, .null), some (.iadd, 7, 0, 0, .null), some (.invokevirtual 191, 10, 200, 2, .retAddr 7), none, none, some (.iload_n 2, 11, 2, 0, .null), some (.if_icmp .ne 40, 14, 51, 0, .null), none, none, some (.aload_n 0, 15, 0, 0, .null), some (.aload_n 0, 16, 0, 0, .null)],
 [some (.getfield 188, 19, 7, 17, .int 0), none, none, some (.iload_n 1, 20, 1, 0, .null), some (.iadd, 21, 0, 0, .null), some (.iconst 1, 22, 0, 0, .int (1)), some (.iadd, 23, 0, 0, .null), some (.invokevirtual 191, 26, 200, 2, .retAddr 7), none, none, some (.iload_n 3, 27, 3, 0, .null), some (.if_icmp .ne 24, 30, 51, 0, .null), none, none, some (.aload_n 0, 31, 0, 0, .null), some (.aload_n 0, 32, 0, 0, .null)],
 [some (.getfield 188, 35, 7, 17, .int 0), none, none, some (.iload_n 1, 36, 1, 0, .null), some (.iadd, 37, 0, 0, .null), some (.iconst 2, 38, 0, 0, .int (2)), some (.iadd, 39, 0, 0, .null), some (.invokevirtual 191, 42, 200, 2, .retAddr 7), none, none, some (.iload 4, 44, 4, 0, .null), none, some (.if_icmp .ne 7, 47, 51, 0, .null), none, none, some (.iconst 1, 48, 0, 0, .int (1))],
 [some (.goto 4, 51, 52, 0, .null), none, none, some (.iconst 0, 52, 0, 0, .int (0)), some (.ireturn, 53, 0, 0, .null)]],
  5, (some .boolean), 7, 202)
def kX7_isWord : aM := ([[some (.aload_n 0, 1, 0, 0, .null), some (.getfield 200, 4, 7, 16, .int 0), none, none, some (.iconst 1, 5, 0, 0, .int (1)), some (.if_icmp .ne 20, 8, 25, 0, .null), none, none, some (.aload_n 0, 9, 0, 0, .null), some (.getfield 185, 12, 7, 18, .int 0), none, none, some (.aload_n 0, 13, 0, 0, .null), some (.getfield 188, 16, 7, 17, .int 0), none, none],
 [some (.isub, 17, 0, 0, .null), some (.iload_n 1, 18, 1, 0, .null), some (.if_icmp .ne 7, 21, 25, 0, .null), none, none, some (.iconst 1, 22, 0, 0, .int (1)), some (.goto 4, 25, 26, 0, .null), none, none, some (.iconst 0, 26, 0, 0, .int (0)), some (.ireturn, 27, 0, 0, .null)]],
  2, (some .boolean), 7, 203)
def kX7_fails : aM := ([[some (.aload_n 0, 1, 0, 0, .null), some (.aload_n 0, 2, 0, 0, .null), some (.getfield 188, 5, 7, 17, .int 0), none, none, some (.putfield 206, 8, 7, 20, .int 0), none, none, some (.iconst 0, 9, 0, 0, .int (0)), some (.ireturn, 10, 0, 0, .null)]],
  1, (some .boolean), 7, 204)
def kX7_isFour : aM := ([[some (.aload_n 0, 1, 0, 0, .null), some (.iconst 4, 2, 0, 0, .int (4)), some (.invokevirtual 209, 5, 203, 2, .retAddr 7), none, none, some (.ifCond .eq 30, 8, 35, 0, .null), none, none, some (.aload_n 0, 9, 0, 0, .null), some (.iconst 0, 10, 0, 0, .int (0)), some (.iload_n 1, 11, 1, 0, .null), some (.iload_n 2, 12, 2, 0, .null), some (.iload_n 3, 13, 3, 0, .null), some (.invokevirtual 212, 16, 202, 5, .retAddr 7), none, none],
 [some (.ifCond .eq 19, 19, 35, 0, .null), none, none, some (.aload_n 0, 20, 0, 0, .null), some (.iconst 1, 21, 0, 0, .int (1)), some (.iload_n 2, 22, 2, 0, .null), some (.iload_n 3, 23, 3, 0, .null), some (.iload 4, 25, 4, 0, .null), none, some (.invokevirtual 212, 28, 202, 5, .retAddr 7), none, none, some (.ifCond .eq 7, 31, 35, 0, .null), none, none, some (.iconst 1, 32, 0, 0, .int (1))],
 [some (.goto 4, 35, 36, 0, .null), none, none, some (.iconst 0, 36, 0, 0, .int (0)), some (.ireturn, 37, 0, 0, .null)]],
  5, (some .boolean), 7, 205)
def kX7_isFive : aM := ([[some (.aload_n 0, 1, 0, 0, .null), some (.iconst 5, 2, 0, 0, .int (5)), some (.invokevirtual 209, 5, 203, 2, .retAddr 7), none, none, some (.ifCond .eq 31, 8, 36, 0, .null), none, none, some (.aload_n 0, 9, 0, 0, .null), some (.iconst 0, 10, 0, 0, .int (0)), some (.iload_n 1, 11, 1, 0, .null), some (.iload_n 2, 12, 2, 0, .null), some (.iload_n 3, 13, 3, 0, .null), some (.invokevirtual 212, 16, 202, 5, .retAddr 7), none, none],
 [some (.ifCond .eq 20, 19, 36, 0, .null), none, none, some (.aload_n 0, 20, 0, 0, .null), some (.iconst 2, 21, 0, 0, .int (2)), some (.iload_n 3, 22, 3, 0, .null), some (.iload 4, 24, 4, 0, .null), none, some (.iload 5, 26, 5, 0, .null), none, some (.invokevirtual 212, 29, 202, 5, .retAddr 7), none, none, some (.ifCond .eq 7, 32, 36, 0, .null), none, none],
 [some (.iconst 1, 33, 0, 0, .int (1)), some (.goto 4, 36, 37, 0, .null), none, none, some (.iconst 0, 37, 0, 0, .int (0)), some (.ireturn, 38, 0, 0, .null)]],
  6, (some .boolean), 7, 206)
def kX7_isSix : aM := ([[some (.aload_n 0, 1, 0, 0, .null), some (.bipush 6, 3, 0, 0, .int (6)), none, some (.invokevirtual 209, 6, 203, 2, .retAddr 7), none, none, some (.ifCond .eq 32, 9, 38, 0, .null), none, none, some (.aload_n 0, 10, 0, 0, .null), some (.iconst 0, 11, 0, 0, .int (0)), some (.iload_n 1, 12, 1, 0, .null), some (.iload_n 2, 13, 2, 0, .null), some (.iload_n 3, 14, 3, 0, .null), some (.invokevirtual 212, 17, 202, 5, .retAddr 7), none],
 [none, some (.ifCond .eq 21, 20, 38, 0, .null), none, none, some (.aload_n 0, 21, 0, 0, .null), some (.iconst 3, 22, 0, 0, .int (3)), some (.iload 4, 24, 4, 0, .null), none, some (.iload 5, 26, 5, 0, .null), none, some (.iload 6, 28, 6, 0, .null), none, some (.invokevirtual 212, 31, 202, 5, .retAddr 7), none, none, some (.ifCond .eq 7, 34, 38, 0, .null)],
 [none, none, some (.iconst 1, 35, 0, 0, .int (1)), some (.goto 4, 38, 39, 0, .null), none, none, some (.iconst 0, 39, 0, 0, .int (0)), some (.ireturn, 40, 0, 0, .null)]],
  7, (some .boolean), 7, 207)
def kX7_kindHere : aM := ([[some (.aload_n 0, 1, 0, 0, .null), some (.bipush 108, 3, 0, 0, .int (108)), none, some (.bipush 105, 5, 0, 0, .int (105)), none, some (.bipush 110, 7, 0, 0, .int (110)), none, some (.bipush 101, 9, 0, 0, .int (101)), none, some (.bipush 110, 11, 0, 0, .int (110)), none, some (.invokevirtual 216, 14, 206, 6, .retAddr 7), none, none, some (.ifCond .eq 5, 17, 19, 0, .null), none],
 [none, some (.iconst 0, 18, 0, 0, .int (0)), some (.ireturn, 19, 0, 0, .null), some (.aload_n 0, 20, 0, 0, .null), some (.bipush 115, 22, 0, 0, .int (115)), none, some (.bipush 104, 24, 0, 0, .int (104)), none, some (.bipush 101, 26, 0, 0, .int (101)), none, some (.bipush 101, 28, 0, 0, .int (101)), none, some (.bipush 116, 30, 0, 0, .int (116)), none, some (.invokevirtual 216, 33, 206, 6, .retAddr 7), none],
 [none, some (.ifCond .eq 5, 36, 38, 0, .null), none, none, some (.iconst 1, 37, 0, 0, .int (1)), some (.ireturn, 38, 0, 0, .null), some (.aload_n 0, 39, 0, 0, .null), some (.bipush 8, 41, 0, 0, .int (8)), none, some (.invokevirtual 209, 44, 203, 2, .retAddr 7), none, none, some (.ifCond .eq 47, 47, 91, 0, .null), none, none, some (.aload_n 0, 48, 0, 0, .null)],
 [some (.iconst 0, 49, 0, 0, .int (0)), some (.bipush 115, 51, 0, 0, .int (115)), none, some (.bipush 116, 53, 0, 0, .int (116)), none, some (.bipush 111, 55, 0, 0, .int (111)), none, some (.invokevirtual 212, 58, 202, 5, .retAddr 7), none, none, some (.ifCond .eq 33, 61, 91, 0, .null), none, none, some (.aload_n 0, 62, 0, 0, .null), some (.iconst 3, 63, 0, 0, .int (3)), some (.bipush 99, 65, 0, 0, .int (99))],
 [none, some (.bipush 107, 67, 0, 0, .int (107)), none, some (.bipush 105, 69, 0, 0, .int (105)), none, some (.invokevirtual 212, 72, 202, 5, .retAddr 7), none, none, some (.ifCond .eq 19, 75, 91, 0, .null), none, none, some (.aload_n 0, 76, 0, 0, .null), some (.iconst 5, 77, 0, 0, .int (5)), some (.bipush 105, 79, 0, 0, .int (105)), none, some (.bipush 110, 81, 0, 0, .int (110))],
 [none, some (.bipush 103, 83, 0, 0, .int (103)), none, some (.invokevirtual 212, 86, 202, 5, .retAddr 7), none, none, some (.ifCond .eq 5, 89, 91, 0, .null), none, none, some (.iconst 2, 90, 0, 0, .int (2)), some (.ireturn, 91, 0, 0, .null), some (.aload_n 0, 92, 0, 0, .null), some (.iconst 3, 93, 0, 0, .int (3)), some (.invokevirtual 209, 96, 203, 2, .retAddr 7), none, none],
 [some (.ifCond .eq 19, 99, 115, 0, .null), none, none, some (.aload_n 0, 100, 0, 0, .null), some (.iconst 0, 101, 0, 0, .int (0)), some (.bipush 114, 103, 0, 0, .int (114)), none, some (.bipush 101, 105, 0, 0, .int (101)), none, some (.bipush 100, 107, 0, 0, .int (100)), none, some (.invokevirtual 212, 110, 202, 5, .retAddr 7), none, none, some (.ifCond .eq 5, 113, 115, 0, .null), none],
 [none, some (.iconst 3, 114, 0, 0, .int (3)), some (.ireturn, 115, 0, 0, .null), some (.aload_n 0, 116, 0, 0, .null), some (.bipush 116, 118, 0, 0, .int (116)), none, some (.bipush 111, 120, 0, 0, .int (111)), none, some (.bipush 114, 122, 0, 0, .int (114)), none, some (.bipush 110, 124, 0, 0, .int (110)), none, some (.invokevirtual 220, 127, 205, 5, .retAddr 7), none, none, some (.ifCond .eq 5, 130, 132, 0, .null)],
 [none, none, some (.iconst 4, 131, 0, 0, .int (4)), some (.ireturn, 132, 0, 0, .null), some (.aload_n 0, 133, 0, 0, .null), some (.bipush 98, 135, 0, 0, .int (98)), none, some (.bipush 108, 137, 0, 0, .int (108)), none, some (.bipush 97, 139, 0, 0, .int (97)), none, some (.bipush 99, 141, 0, 0, .int (99)), none, some (.bipush 107, 143, 0, 0, .int (107)), none, some (.invokevirtual 216, 146, 206, 6, .retAddr 7)],
 [none, none, some (.ifCond .eq 7, 149, 153, 0, .null), none, none, some (.iconst 5, 150, 0, 0, .int (5)), some (.goto 4, 153, 154, 0, .null), none, none, some (.iconst (-1), 154, 0, 0, .int (-1)), some (.ireturn, 155, 0, 0, .null)]],
  1, (some .int), 7, 208)
def kX7_isNumber : aM := ([[some (.aload_n 0, 1, 0, 0, .null), some (.getfield 200, 4, 7, 16, .int 0), none, none, some (.iconst 2, 5, 0, 0, .int (2)), some (.if_icmp .ne 18, 8, 23, 0, .null), none, none, some (.aload_n 0, 9, 0, 0, .null), some (.getfield 203, 12, 7, 19, .int 0), none, none, some (.i2l, 13, 0, 0, .null), some (.iload_n 1, 14, 1, 0, .null), some (.i2l, 15, 0, 0, .null), some (.iload_n 2, 16, 2, 0, .null)],
 [some (.i2l, 17, 0, 0, .null), some (.invokestatic 58, 20, 129, 3, .null), none, none, some (.ifCond .ne 10, 23, 30, 0, .null), none, none, some (.aload_n 0, 24, 0, 0, .null), some (.invokevirtual 223, 27, 204, 1, .retAddr 7), none, none, some (.ifCond .eq 7, 30, 34, 0, .null), none, none, some (.iconst 1, 31, 0, 0, .int (1)), some (.goto 4, 34, 35, 0, .null)],
 [none, none, some (.iconst 0, 35, 0, 0, .int (0)), some (.ireturn, 36, 0, 0, .null)]],
  3, (some .boolean), 7, 209)
def kX7_garmentHere : aM := ([[some (.aload_n 0, 1, 0, 0, .null), some (.invokevirtual 227, 4, 208, 1, .retAddr 7), none, none, some (.istore_n 2, 5, 2, 0, .null), some (.iload_n 2, 6, 2, 0, .null), some (.ifCond .lt 16, 9, 22, 0, .null), none, none, some (.aload_n 0, 10, 0, 0, .null), some (.getfield 7, 13, 7, 0, .null), none, none, some (.iconst 0, 14, 0, 0, .int (0)), some (.iload_n 1, 15, 1, 0, .null), some (.iadd, 16, 0, 0, .null)],
 [some (.iaload, 17, 0, 0, .null), some (.bipush 7, 19, 0, 0, .int (7)), none, some (.if_icmp .ne 8, 22, 27, 0, .null), none, none, some (.aload_n 0, 23, 0, 0, .null), some (.invokevirtual 223, 26, 204, 1, .retAddr 7), none, none, some (.ireturn, 27, 0, 0, .null), some (.aload_n 0, 28, 0, 0, .null), some (.invokevirtual 230, 31, 201, 1, .retAddr 7), none, none, some (.aload_n 0, 32, 0, 0, .null)],
 [some (.iconst 1, 33, 0, 0, .int (1)), some (.bipush 9, 35, 0, 0, .int (9)), none, some (.invokevirtual 233, 38, 209, 3, .retAddr 7), none, none, some (.ifCond .ne 5, 41, 43, 0, .null), none, none, some (.iconst 0, 42, 0, 0, .int (0)), some (.ireturn, 43, 0, 0, .null), some (.aload_n 0, 44, 0, 0, .null), some (.iload_n 1, 45, 1, 0, .null), some (.iload_n 2, 46, 2, 0, .null), some (.aload_n 0, 47, 0, 0, .null), some (.getfield 203, 50, 7, 19, .int 0)],
 [none, none, some (.iconst 0, 51, 0, 0, .int (0)), some (.invokevirtual 73, 54, 138, 5, .retAddr 7), none, none, some (.aload_n 0, 55, 0, 0, .null), some (.invokevirtual 230, 58, 201, 1, .retAddr 7), none, none, some (.aload_n 0, 59, 0, 0, .null), some (.iconst 3, 60, 0, 0, .int (3)), some (.invokevirtual 209, 63, 203, 2, .retAddr 7), none, none, some (.ifCond .eq 17, 66, 80, 0, .null)],
 [none, none, some (.aload_n 0, 67, 0, 0, .null), some (.iconst 0, 68, 0, 0, .int (0)), some (.bipush 119, 70, 0, 0, .int (119)), none, some (.bipush 101, 72, 0, 0, .int (101)), none, some (.bipush 116, 74, 0, 0, .int (116)), none, some (.invokevirtual 212, 77, 202, 5, .retAddr 7), none, none, some (.ifCond .ne 5, 80, 82, 0, .null), none, none],
 [some (.iconst 1, 81, 0, 0, .int (1)), some (.ireturn, 82, 0, 0, .null), some (.aload_n 0, 83, 0, 0, .null), some (.invokevirtual 230, 86, 201, 1, .retAddr 7), none, none, some (.aload_n 0, 87, 0, 0, .null), some (.iconst 0, 88, 0, 0, .int (0)), some (.bipush 9, 90, 0, 0, .int (9)), none, some (.invokevirtual 233, 93, 209, 3, .retAddr 7), none, none, some (.ifCond .ne 5, 96, 98, 0, .null), none, none],
 [some (.iconst 0, 97, 0, 0, .int (0)), some (.ireturn, 98, 0, 0, .null), some (.aload_n 0, 99, 0, 0, .null), some (.getfield 7, 102, 7, 0, .null), none, none, some (.iload_n 1, 103, 1, 0, .null), some (.aload_n 0, 104, 0, 0, .null), some (.getfield 7, 107, 7, 0, .null), none, none, some (.iconst 0, 108, 0, 0, .int (0)), some (.iload_n 1, 109, 1, 0, .null), some (.iadd, 110, 0, 0, .null), some (.iaload, 111, 0, 0, .null), some (.iconst 1, 112, 0, 0, .int (1))],
 [some (.isub, 113, 0, 0, .null), some (.invokestatic 52, 116, 135, 2, .null), none, none, some (.iconst 2, 117, 0, 0, .int (2)), some (.iadd, 118, 0, 0, .null), some (.aload_n 0, 119, 0, 0, .null), some (.getfield 203, 122, 7, 19, .int 0), none, none, some (.iastore, 123, 0, 0, .null), some (.aload_n 0, 124, 0, 0, .null), some (.invokevirtual 230, 127, 201, 1, .retAddr 7), none, none, some (.iconst 1, 128, 0, 0, .int (1))],
 [some (.ireturn, 129, 0, 0, .null)]],
  3, (some .boolean), 7, 210)
def kX7_lineHere : aM := ([[some (.aload_n 0, 1, 0, 0, .null), some (.invokevirtual 230, 4, 201, 1, .retAddr 7), none, none, some (.aload_n 0, 5, 0, 0, .null), some (.iconst 0, 6, 0, 0, .int (0)), some (.iconst 3, 7, 0, 0, .int (3)), some (.invokevirtual 233, 10, 209, 3, .retAddr 7), none, none, some (.ifCond .ne 5, 13, 15, 0, .null), none, none, some (.iconst 0, 14, 0, 0, .int (0)), some (.ireturn, 15, 0, 0, .null), some (.aload_n 0, 16, 0, 0, .null)],
 [some (.getfield 203, 19, 7, 19, .int 0), none, none, some (.istore_n 1, 20, 1, 0, .null), some (.aload_n 0, 21, 0, 0, .null), some (.getfield 7, 24, 7, 0, .null), none, none, some (.iconst 0, 25, 0, 0, .int (0)), some (.iload_n 1, 26, 1, 0, .null), some (.iadd, 27, 0, 0, .null), some (.iconst 0, 28, 0, 0, .int (0)), some (.iastore, 29, 0, 0, .null), some (.aload_n 0, 30, 0, 0, .null), some (.invokevirtual 230, 33, 201, 1, .retAddr 7), none],
 [none, some (.aload_n 0, 34, 0, 0, .null), some (.iload_n 1, 35, 1, 0, .null), some (.invokevirtual 236, 38, 210, 2, .retAddr 7), none, none, some (.istore_n 2, 39, 2, 0, .null), some (.iload_n 2, 40, 2, 0, .null), some (.ifCond .eq 19, 43, 59, 0, .null), none, none, some (.aload_n 0, 44, 0, 0, .null), some (.invokevirtual 227, 47, 208, 1, .retAddr 7), none, none, some (.ifCond .lt 12, 50, 59, 0, .null)],
 [none, none, some (.aload_n 0, 51, 0, 0, .null), some (.iload_n 1, 52, 1, 0, .null), some (.invokevirtual 236, 55, 210, 2, .retAddr 7), none, none, some (.istore_n 2, 56, 2, 0, .null), some (.goto (-17), 59, 39, 0, .null), none, none, some (.iload_n 2, 60, 2, 0, .null), some (.ireturn, 61, 0, 0, .null)]],
  3, (some .boolean), 7, 211)
def kX7_windHere : aM := ([[some (.aload_n 0, 1, 0, 0, .null), some (.invokevirtual 230, 4, 201, 1, .retAddr 7), none, none, some (.aload_n 0, 5, 0, 0, .null), some (.iconst 0, 6, 0, 0, .int (0)), some (.bipush 20, 8, 0, 0, .int (20)), none, some (.invokevirtual 233, 11, 209, 3, .retAddr 7), none, none, some (.ifCond .ne 5, 14, 16, 0, .null), none, none, some (.iconst 0, 15, 0, 0, .int (0)), some (.ireturn, 16, 0, 0, .null)],
 [some (.aload_n 0, 17, 0, 0, .null), some (.getfield 7, 20, 7, 0, .null), none, none, some (.iconst 4, 21, 0, 0, .int (4)), some (.aload_n 0, 22, 0, 0, .null), some (.getfield 203, 25, 7, 19, .int 0), none, none, some (.iastore, 26, 0, 0, .null), some (.aload_n 0, 27, 0, 0, .null), some (.invokevirtual 230, 30, 201, 1, .retAddr 7), none, none, some (.iconst 1, 31, 0, 0, .int (1)), some (.ireturn, 32, 0, 0, .null)]],
  1, (some .boolean), 7, 212)
def kX7_meaningHere : aM := ([[some (.aload_n 0, 1, 0, 0, .null), some (.invokevirtual 230, 4, 201, 1, .retAddr 7), none, none, some (.aload_n 0, 5, 0, 0, .null), some (.iconst 0, 6, 0, 0, .int (0)), some (.bipush 9, 8, 0, 0, .int (9)), none, some (.invokevirtual 233, 11, 209, 3, .retAddr 7), none, none, some (.ifCond .ne 5, 14, 16, 0, .null), none, none, some (.iconst 0, 15, 0, 0, .int (0)), some (.ireturn, 16, 0, 0, .null)],
 [some (.aload_n 0, 17, 0, 0, .null), some (.getfield 203, 20, 7, 19, .int 0), none, none, some (.istore_n 1, 21, 1, 0, .null), some (.aload_n 0, 22, 0, 0, .null), some (.invokevirtual 230, 25, 201, 1, .retAddr 7), none, none, some (.aload_n 0, 26, 0, 0, .null), some (.getfield 200, 29, 7, 16, .int 0), none, none, some (.iconst 5, 30, 0, 0, .int (5)), some (.if_icmp .ne 7, 33, 37, 0, .null), none],
 [none, some (.iconst 1, 34, 0, 0, .int (1)), some (.goto 4, 37, 38, 0, .null), none, none, some (.iconst 0, 38, 0, 0, .int (0)), some (.istore_n 2, 39, 2, 0, .null), some (.iload_n 2, 40, 2, 0, .null), some (.ifCond .eq 7, 43, 47, 0, .null), none, none, some (.aload_n 0, 44, 0, 0, .null), some (.invokevirtual 230, 47, 201, 1, .retAddr 7), none, none, some (.aload_n 0, 48, 0, 0, .null)],
 [some (.iconst 0, 49, 0, 0, .int (0)), some (.iload_n 2, 50, 2, 0, .null), some (.ifCond .eq 9, 53, 59, 0, .null), none, none, some (.sipush 999, 56, 0, 0, .int (999)), none, none, some (.goto 6, 59, 62, 0, .null), none, none, some (.sipush 9999, 62, 0, 0, .int (9999)), none, none, some (.invokevirtual 233, 65, 209, 3, .retAddr 7), none],
 [none, some (.ifCond .ne 5, 68, 70, 0, .null), none, none, some (.iconst 0, 69, 0, 0, .int (0)), some (.ireturn, 70, 0, 0, .null), some (.aload_n 0, 71, 0, 0, .null), some (.getfield 7, 74, 7, 0, .null), none, none, some (.bipush 6, 76, 0, 0, .int (6)), none, some (.iload_n 1, 77, 1, 0, .null), some (.iadd, 78, 0, 0, .null), some (.iconst 1, 79, 0, 0, .int (1)), some (.iastore, 80, 0, 0, .null)],
 [some (.aload_n 0, 81, 0, 0, .null), some (.getfield 7, 84, 7, 0, .null), none, none, some (.bipush 16, 86, 0, 0, .int (16)), none, some (.iload_n 1, 87, 1, 0, .null), some (.iadd, 88, 0, 0, .null), some (.iload_n 2, 89, 2, 0, .null), some (.ifCond .eq 11, 92, 100, 0, .null), none, none, some (.aload_n 0, 93, 0, 0, .null), some (.getfield 203, 96, 7, 19, .int 0), none, none],
 [some (.ineg, 97, 0, 0, .null), some (.goto 7, 100, 104, 0, .null), none, none, some (.aload_n 0, 101, 0, 0, .null), some (.getfield 203, 104, 7, 19, .int 0), none, none, some (.iastore, 105, 0, 0, .null), some (.aload_n 0, 106, 0, 0, .null), some (.invokevirtual 230, 109, 201, 1, .retAddr 7), none, none, some (.iconst 1, 110, 0, 0, .int (1)), some (.ireturn, 111, 0, 0, .null)]],
  3, (some .boolean), 7, 213)
def kX7_forgetHere : aM := ([[some (.aload_n 0, 1, 0, 0, .null), some (.invokevirtual 230, 4, 201, 1, .retAddr 7), none, none, some (.aload_n 0, 5, 0, 0, .null), some (.iconst 0, 6, 0, 0, .int (0)), some (.bipush 9, 8, 0, 0, .int (9)), none, some (.invokevirtual 233, 11, 209, 3, .retAddr 7), none, none, some (.ifCond .ne 5, 14, 16, 0, .null), none, none, some (.iconst 0, 15, 0, 0, .int (0)), some (.ireturn, 16, 0, 0, .null)],
 [some (.aload_n 0, 17, 0, 0, .null), some (.getfield 7, 20, 7, 0, .null), none, none, some (.bipush 6, 22, 0, 0, .int (6)), none, some (.aload_n 0, 23, 0, 0, .null), some (.getfield 203, 26, 7, 19, .int 0), none, none, some (.iadd, 27, 0, 0, .null), some (.iconst 0, 28, 0, 0, .int (0)), some (.iastore, 29, 0, 0, .null), some (.aload_n 0, 30, 0, 0, .null), some (.invokevirtual 230, 33, 201, 1, .retAddr 7), none],
 [none, some (.iconst 1, 34, 0, 0, .int (1)), some (.ireturn, 35, 0, 0, .null)]],
  1, (some .boolean), 7, 214)
def kX7_itemHere : aM := ([[some (.aload_n 0, 1, 0, 0, .null), some (.bipush 108, 3, 0, 0, .int (108)), none, some (.bipush 105, 5, 0, 0, .int (105)), none, some (.bipush 110, 7, 0, 0, .int (110)), none, some (.bipush 101, 9, 0, 0, .int (101)), none, some (.invokevirtual 220, 12, 205, 5, .retAddr 7), none, none, some (.ifCond .eq 8, 15, 20, 0, .null), none, none, some (.aload_n 0, 16, 0, 0, .null)],
 [some (.invokevirtual 239, 19, 211, 1, .retAddr 7), none, none, some (.ireturn, 20, 0, 0, .null), some (.aload_n 0, 21, 0, 0, .null), some (.bipush 119, 23, 0, 0, .int (119)), none, some (.bipush 105, 25, 0, 0, .int (105)), none, some (.bipush 110, 27, 0, 0, .int (110)), none, some (.bipush 100, 29, 0, 0, .int (100)), none, some (.invokevirtual 220, 32, 205, 5, .retAddr 7), none, none],
 [some (.ifCond .eq 8, 35, 40, 0, .null), none, none, some (.aload_n 0, 36, 0, 0, .null), some (.invokevirtual 242, 39, 212, 1, .retAddr 7), none, none, some (.ireturn, 40, 0, 0, .null), some (.aload_n 0, 41, 0, 0, .null), some (.bipush 7, 43, 0, 0, .int (7)), none, some (.invokevirtual 209, 46, 203, 2, .retAddr 7), none, none, some (.ifCond .eq 50, 49, 96, 0, .null), none],
 [none, some (.aload_n 0, 50, 0, 0, .null), some (.iconst 0, 51, 0, 0, .int (0)), some (.bipush 109, 53, 0, 0, .int (109)), none, some (.bipush 101, 55, 0, 0, .int (101)), none, some (.bipush 97, 57, 0, 0, .int (97)), none, some (.invokevirtual 212, 60, 202, 5, .retAddr 7), none, none, some (.ifCond .eq 36, 63, 96, 0, .null), none, none, some (.aload_n 0, 64, 0, 0, .null)],
 [some (.iconst 3, 65, 0, 0, .int (3)), some (.bipush 110, 67, 0, 0, .int (110)), none, some (.bipush 105, 69, 0, 0, .int (105)), none, some (.bipush 110, 71, 0, 0, .int (110)), none, some (.invokevirtual 212, 74, 202, 5, .retAddr 7), none, none, some (.ifCond .eq 22, 77, 96, 0, .null), none, none, some (.aload_n 0, 78, 0, 0, .null), some (.iconst 4, 79, 0, 0, .int (4)), some (.bipush 105, 81, 0, 0, .int (105))],
 [none, some (.bipush 110, 83, 0, 0, .int (110)), none, some (.bipush 103, 85, 0, 0, .int (103)), none, some (.invokevirtual 212, 88, 202, 5, .retAddr 7), none, none, some (.ifCond .eq 8, 91, 96, 0, .null), none, none, some (.aload_n 0, 92, 0, 0, .null), some (.invokevirtual 245, 95, 213, 1, .retAddr 7), none, none, some (.ireturn, 96, 0, 0, .null)],
 [some (.aload_n 0, 97, 0, 0, .null), some (.bipush 102, 99, 0, 0, .int (102)), none, some (.bipush 111, 101, 0, 0, .int (111)), none, some (.bipush 114, 103, 0, 0, .int (114)), none, some (.bipush 103, 105, 0, 0, .int (103)), none, some (.bipush 101, 107, 0, 0, .int (101)), none, some (.bipush 116, 109, 0, 0, .int (116)), none, some (.invokevirtual 248, 112, 207, 7, .retAddr 7), none, none],
 [some (.ifCond .eq 10, 115, 122, 0, .null), none, none, some (.aload_n 0, 116, 0, 0, .null), some (.invokevirtual 252, 119, 214, 1, .retAddr 7), none, none, some (.goto 7, 122, 126, 0, .null), none, none, some (.aload_n 0, 123, 0, 0, .null), some (.invokevirtual 223, 126, 204, 1, .retAddr 7), none, none, some (.ireturn, 127, 0, 0, .null)]],
  1, (some .boolean), 7, 215)
def kX7_town : aM := ([[some (.aload_n 0, 1, 0, 0, .null), some (.getfield 7, 4, 7, 0, .null), none, none, some (.aload_n 0, 5, 0, 0, .null), some (.getfield 16, 8, 7, 2, .null), none, none, some (.invokestatic 255, 11, 136, 2, .null), none, none, some (.aload_n 0, 12, 0, 0, .null), some (.iconst 0, 13, 0, 0, .int (0)), some (.putfield 185, 16, 7, 18, .int 0), none, none],
 [some (.aload_n 0, 17, 0, 0, .null), some (.invokevirtual 230, 20, 201, 1, .retAddr 7), none, none, some (.iconst 1, 21, 0, 0, .int (1)), some (.istore_n 1, 22, 1, 0, .null), some (.aload_n 0, 23, 0, 0, .null), some (.invokevirtual 259, 26, 215, 1, .retAddr 7), none, none, some (.istore_n 2, 27, 2, 0, .null), some (.iload_n 2, 28, 2, 0, .null), some (.ifCond .eq 26, 31, 54, 0, .null), none, none, some (.aload_n 0, 32, 0, 0, .null)],
 [some (.getfield 200, 35, 7, 16, .int 0), none, none, some (.iconst 3, 36, 0, 0, .int (3)), some (.if_icmp .ne 18, 39, 54, 0, .null), none, none, some (.aload_n 0, 40, 0, 0, .null), some (.invokevirtual 230, 43, 201, 1, .retAddr 7), none, none, some (.aload_n 0, 44, 0, 0, .null), some (.invokevirtual 259, 47, 215, 1, .retAddr 7), none, none, some (.istore_n 2, 48, 2, 0, .null)],
 [some (.iinc 1 1, 51, 1, 0, .int (1)), none, none, some (.goto (-24), 54, 27, 0, .null), none, none, some (.iload_n 2, 55, 2, 0, .null), some (.ifCond .eq 21, 58, 76, 0, .null), none, none, some (.aload_n 0, 59, 0, 0, .null), some (.getfield 200, 62, 7, 16, .int 0), none, none, some (.ifCond .eq 10, 65, 72, 0, .null), none],
 [none, some (.aload_n 0, 66, 0, 0, .null), some (.invokevirtual 223, 69, 204, 1, .retAddr 7), none, none, some (.ifCond .eq 7, 72, 76, 0, .null), none, none, some (.iconst 1, 73, 0, 0, .int (1)), some (.goto 4, 76, 77, 0, .null), none, none, some (.iconst 0, 77, 0, 0, .int (0)), some (.istore_n 2, 78, 2, 0, .null), some (.aload_n 0, 79, 0, 0, .null), some (.iconst 0, 80, 0, 0, .int (0))],
 [some (.putfield 182, 83, 7, 6, .int 0), none, none, some (.iload_n 2, 84, 2, 0, .null), some (.ifCond .ne 14, 87, 98, 0, .null), none, none, some (.aload_n 0, 88, 0, 0, .null), some (.getfield 16, 91, 7, 2, .null), none, none, some (.aload_n 0, 92, 0, 0, .null), some (.getfield 7, 95, 7, 0, .null), none, none, some (.invokestatic 255, 98, 136, 2, .null)],
 [none, none, some (.iload_n 2, 99, 2, 0, .null), some (.ifCond .eq 7, 102, 106, 0, .null), none, none, some (.iload_n 1, 103, 1, 0, .null), some (.goto 9, 106, 112, 0, .null), none, none, some (.iconst (-1), 107, 0, 0, .int (-1)), some (.aload_n 0, 108, 0, 0, .null), some (.getfield 206, 111, 7, 20, .int 0), none, none, some (.isub, 112, 0, 0, .null)],
 [some (.ireturn, 113, 0, 0, .null)]],
  3, (some .int), 7, 216)
def kX7_isSheet : aM := ([[some (.iload_n 0, 1, 0, 0, .null), some (.ifCond .lt 12, 4, 13, 0, .null), none, none, some (.iload_n 0, 5, 0, 0, .null), some (.iconst 4, 6, 0, 0, .int (4)), some (.if_icmp .ge 7, 9, 13, 0, .null), none, none, some (.iconst 1, 10, 0, 0, .int (1)), some (.goto 4, 13, 14, 0, .null), none, none, some (.iconst 0, 14, 0, 0, .int (0)), some (.ireturn, 15, 0, 0, .null)]],
  1, (some .boolean), 7, 217)
def kX7_narrow : aM := ([[some (.iload_n 0, 1, 0, 0, .null), some (.bipush 8, 3, 0, 0, .int (8)), none, some (.if_icmp .ne 10, 6, 13, 0, .null), none, none, some (.lload_n 1, 7, 1, 0, .null), some (.l2i, 8, 0, 0, .null), some (.i2b, 9, 0, 0, .null), some (.i2l, 10, 0, 0, .null), some (.goto 17, 13, 27, 0, .null), none, none, some (.iload_n 0, 14, 0, 0, .null), some (.bipush 16, 16, 0, 0, .int (16)), none],
 [some (.if_icmp .ne 10, 19, 26, 0, .null), none, none, some (.lload_n 1, 20, 1, 0, .null), some (.l2i, 21, 0, 0, .null), some (.i2s, 22, 0, 0, .null), some (.i2l, 23, 0, 0, .null), some (.goto 4, 26, 27, 0, .null), none, none, some (.lload_n 1, 27, 1, 0, .null), some (.lreturn, 28, 0, 0, .null)]],
  3, (some .long), 7, 218)
def kX7_sheet : aM := ([[some (.iload_n 1, 1, 1, 0, .null), some (.invokestatic 262, 4, 217, 1, .null), none, none, some (.ifCond .eq 25, 7, 29, 0, .null), none, none, some (.iload_n 2, 8, 2, 0, .null), some (.ifCond .eq 28, 11, 36, 0, .null), none, none, some (.iload_n 2, 12, 2, 0, .null), some (.bipush 8, 14, 0, 0, .int (8)), none, some (.if_icmp .eq 22, 17, 36, 0, .null), none],
 [none, some (.iload_n 2, 18, 2, 0, .null), some (.bipush 16, 20, 0, 0, .int (16)), none, some (.if_icmp .eq 16, 23, 36, 0, .null), none, none, some (.iload_n 2, 24, 2, 0, .null), some (.bipush 64, 26, 0, 0, .int (64)), none, some (.if_icmp .eq 10, 29, 36, 0, .null), none, none, some (.aload_n 0, 30, 0, 0, .null), some (.ldc 47, 32, 0, 0, .int (-1000000001)), none],
 [some (.invokevirtual 68, 35, 130, 2, .retAddr 7), none, none, some (.ireturn, 36, 0, 0, .null), some (.iload_n 3, 37, 3, 0, .null), some (.ifCond .ge 11, 40, 48, 0, .null), none, none, some (.aload_n 0, 41, 0, 0, .null), some (.ldc_w 265, 44, 0, 0, .int (-1000000007)), none, none, some (.invokevirtual 68, 47, 130, 2, .retAddr 7), none, none, some (.ireturn, 48, 0, 0, .null)],
 [some (.iload_n 3, 49, 3, 0, .null), some (.bipush 40, 51, 0, 0, .int (40)), none, some (.if_icmp .le 10, 54, 61, 0, .null), none, none, some (.aload_n 0, 55, 0, 0, .null), some (.ldc 47, 57, 0, 0, .int (-1000000001)), none, some (.invokevirtual 68, 60, 130, 2, .retAddr 7), none, none, some (.ireturn, 61, 0, 0, .null), some (.aload_n 0, 62, 0, 0, .null), some (.getfield 25, 65, 7, 7, .null), none],
 [none, some (.iload_n 1, 66, 1, 0, .null), some (.iload_n 2, 67, 2, 0, .null), some (.ifCond .ne 7, 70, 74, 0, .null), none, none, some (.iconst (-1), 71, 0, 0, .int (-1)), some (.goto 4, 74, 75, 0, .null), none, none, some (.iload_n 2, 75, 2, 0, .null), some (.iastore, 76, 0, 0, .null), some (.aload_n 0, 77, 0, 0, .null), some (.getfield 28, 80, 7, 8, .null), none, none],
 [some (.iload_n 1, 81, 1, 0, .null), some (.iload_n 2, 82, 2, 0, .null), some (.ifCond .ne 7, 85, 89, 0, .null), none, none, some (.iconst 0, 86, 0, 0, .int (0)), some (.goto 4, 89, 90, 0, .null), none, none, some (.iload_n 3, 90, 3, 0, .null), some (.iastore, 91, 0, 0, .null), some (.iconst 0, 92, 0, 0, .int (0)), some (.istore 4, 94, 4, 0, .null), none, some (.iload 4, 96, 4, 0, .null), none],
 [some (.bipush 40, 98, 0, 0, .int (40)), none, some (.if_icmp .ge 22, 101, 120, 0, .null), none, none, some (.aload_n 0, 102, 0, 0, .null), some (.getfield 31, 105, 7, 9, .null), none, none, some (.bipush 40, 107, 0, 0, .int (40)), none, some (.iload_n 1, 108, 1, 0, .null), some (.imul, 109, 0, 0, .null), some (.iload 4, 111, 4, 0, .null), none, some (.iadd, 112, 0, 0, .null)],
 [some (.lconst 0, 113, 0, 0, .long 0), some (.lastore, 114, 0, 0, .null), some (.iinc 4 1, 117, 4, 0, .int (1)), none, none, some (.goto (-23), 120, 94, 0, .null), none, none, some (.aload_n 0, 121, 0, 0, .null), some (.getfield 28, 124, 7, 8, .null), none, none, some (.iload_n 1, 125, 1, 0, .null), some (.iaload, 126, 0, 0, .null), some (.ireturn, 127, 0, 0, .null)]],
  5, (some .int), 7, 219)
def kX7_write : aM := ([[some (.iload_n 1, 1, 1, 0, .null), some (.invokestatic 262, 4, 217, 1, .null), none, none, some (.ifCond .ne 11, 7, 15, 0, .null), none, none, some (.aload_n 0, 8, 0, 0, .null), some (.ldc 47, 10, 0, 0, .int (-1000000001)), none, some (.invokevirtual 68, 13, 130, 2, .retAddr 7), none, none, some (.i2l, 14, 0, 0, .null), some (.lreturn, 15, 0, 0, .null), some (.aload_n 0, 16, 0, 0, .null)],
 [some (.getfield 25, 19, 7, 7, .null), none, none, some (.iload_n 1, 20, 1, 0, .null), some (.iaload, 21, 0, 0, .null), some (.ifCond .ge 12, 24, 33, 0, .null), none, none, some (.aload_n 0, 25, 0, 0, .null), some (.ldc_w 266, 28, 0, 0, .int (-1000000006)), none, none, some (.invokevirtual 68, 31, 130, 2, .retAddr 7), none, none, some (.i2l, 32, 0, 0, .null)],
 [some (.lreturn, 33, 0, 0, .null), some (.iload_n 2, 34, 2, 0, .null), some (.i2l, 35, 0, 0, .null), some (.lconst 0, 36, 0, 0, .long 0), some (.aload_n 0, 37, 0, 0, .null), some (.getfield 28, 40, 7, 8, .null), none, none, some (.iload_n 1, 41, 1, 0, .null), some (.iaload, 42, 0, 0, .null), some (.iconst 1, 43, 0, 0, .int (1)), some (.isub, 44, 0, 0, .null), some (.i2l, 45, 0, 0, .null), some (.invokestatic 58, 48, 129, 3, .null), none, none],
 [some (.ifCond .ne 11, 51, 59, 0, .null), none, none, some (.aload_n 0, 52, 0, 0, .null), some (.ldc 47, 54, 0, 0, .int (-1000000001)), none, some (.invokevirtual 68, 57, 130, 2, .retAddr 7), none, none, some (.i2l, 58, 0, 0, .null), some (.lreturn, 59, 0, 0, .null), some (.aload_n 0, 60, 0, 0, .null), some (.getfield 31, 63, 7, 9, .null), none, none, some (.bipush 40, 65, 0, 0, .int (40))],
 [none, some (.iload_n 1, 66, 1, 0, .null), some (.imul, 67, 0, 0, .null), some (.iload_n 2, 68, 2, 0, .null), some (.iadd, 69, 0, 0, .null), some (.laload, 70, 0, 0, .null), some (.lstore 5, 72, 5, 0, .null), none, some (.aload_n 0, 73, 0, 0, .null), some (.getfield 31, 76, 7, 9, .null), none, none, some (.bipush 40, 78, 0, 0, .int (40)), none, some (.iload_n 1, 79, 1, 0, .null), some (.imul, 80, 0, 0, .null)],
 [some (.iload_n 2, 81, 2, 0, .null), some (.iadd, 82, 0, 0, .null), some (.aload_n 0, 83, 0, 0, .null), some (.getfield 25, 86, 7, 7, .null), none, none, some (.iload_n 1, 87, 1, 0, .null), some (.iaload, 88, 0, 0, .null), some (.lload_n 3, 89, 3, 0, .null), some (.invokestatic 267, 92, 218, 2, .null), none, none, some (.lastore, 93, 0, 0, .null), some (.lload 5, 95, 5, 0, .null), none, some (.lreturn, 96, 0, 0, .null)]],
  7, (some .long), 7, 220)
def kX7_copy : aM := ([[some (.iload_n 1, 1, 1, 0, .null), some (.invokestatic 262, 4, 217, 1, .null), none, none, some (.ifCond .eq 10, 7, 14, 0, .null), none, none, some (.iload_n 3, 8, 3, 0, .null), some (.invokestatic 262, 11, 217, 1, .null), none, none, some (.ifCond .ne 10, 14, 21, 0, .null), none, none, some (.aload_n 0, 15, 0, 0, .null), some (.ldc 47, 17, 0, 0, .int (-1000000001))],
 [none, some (.invokevirtual 68, 20, 130, 2, .retAddr 7), none, none, some (.ireturn, 21, 0, 0, .null), some (.aload_n 0, 22, 0, 0, .null), some (.getfield 25, 25, 7, 7, .null), none, none, some (.iload_n 1, 26, 1, 0, .null), some (.iaload, 27, 0, 0, .null), some (.ifCond .lt 12, 30, 39, 0, .null), none, none, some (.aload_n 0, 31, 0, 0, .null), some (.getfield 25, 34, 7, 7, .null)],
 [none, none, some (.iload_n 3, 35, 3, 0, .null), some (.iaload, 36, 0, 0, .null), some (.ifCond .ge 11, 39, 47, 0, .null), none, none, some (.aload_n 0, 40, 0, 0, .null), some (.ldc_w 266, 43, 0, 0, .int (-1000000006)), none, none, some (.invokevirtual 68, 46, 130, 2, .retAddr 7), none, none, some (.ireturn, 47, 0, 0, .null), some (.aload_n 0, 48, 0, 0, .null)],
 [some (.getfield 25, 51, 7, 7, .null), none, none, some (.iload_n 1, 52, 1, 0, .null), some (.iaload, 53, 0, 0, .null), some (.aload_n 0, 54, 0, 0, .null), some (.getfield 25, 57, 7, 7, .null), none, none, some (.iload_n 3, 58, 3, 0, .null), some (.iaload, 59, 0, 0, .null), some (.if_icmp .eq 10, 62, 69, 0, .null), none, none, some (.aload_n 0, 63, 0, 0, .null), some (.ldc 116, 65, 0, 0, .int (-1000000003))],
 [none, some (.invokevirtual 68, 68, 130, 2, .retAddr 7), none, none, some (.ireturn, 69, 0, 0, .null), some (.iload_n 2, 70, 2, 0, .null), some (.ifCond .lt 40, 73, 110, 0, .null), none, none, some (.iload 4, 75, 4, 0, .null), none, some (.ifCond .lt 35, 78, 110, 0, .null), none, none, some (.iload 5, 80, 5, 0, .null), none],
 [some (.ifCond .lt 30, 83, 110, 0, .null), none, none, some (.iload 5, 85, 5, 0, .null), none, some (.aload_n 0, 86, 0, 0, .null), some (.getfield 28, 89, 7, 8, .null), none, none, some (.iload_n 1, 90, 1, 0, .null), some (.iaload, 91, 0, 0, .null), some (.iload_n 2, 92, 2, 0, .null), some (.isub, 93, 0, 0, .null), some (.if_icmp .gt 17, 96, 110, 0, .null), none, none],
 [some (.iload 5, 98, 5, 0, .null), none, some (.aload_n 0, 99, 0, 0, .null), some (.getfield 28, 102, 7, 8, .null), none, none, some (.iload_n 3, 103, 3, 0, .null), some (.iaload, 104, 0, 0, .null), some (.iload 4, 106, 4, 0, .null), none, some (.isub, 107, 0, 0, .null), some (.if_icmp .le 10, 110, 117, 0, .null), none, none, some (.aload_n 0, 111, 0, 0, .null), some (.ldc 47, 113, 0, 0, .int (-1000000001))],
 [none, some (.invokevirtual 68, 116, 130, 2, .retAddr 7), none, none, some (.ireturn, 117, 0, 0, .null), some (.bipush 40, 119, 0, 0, .int (40)), none, some (.iload_n 1, 120, 1, 0, .null), some (.imul, 121, 0, 0, .null), some (.iload_n 2, 122, 2, 0, .null), some (.iadd, 123, 0, 0, .null), some (.istore 6, 125, 6, 0, .null), none, some (.bipush 40, 127, 0, 0, .int (40)), none, some (.iload_n 3, 128, 3, 0, .null)],
 [some (.imul, 129, 0, 0, .null), some (.iload 4, 131, 4, 0, .null), none, some (.iadd, 132, 0, 0, .null), some (.istore 7, 134, 7, 0, .null), none, some (.iconst 0, 135, 0, 0, .int (0)), some (.istore 8, 137, 8, 0, .null), none, some (.iload 8, 139, 8, 0, .null), none, some (.iload 5, 141, 5, 0, .null), none, some (.if_icmp .ge 50, 144, 191, 0, .null), none, none],
 [some (.iload 6, 146, 6, 0, .null), none, some (.iload 7, 148, 7, 0, .null), none, some (.if_icmp .ge 13, 151, 161, 0, .null), none, none, some (.iload 5, 153, 5, 0, .null), none, some (.iconst 1, 154, 0, 0, .int (1)), some (.isub, 155, 0, 0, .null), some (.iload 8, 157, 8, 0, .null), none, some (.isub, 158, 0, 0, .null), some (.goto 5, 161, 163, 0, .null), none],
 [none, some (.iload 8, 163, 8, 0, .null), none, some (.istore 9, 165, 9, 0, .null), none, some (.aload_n 0, 166, 0, 0, .null), some (.getfield 31, 169, 7, 9, .null), none, none, some (.iload 7, 171, 7, 0, .null), none, some (.iload 9, 173, 9, 0, .null), none, some (.iadd, 174, 0, 0, .null), some (.aload_n 0, 175, 0, 0, .null), some (.getfield 31, 178, 7, 9, .null)],
 [none, none, some (.iload 6, 180, 6, 0, .null), none, some (.iload 9, 182, 9, 0, .null), none, some (.iadd, 183, 0, 0, .null), some (.laload, 184, 0, 0, .null), some (.lastore, 185, 0, 0, .null), some (.iinc 8 1, 188, 8, 0, .int (1)), none, none, some (.goto (-51), 191, 137, 0, .null), none, none, some (.iload 5, 193, 5, 0, .null)],
 [none, some (.ireturn, 194, 0, 0, .null)]],
  10, (some .int), 7, 221)
def kX7_wants : aM := ([[some (.iload_n 1, 1, 1, 0, .null), some (.invokestatic 262, 4, 217, 1, .null), none, none, some (.ifCond .ne 8, 7, 12, 0, .null), none, none, some (.ldc 47, 9, 0, 0, .int (-1000000001)), none, some (.goto 19, 12, 28, 0, .null), none, none, some (.aload_n 0, 13, 0, 0, .null), some (.getfield 25, 16, 7, 7, .null), none, none],
 [some (.iload_n 1, 17, 1, 0, .null), some (.iaload, 18, 0, 0, .null), some (.ifCond .ge 9, 21, 27, 0, .null), none, none, some (.ldc_w 266, 24, 0, 0, .int (-1000000006)), none, none, some (.goto 4, 27, 28, 0, .null), none, none, some (.iconst 0, 28, 0, 0, .int (0)), some (.ireturn, 29, 0, 0, .null)]],
  2, (some .int), 7, 222)
def kX7_lays_ : aM := ([[some (.aload_n 0, 1, 0, 0, .null), some (.iload_n 1, 2, 1, 0, .null), some (.invokevirtual 271, 5, 222, 2, .retAddr 7), none, none, some (.ifCond .eq 11, 8, 16, 0, .null), none, none, some (.aload_n 0, 9, 0, 0, .null), some (.iload_n 1, 10, 1, 0, .null), some (.invokevirtual 271, 13, 222, 2, .retAddr 7), none, none, some (.goto 16, 16, 29, 0, .null), none, none],
 [some (.iload_n 2, 17, 2, 0, .null), some (.invokestatic 48, 20, 132, 1, .null), none, none, some (.ifCond .eq 7, 23, 27, 0, .null), none, none, some (.iconst 0, 24, 0, 0, .int (0)), some (.goto 5, 27, 29, 0, .null), none, none, some (.ldc 47, 29, 0, 0, .int (-1000000001)), none, some (.istore_n 3, 30, 3, 0, .null), some (.iload_n 3, 31, 3, 0, .null), some (.ifCond .eq 9, 34, 40, 0, .null)],
 [none, none, some (.aload_n 0, 35, 0, 0, .null), some (.iload_n 3, 36, 3, 0, .null), some (.invokevirtual 68, 39, 130, 2, .retAddr 7), none, none, some (.ireturn, 40, 0, 0, .null), some (.aload_n 0, 41, 0, 0, .null), some (.getfield 7, 44, 7, 0, .null), none, none, some (.iconst 0, 45, 0, 0, .int (0)), some (.iload_n 2, 46, 2, 0, .null), some (.iadd, 47, 0, 0, .null), some (.iconst 0, 48, 0, 0, .int (0))],
 [some (.iastore, 49, 0, 0, .null), some (.iconst 0, 50, 0, 0, .int (0)), some (.istore 4, 52, 4, 0, .null), none, some (.iload 4, 54, 4, 0, .null), none, some (.aload_n 0, 55, 0, 0, .null), some (.getfield 28, 58, 7, 8, .null), none, none, some (.iload_n 1, 59, 1, 0, .null), some (.iaload, 60, 0, 0, .null), some (.if_icmp .ge 81, 63, 141, 0, .null), none, none, some (.iload 4, 65, 4, 0, .null)],
 [none, some (.bipush 7, 67, 0, 0, .int (7)), none, some (.if_icmp .ge 74, 70, 141, 0, .null), none, none, some (.aload_n 0, 71, 0, 0, .null), some (.getfield 31, 74, 7, 9, .null), none, none, some (.bipush 40, 76, 0, 0, .int (40)), none, some (.iload_n 1, 77, 1, 0, .null), some (.imul, 78, 0, 0, .null), some (.iload 4, 80, 4, 0, .null), none],
 [some (.iadd, 81, 0, 0, .null), some (.laload, 82, 0, 0, .null), some (.lstore 5, 84, 5, 0, .null), none, some (.lload 5, 86, 5, 0, .null), none, some (.lconst 0, 87, 0, 0, .long 0), some (.ldc2_w 274, 90, 0, 0, .long (59)), none, none, some (.invokestatic 58, 93, 129, 3, .null), none, none, some (.ifCond .eq 21, 96, 114, 0, .null), none, none],
 [some (.lload 5, 98, 5, 0, .null), none, some (.l2i, 99, 0, 0, .null), some (.bipush 10, 101, 0, 0, .int (10)), none, some (.idiv, 102, 0, 0, .null), some (.lload 5, 104, 5, 0, .null), none, some (.l2i, 105, 0, 0, .null), some (.bipush 10, 107, 0, 0, .int (10)), none, some (.irem, 108, 0, 0, .null), some (.invokestatic 64, 111, 139, 2, .null), none, none, some (.ifCond .ne 6, 114, 117, 0, .null)],
 [none, none, some (.iload 4, 116, 4, 0, .null), none, some (.ireturn, 117, 0, 0, .null), some (.aload_n 0, 118, 0, 0, .null), some (.iload_n 2, 119, 2, 0, .null), some (.lload 5, 121, 5, 0, .null), none, some (.l2i, 122, 0, 0, .null), some (.bipush 10, 124, 0, 0, .int (10)), none, some (.idiv, 125, 0, 0, .null), some (.lload 5, 127, 5, 0, .null), none, some (.l2i, 128, 0, 0, .null)],
 [some (.bipush 10, 130, 0, 0, .int (10)), none, some (.irem, 131, 0, 0, .null), some (.iconst 0, 132, 0, 0, .int (0)), some (.invokevirtual 73, 135, 138, 5, .retAddr 7), none, none, some (.iinc 4 1, 138, 4, 0, .int (1)), none, none, some (.goto (-86), 141, 52, 0, .null), none, none, some (.aload_n 0, 142, 0, 0, .null), some (.getfield 7, 145, 7, 0, .null), none],
 [none, some (.iconst 0, 146, 0, 0, .int (0)), some (.iload_n 2, 147, 2, 0, .null), some (.iadd, 148, 0, 0, .null), some (.iaload, 149, 0, 0, .null), some (.ireturn, 150, 0, 0, .null)]],
  7, (some .int), 7, 223)
def kX7_show : aM := ([[some (.aload_n 0, 1, 0, 0, .null), some (.iload_n 1, 2, 1, 0, .null), some (.invokevirtual 271, 5, 222, 2, .retAddr 7), none, none, some (.ifCond .eq 11, 8, 16, 0, .null), none, none, some (.aload_n 0, 9, 0, 0, .null), some (.iload_n 1, 10, 1, 0, .null), some (.invokevirtual 271, 13, 222, 2, .retAddr 7), none, none, some (.goto 16, 16, 29, 0, .null), none, none],
 [some (.iload_n 2, 17, 2, 0, .null), some (.invokestatic 48, 20, 132, 1, .null), none, none, some (.ifCond .eq 7, 23, 27, 0, .null), none, none, some (.iconst 0, 24, 0, 0, .int (0)), some (.goto 5, 27, 29, 0, .null), none, none, some (.ldc 47, 29, 0, 0, .int (-1000000001)), none, some (.istore_n 3, 30, 3, 0, .null), some (.iload_n 3, 31, 3, 0, .null), some (.ifCond .eq 9, 34, 40, 0, .null)],
 [none, none, some (.aload_n 0, 35, 0, 0, .null), some (.iload_n 3, 36, 3, 0, .null), some (.invokevirtual 68, 39, 130, 2, .retAddr 7), none, none, some (.ireturn, 40, 0, 0, .null), some (.iconst 0, 41, 0, 0, .int (0)), some (.istore 4, 43, 4, 0, .null), none, some (.iconst 0, 44, 0, 0, .int (0)), some (.istore 5, 46, 5, 0, .null), none, some (.iload 5, 48, 5, 0, .null), none],
 [some (.aload_n 0, 49, 0, 0, .null), some (.getfield 28, 52, 7, 8, .null), none, none, some (.iload_n 1, 53, 1, 0, .null), some (.iaload, 54, 0, 0, .null), some (.if_icmp .ge 48, 57, 102, 0, .null), none, none, some (.iload 5, 59, 5, 0, .null), none, some (.bipush 20, 61, 0, 0, .int (20)), none, some (.if_icmp .gt 41, 64, 102, 0, .null), none, none],
 [some (.aload_n 0, 65, 0, 0, .null), some (.getfield 31, 68, 7, 9, .null), none, none, some (.bipush 40, 70, 0, 0, .int (40)), none, some (.iload_n 1, 71, 1, 0, .null), some (.imul, 72, 0, 0, .null), some (.iload 5, 74, 5, 0, .null), none, some (.iadd, 75, 0, 0, .null), some (.aload_n 0, 76, 0, 0, .null), some (.getfield 25, 79, 7, 7, .null), none, none, some (.iload_n 1, 80, 1, 0, .null)],
 [some (.iaload, 81, 0, 0, .null), some (.aload_n 0, 82, 0, 0, .null), some (.iload_n 2, 83, 2, 0, .null), some (.iload 5, 85, 5, 0, .null), none, some (.invokevirtual 141, 88, 148, 3, .retAddr 7), none, none, some (.i2l, 89, 0, 0, .null), some (.invokestatic 267, 92, 218, 2, .null), none, none, some (.lastore, 93, 0, 0, .null), some (.iinc 4 1, 96, 4, 0, .int (1)), none, none],
 [some (.iinc 5 1, 99, 5, 0, .int (1)), none, none, some (.goto (-53), 102, 46, 0, .null), none, none, some (.iload 4, 104, 4, 0, .null), none, some (.ireturn, 105, 0, 0, .null)]],
  6, (some .int), 7, 224)
def kX7_check : aM := ([[some (.aload_n 0, 1, 0, 0, .null), some (.iload_n 1, 2, 1, 0, .null), some (.invokevirtual 271, 5, 222, 2, .retAddr 7), none, none, some (.ifCond .eq 11, 8, 16, 0, .null), none, none, some (.aload_n 0, 9, 0, 0, .null), some (.iload_n 1, 10, 1, 0, .null), some (.invokevirtual 271, 13, 222, 2, .retAddr 7), none, none, some (.goto 16, 16, 29, 0, .null), none, none],
 [some (.iload_n 2, 17, 2, 0, .null), some (.invokestatic 48, 20, 132, 1, .null), none, none, some (.ifCond .eq 7, 23, 27, 0, .null), none, none, some (.iconst 0, 24, 0, 0, .int (0)), some (.goto 5, 27, 29, 0, .null), none, none, some (.ldc 47, 29, 0, 0, .int (-1000000001)), none, some (.istore_n 3, 30, 3, 0, .null), some (.iload_n 3, 31, 3, 0, .null), some (.ifCond .eq 9, 34, 40, 0, .null)],
 [none, none, some (.aload_n 0, 35, 0, 0, .null), some (.iload_n 3, 36, 3, 0, .null), some (.invokevirtual 68, 39, 130, 2, .retAddr 7), none, none, some (.ireturn, 40, 0, 0, .null), some (.aload_n 0, 41, 0, 0, .null), some (.iload_n 2, 42, 2, 0, .null), some (.invokevirtual 96, 45, 142, 2, .retAddr 7), none, none, some (.iconst 0, 46, 0, 0, .int (0)), some (.istore 4, 48, 4, 0, .null), none],
 [some (.iload 4, 50, 4, 0, .null), none, some (.aload_n 0, 51, 0, 0, .null), some (.getfield 28, 54, 7, 8, .null), none, none, some (.iload_n 1, 55, 1, 0, .null), some (.iaload, 56, 0, 0, .null), some (.if_icmp .ge 49, 59, 105, 0, .null), none, none, some (.iload 4, 61, 4, 0, .null), none, some (.aload_n 0, 62, 0, 0, .null), some (.getfield 80, 65, 7, 11, .int 0), none],
 [none, some (.if_icmp .ge 40, 68, 105, 0, .null), none, none, some (.aload_n 0, 69, 0, 0, .null), some (.getfield 31, 72, 7, 9, .null), none, none, some (.bipush 40, 74, 0, 0, .int (40)), none, some (.iload_n 1, 75, 1, 0, .null), some (.imul, 76, 0, 0, .null), some (.iload 4, 78, 4, 0, .null), none, some (.iadd, 79, 0, 0, .null), some (.laload, 80, 0, 0, .null)],
 [some (.aload_n 0, 81, 0, 0, .null), some (.iload 4, 83, 4, 0, .null), none, some (.iconst 1, 84, 0, 0, .int (1)), some (.iadd, 85, 0, 0, .null), some (.aload_n 0, 86, 0, 0, .null), some (.getfield 7, 89, 7, 0, .null), none, none, some (.iconst 4, 90, 0, 0, .int (4)), some (.iaload, 91, 0, 0, .null), some (.invokevirtual 100, 94, 147, 3, .retAddr 7), none, none, some (.i2l, 95, 0, 0, .null), some (.lcmp, 96, 0, 0, .null)],
 [some (.ifCond .ne 9, 99, 105, 0, .null), none, none, some (.iinc 4 1, 102, 4, 0, .int (1)), none, none, some (.goto (-54), 105, 48, 0, .null), none, none, some (.iload 4, 107, 4, 0, .null), none, some (.aload_n 0, 108, 0, 0, .null), some (.getfield 28, 111, 7, 8, .null), none, none, some (.iload_n 1, 112, 1, 0, .null)],
 [some (.iaload, 113, 0, 0, .null), some (.if_icmp .ne 16, 116, 129, 0, .null), none, none, some (.iload 4, 118, 4, 0, .null), none, some (.aload_n 0, 119, 0, 0, .null), some (.getfield 80, 122, 7, 11, .int 0), none, none, some (.if_icmp .ne 7, 125, 129, 0, .null), none, none, some (.iconst 0, 126, 0, 0, .int (0)), some (.goto 7, 129, 133, 0, .null), none],
 [none, some (.iconst 1, 130, 0, 0, .int (1)), some (.iload 4, 132, 4, 0, .null), none, some (.iadd, 133, 0, 0, .null), some (.ireturn, 134, 0, 0, .null)]],
  5, (some .int), 7, 225)
def kX7_image : aM := ([[some (.aload_n 0, 1, 0, 0, .null), some (.getfield 7, 4, 7, 0, .null), none, none, some (.aload_n 0, 5, 0, 0, .null), some (.getfield 13, 8, 7, 1, .null), none, none, some (.invokestatic 255, 11, 136, 2, .null), none, none, some (.aload_n 0, 12, 0, 0, .null), some (.iconst 1, 13, 0, 0, .int (1)), some (.putfield 276, 16, 7, 3, .int 1), none, none],
 [some (.iconst 1, 17, 0, 0, .int (1)), some (.ireturn, 18, 0, 0, .null)]],
  1, (some .int), 7, 226)
def kX7_undo : aM := ([[some (.aload_n 0, 1, 0, 0, .null), some (.getfield 276, 4, 7, 3, .int 1), none, none, some (.ifCond .ne 10, 7, 14, 0, .null), none, none, some (.aload_n 0, 8, 0, 0, .null), some (.ldc 132, 10, 0, 0, .int (-1000000004)), none, some (.invokevirtual 68, 13, 130, 2, .retAddr 7), none, none, some (.ireturn, 14, 0, 0, .null), some (.aload_n 0, 15, 0, 0, .null), some (.getfield 13, 18, 7, 1, .null)],
 [none, none, some (.aload_n 0, 19, 0, 0, .null), some (.getfield 7, 22, 7, 0, .null), none, none, some (.invokestatic 255, 25, 136, 2, .null), none, none, some (.aload_n 0, 26, 0, 0, .null), some (.invokevirtual 280, 29, 161, 1, .retAddr 7), none, none, some (.ireturn, 30, 0, 0, .null)]],
  1, (some .int), 7, 227)
def kX7_tear : aM := ([[some (.aload_n 0, 1, 0, 0, .null), some (.getfield 276, 4, 7, 3, .int 1), none, none, some (.istore_n 1, 5, 1, 0, .null), some (.aload_n 0, 6, 0, 0, .null), some (.iconst 0, 7, 0, 0, .int (0)), some (.putfield 276, 10, 7, 3, .int 1), none, none, some (.iload_n 1, 11, 1, 0, .null), some (.ifCond .eq 7, 14, 18, 0, .null), none, none, some (.iconst 1, 15, 0, 0, .int (1)), some (.goto 4, 18, 19, 0, .null)],
 [none, none, some (.iconst 0, 19, 0, 0, .int (0)), some (.ireturn, 20, 0, 0, .null)]],
  2, (some .int), 7, 228)
def kX7_count : aM := ([[some (.iconst 0, 1, 0, 0, .int (0)), some (.istore_n 2, 2, 2, 0, .null), some (.iload_n 1, 3, 1, 0, .null), some (.tableswitch 85 0 4 #[33, 38, 66, 71, 78], 36, 0, 0, .null), none, none, none, none, none, none, none, none, none, none, none, none],
 [none, none, none, none, none, none, none, none, none, none, none, none, none, none, none, none],
 [none, none, none, none, some (.aload_n 0, 37, 0, 0, .null), some (.invokevirtual 280, 40, 161, 1, .retAddr 7), none, none, some (.ireturn, 41, 0, 0, .null), some (.iconst 0, 42, 0, 0, .int (0)), some (.istore_n 3, 43, 3, 0, .null), some (.iload_n 3, 44, 3, 0, .null), some (.bipush 10, 46, 0, 0, .int (10)), none, some (.if_icmp .ge 21, 49, 67, 0, .null), none],
 [none, some (.iload_n 2, 50, 2, 0, .null), some (.aload_n 0, 51, 0, 0, .null), some (.getfield 7, 54, 7, 0, .null), none, none, some (.bipush 6, 56, 0, 0, .int (6)), none, some (.iload_n 3, 57, 3, 0, .null), some (.iadd, 58, 0, 0, .null), some (.iaload, 59, 0, 0, .null), some (.iadd, 60, 0, 0, .null), some (.istore_n 2, 61, 2, 0, .null), some (.iinc 3 1, 64, 3, 0, .int (1)), none, none],
 [some (.goto (-21), 67, 43, 0, .null), none, none, some (.iload_n 2, 68, 2, 0, .null), some (.ireturn, 69, 0, 0, .null), some (.aload_n 0, 70, 0, 0, .null), some (.getfield 182, 73, 7, 6, .int 0), none, none, some (.ireturn, 74, 0, 0, .null), some (.aload_n 0, 75, 0, 0, .null), some (.getfield 7, 78, 7, 0, .null), none, none, some (.iconst 4, 79, 0, 0, .int (4)), some (.iaload, 80, 0, 0, .null)],
 [some (.ireturn, 81, 0, 0, .null), some (.aload_n 0, 82, 0, 0, .null), some (.getfield 7, 85, 7, 0, .null), none, none, some (.iconst 5, 86, 0, 0, .int (5)), some (.iaload, 87, 0, 0, .null), some (.ireturn, 88, 0, 0, .null), some (.aload_n 0, 89, 0, 0, .null), some (.ldc 47, 91, 0, 0, .int (-1000000001)), none, some (.invokevirtual 68, 94, 130, 2, .retAddr 7), none, none, some (.ireturn, 95, 0, 0, .null)]],
  4, (some .int), 7, 229)
def kX7_status : aM := ([[some (.iload_n 1, 1, 1, 0, .null), some (.i2l, 2, 0, 0, .null), some (.ldc2_w 283, 5, 0, 0, .long (-1)), none, none, some (.ldc2_w 285, 8, 0, 0, .long (6)), none, none, some (.invokestatic 58, 11, 129, 3, .null), none, none, some (.ifCond .eq 14, 14, 25, 0, .null), none, none, some (.aload_n 0, 15, 0, 0, .null), some (.getfield 19, 18, 7, 4, .null)],
 [none, none, some (.iload_n 1, 19, 1, 0, .null), some (.iconst 1, 20, 0, 0, .int (1)), some (.iadd, 21, 0, 0, .null), some (.iaload, 22, 0, 0, .null), some (.goto 9, 25, 31, 0, .null), none, none, some (.aload_n 0, 26, 0, 0, .null), some (.ldc 47, 28, 0, 0, .int (-1000000001)), none, some (.invokevirtual 68, 31, 130, 2, .retAddr 7), none, none, some (.ireturn, 32, 0, 0, .null)]],
  2, (some .int), 7, 230)
def kJ6_bitCount_0f7a4 : aM := ([[some (.iload_n 0, 1, 0, 0, .null), some (.iload_n 0, 2, 0, 0, .null), some (.iconst 1, 3, 0, 0, .int (1)), some (.iushr, 4, 0, 0, .null), some (.ldc_w 265, 7, 0, 0, .int (1431655765)), none, none, some (.iand, 8, 0, 0, .null), some (.isub, 9, 0, 0, .null), some (.istore_n 0, 10, 0, 0, .null), some (.iload_n 0, 11, 0, 0, .null), some (.ldc_w 266, 14, 0, 0, .int (858993459)), none, none, some (.iand, 15, 0, 0, .null), some (.iload_n 0, 16, 0, 0, .null)],
 [some (.iconst 2, 17, 0, 0, .int (2)), some (.iushr, 18, 0, 0, .null), some (.ldc_w 266, 21, 0, 0, .int (858993459)), none, none, some (.iand, 22, 0, 0, .null), some (.iadd, 23, 0, 0, .null), some (.istore_n 0, 24, 0, 0, .null), some (.iload_n 0, 25, 0, 0, .null), some (.iload_n 0, 26, 0, 0, .null), some (.iconst 4, 27, 0, 0, .int (4)), some (.iushr, 28, 0, 0, .null), some (.iadd, 29, 0, 0, .null), some (.ldc_w 267, 32, 0, 0, .int (252645135)), none, none],
 [some (.iand, 33, 0, 0, .null), some (.istore_n 0, 34, 0, 0, .null), some (.iload_n 0, 35, 0, 0, .null), some (.iload_n 0, 36, 0, 0, .null), some (.bipush 8, 38, 0, 0, .int (8)), none, some (.iushr, 39, 0, 0, .null), some (.iadd, 40, 0, 0, .null), some (.istore_n 0, 41, 0, 0, .null), some (.iload_n 0, 42, 0, 0, .null), some (.iload_n 0, 43, 0, 0, .null), some (.bipush 16, 45, 0, 0, .int (16)), none, some (.iushr, 46, 0, 0, .null), some (.iadd, 47, 0, 0, .null), some (.istore_n 0, 48, 0, 0, .null)],
 [some (.iload_n 0, 49, 0, 0, .null), some (.bipush 63, 51, 0, 0, .int (63)), none, some (.iand, 52, 0, 0, .null), some (.ireturn, 53, 0, 0, .null)]],
  1, (some .int), 9, 231)
def kJ13_bitCount_95d88 : aM := ([[some (.lload_n 0, 1, 0, 0, .null), some (.lload_n 0, 2, 0, 0, .null), some (.iconst 1, 3, 0, 0, .int (1)), some (.lushr, 4, 0, 0, .null), some (.ldc2_w 314, 7, 0, 0, .long (6148914691236517205)), none, none, some (.land, 8, 0, 0, .null), some (.lsub, 9, 0, 0, .null), some (.lstore_n 0, 10, 0, 0, .null), some (.lload_n 0, 11, 0, 0, .null), some (.ldc2_w 316, 14, 0, 0, .long (3689348814741910323)), none, none, some (.land, 15, 0, 0, .null), some (.lload_n 0, 16, 0, 0, .null)],
 [some (.iconst 2, 17, 0, 0, .int (2)), some (.lushr, 18, 0, 0, .null), some (.ldc2_w 316, 21, 0, 0, .long (3689348814741910323)), none, none, some (.land, 22, 0, 0, .null), some (.ladd, 23, 0, 0, .null), some (.lstore_n 0, 24, 0, 0, .null), some (.lload_n 0, 25, 0, 0, .null), some (.lload_n 0, 26, 0, 0, .null), some (.iconst 4, 27, 0, 0, .int (4)), some (.lushr, 28, 0, 0, .null), some (.ladd, 29, 0, 0, .null), some (.ldc2_w 318, 32, 0, 0, .long (1085102592571150095)), none, none],
 [some (.land, 33, 0, 0, .null), some (.lstore_n 0, 34, 0, 0, .null), some (.lload_n 0, 35, 0, 0, .null), some (.lload_n 0, 36, 0, 0, .null), some (.bipush 8, 38, 0, 0, .int (8)), none, some (.lushr, 39, 0, 0, .null), some (.ladd, 40, 0, 0, .null), some (.lstore_n 0, 41, 0, 0, .null), some (.lload_n 0, 42, 0, 0, .null), some (.lload_n 0, 43, 0, 0, .null), some (.bipush 16, 45, 0, 0, .int (16)), none, some (.lushr, 46, 0, 0, .null), some (.ladd, 47, 0, 0, .null), some (.lstore_n 0, 48, 0, 0, .null)],
 [some (.lload_n 0, 49, 0, 0, .null), some (.lload_n 0, 50, 0, 0, .null), some (.bipush 32, 52, 0, 0, .int (32)), none, some (.lushr, 53, 0, 0, .null), some (.ladd, 54, 0, 0, .null), some (.lstore_n 0, 55, 0, 0, .null), some (.lload_n 0, 56, 0, 0, .null), some (.l2i, 57, 0, 0, .null), some (.bipush 127, 59, 0, 0, .int (127)), none, some (.iand, 60, 0, 0, .null), some (.ireturn, 61, 0, 0, .null)]],
  2, (some .int), 10, 232)
def kJ0_length_8abf5 : aM := ([[some (.aload_n 0, 1, 0, 0, .null), some (.getfield 9, 4, 100, 0, .null), none, none, some (.arraylength, 5, 0, 0, .null), some (.aload_n 0, 6, 0, 0, .null), some (.invokevirtual 335, 9, 235, 1, .retAddr 12), none, none, some (.ishr, 10, 0, 0, .null), some (.ireturn, 11, 0, 0, .null)]],
  1, (some .int), 12, 233)
def kJ0_charAt_5068e : aM := ([[some (.aload_n 0, 1, 0, 0, .null), some (.invokevirtual 492, 4, 236, 1, .retAddr 12), none, none, some (.ifCond .eq 12, 7, 16, 0, .null), none, none, some (.aload_n 0, 8, 0, 0, .null), some (.getfield 9, 11, 100, 0, .null), none, none, some (.iload_n 1, 12, 1, 0, .null), some (.invokestatic 495, 15, 238, 2, .null), none, none, some (.ireturn, 16, 0, 0, .null)],
 [some (.aload_n 0, 17, 0, 0, .null), some (.getfield 9, 20, 100, 0, .null), none, none, some (.iload_n 1, 21, 1, 0, .null), some (.invokestatic 498, 24, 999, 2, .null), none, none, some (.ireturn, 25, 0, 0, .null)]],
  2, (some .char), 12, 234)
def kJ0_coder_7d493 : aM := ([[some (.getstatic 38, 3, 0, 0, .int 1), none, none, some (.ifCond .eq 10, 6, 13, 0, .null), none, none, some (.aload_n 0, 7, 0, 0, .null), some (.getfield 15, 10, 100, 1, .null), none, none, some (.goto 4, 13, 14, 0, .null), none, none, some (.iconst 1, 14, 0, 0, .int (1)), some (.ireturn, 15, 0, 0, .null)]],
  1, (some .byte), 12, 235)
def kJ0_isLatin1_aae02 : aM := ([[some (.getstatic 38, 3, 0, 0, .int 1), none, none, some (.ifCond .eq 14, 6, 17, 0, .null), none, none, some (.aload_n 0, 7, 0, 0, .null), some (.getfield 15, 10, 100, 1, .null), none, none, some (.ifCond .ne 7, 13, 17, 0, .null), none, none, some (.iconst 1, 14, 0, 0, .int (1)), some (.goto 4, 17, 18, 0, .null), none],
 [none, some (.iconst 0, 18, 0, 0, .int (0)), some (.ireturn, 19, 0, 0, .null)]],
  1, (some .boolean), 12, 236)
def kJ0_checkIndex_df160 : aM := ([[some (.iload_n 0, 1, 0, 0, .null), some (.iload_n 1, 2, 1, 0, .null), some (.getstatic 1053, 5, 0, 0, .retAddr 1), none, none, some (.invokestatic 1059, 8, 241, 3, .null), none, none, some (.pop, 9, 0, 0, .null), some (.return_, 10, 0, 0, .null)]],
  2, none, 12, 237)
def kJ1_charAt_3b067 : aM := ([[some (.iload_n 1, 1, 1, 0, .null), some (.aload_n 0, 2, 0, 0, .null), some (.arraylength, 3, 0, 0, .null), some (.invokestatic 9, 6, 237, 2, .null), none, none, some (.aload_n 0, 7, 0, 0, .null), some (.iload_n 1, 8, 1, 0, .null), some (.baload, 9, 0, 0, .null), some (.sipush 255, 12, 0, 0, .int (255)), none, none, some (.iand, 13, 0, 0, .null), some (.i2c, 14, 0, 0, .null), some (.ireturn, 15, 0, 0, .null)]],
  2, (some .char), 13, 238)
def kJ7_fill_d0a16 : aM := ([[some (.iconst 0, 1, 0, 0, .int (0)), some (.istore_n 3, 2, 3, 0, .null), some (.aload_n 0, 3, 0, 0, .null), some (.arraylength, 4, 0, 0, .null), some (.istore 4, 6, 4, 0, .null), none, some (.iload_n 3, 7, 3, 0, .null), some (.iload 4, 9, 4, 0, .null), none, some (.if_icmp .ge 13, 12, 22, 0, .null), none, none, some (.aload_n 0, 13, 0, 0, .null), some (.iload_n 3, 14, 3, 0, .null), some (.lload_n 1, 15, 1, 0, .null), some (.lastore, 16, 0, 0, .null)],
 [some (.iinc 3 1, 19, 3, 0, .int (1)), none, none, some (.goto (-13), 22, 6, 0, .null), none, none, some (.return_, 23, 0, 0, .null)]],
  5, none, 14, 239)
def kJ7_fill_53178 : aM := ([[some (.iconst 0, 1, 0, 0, .int (0)), some (.istore_n 2, 2, 2, 0, .null), some (.aload_n 0, 3, 0, 0, .null), some (.arraylength, 4, 0, 0, .null), some (.istore_n 3, 5, 3, 0, .null), some (.iload_n 2, 6, 2, 0, .null), some (.iload_n 3, 7, 3, 0, .null), some (.if_icmp .ge 13, 10, 20, 0, .null), none, none, some (.aload_n 0, 11, 0, 0, .null), some (.iload_n 2, 12, 2, 0, .null), some (.iload_n 1, 13, 1, 0, .null), some (.iastore, 14, 0, 0, .null), some (.iinc 2 1, 17, 2, 0, .int (1)), none],
 [none, some (.goto (-12), 20, 5, 0, .null), none, none, some (.return_, 21, 0, 0, .null)]],
  4, none, 14, 240)
def kJ3_checkIndex_8e157 : aM := ([[some (.iload_n 0, 1, 0, 0, .null), some (.ifCond .lt 8, 4, 9, 0, .null), none, none, some (.iload_n 0, 5, 0, 0, .null), some (.iload_n 1, 6, 1, 0, .null), some (.if_icmp .lt 10, 9, 16, 0, .null), none, none, some (.aload_n 2, 10, 2, 0, .null), some (.iload_n 0, 11, 0, 0, .null), some (.iload_n 1, 12, 1, 0, .null), some (.invokestatic 95, 15, 999, 0, .null), none, none, some (.athrow, 16, 0, 0, .null)],
 [some (.iload_n 0, 17, 0, 0, .null), some (.ireturn, 18, 0, 0, .null)]],
  3, (some .int), 15, 241)
def cl_0 : List (Option aE) := [some (.new 7, 3, 6, 0, .null), none, none, some (.dup, 4, 0, 0, .null), some (.invokespecial 9, 7, 53, 1, .null), none, none, some (.astore_n 1, 8, 1, 0, .null), some (.new 10, 11, 7, 0, .null), none, none, some (.dup, 12, 0, 0, .null), some (.invokespecial 12, 15, 128, 1, .null), none, none, some (.astore_n 2, 16, 2, 0, .null)]
def cl_1 : List (Option aE) := [some (.iconst 0, 17, 0, 0, .int (0)), some (.istore_n 3, 18, 3, 0, .null), some (.iload_n 3, 19, 3, 0, .null), some (.aload_n 0, 20, 0, 0, .null), some (.arraylength, 21, 0, 0, .null), some (.bipush 6, 23, 0, 0, .int (6)), none, some (.isub, 24, 0, 0, .null), some (.if_icmp .gt 1630, 27, 1654, 0, .null), none, none, some (.aload_n 0, 28, 0, 0, .null), some (.iload_n 3, 29, 3, 0, .null), some (.iaload, 30, 0, 0, .null), some (.bipush 63, 32, 0, 0, .int (63)), none]
def cl_2 : List (Option aE) := [some (.iand, 33, 0, 0, .null), some (.tableswitch 1615 0 46 #[203, 246, 279, 322, 375, 418, 461, 504, 527, 560, 583, 606, 639, 662, 685, 708, 721, 744, 777, 800, 823, 846, 879, 912, 945, 978, 1001, 1024, 1057, 1080, 1103, 1136, 1169, 1192, 1225, 1238, 1251, 1294, 1368, 1431, 1464, 1497, 1530, 1543, 1556, 1569, 1592], 236, 0, 0, .null), none, none, none, none, none, none, none, none, none, none, none, none, none, none]
def cl_3 : List (Option aE) := [none, none, none, none, none, none, none, none, none, none, none, none, none, none, none, none]
def cl_4 : List (Option aE) := [none, none, none, none, none, none, none, none, none, none, none, none, none, none, none, none]
def cl_5 : List (Option aE) := [none, none, none, none, none, none, none, none, none, none, none, none, none, none, none, none]
def cl_6 : List (Option aE) := [none, none, none, none, none, none, none, none, none, none, none, none, none, none, none, none]
def cl_7 : List (Option aE) := [none, none, none, none, none, none, none, none, none, none, none, none, none, none, none, none]
def cl_8 : List (Option aE) := [none, none, none, none, none, none, none, none, none, none, none, none, none, none, none, none]
def cl_9 : List (Option aE) := [none, none, none, none, none, none, none, none, none, none, none, none, none, none, none, none]
def cl_10 : List (Option aE) := [none, none, none, none, none, none, none, none, none, none, none, none, none, none, none, none]
def cl_11 : List (Option aE) := [none, none, none, none, none, none, none, none, none, none, none, none, none, none, none, none]
def cl_12 : List (Option aE) := [none, none, none, none, none, none, none, none, none, none, none, none, none, none, none, none]
def cl_13 : List (Option aE) := [none, none, none, none, none, none, none, none, none, none, none, none, none, none, none, none]
def cl_14 : List (Option aE) := [none, none, none, none, none, none, none, none, none, none, none, none, some (.aload_n 1, 237, 1, 0, .null), some (.aload_n 0, 238, 0, 0, .null), some (.iload_n 3, 239, 3, 0, .null), some (.iconst 1, 240, 0, 0, .int (1))]
def cl_15 : List (Option aE) := [some (.iadd, 241, 0, 0, .null), some (.iaload, 242, 0, 0, .null), some (.aload_n 0, 243, 0, 0, .null), some (.iload_n 3, 244, 3, 0, .null), some (.iconst 2, 245, 0, 0, .int (2)), some (.iadd, 246, 0, 0, .null), some (.iaload, 247, 0, 0, .null), some (.aload_n 0, 248, 0, 0, .null), some (.iload_n 3, 249, 3, 0, .null), some (.iconst 3, 250, 0, 0, .int (3)), some (.iadd, 251, 0, 0, .null), some (.iaload, 252, 0, 0, .null), some (.invokevirtual 13, 255, 54, 4, .retAddr 6), none, none, some (.aload_n 2, 256, 2, 0, .null)]
def cl_16 : List (Option aE) := [some (.aload_n 0, 257, 0, 0, .null), some (.iload_n 3, 258, 3, 0, .null), some (.iconst 1, 259, 0, 0, .int (1)), some (.iadd, 260, 0, 0, .null), some (.iaload, 261, 0, 0, .null), some (.aload_n 0, 262, 0, 0, .null), some (.iload_n 3, 263, 3, 0, .null), some (.iconst 2, 264, 0, 0, .int (2)), some (.iadd, 265, 0, 0, .null), some (.iaload, 266, 0, 0, .null), some (.aload_n 0, 267, 0, 0, .null), some (.iload_n 3, 268, 3, 0, .null), some (.iconst 3, 269, 0, 0, .int (3)), some (.iadd, 270, 0, 0, .null), some (.iaload, 271, 0, 0, .null), some (.invokevirtual 17, 274, 140, 4, .retAddr 7)]
def cl_17 : List (Option aE) := [none, none, some (.if_icmp .eq 1374, 277, 1648, 0, .null), none, none, some (.iconst 0, 278, 0, 0, .int (0)), some (.ireturn, 279, 0, 0, .null), some (.aload_n 1, 280, 1, 0, .null), some (.aload_n 0, 281, 0, 0, .null), some (.iload_n 3, 282, 3, 0, .null), some (.iconst 1, 283, 0, 0, .int (1)), some (.iadd, 284, 0, 0, .null), some (.iaload, 285, 0, 0, .null), some (.aload_n 0, 286, 0, 0, .null), some (.iload_n 3, 287, 3, 0, .null), some (.iconst 2, 288, 0, 0, .int (2))]
def cl_18 : List (Option aE) := [some (.iadd, 289, 0, 0, .null), some (.iaload, 290, 0, 0, .null), some (.invokevirtual 18, 293, 55, 3, .retAddr 6), none, none, some (.aload_n 2, 294, 2, 0, .null), some (.aload_n 0, 295, 0, 0, .null), some (.iload_n 3, 296, 3, 0, .null), some (.iconst 1, 297, 0, 0, .int (1)), some (.iadd, 298, 0, 0, .null), some (.iaload, 299, 0, 0, .null), some (.aload_n 0, 300, 0, 0, .null), some (.iload_n 3, 301, 3, 0, .null), some (.iconst 2, 302, 0, 0, .int (2)), some (.iadd, 303, 0, 0, .null), some (.iaload, 304, 0, 0, .null)]
def cl_19 : List (Option aE) := [some (.invokevirtual 22, 307, 141, 3, .retAddr 7), none, none, some (.if_icmp .eq 1341, 310, 1648, 0, .null), none, none, some (.iconst 0, 311, 0, 0, .int (0)), some (.ireturn, 312, 0, 0, .null), some (.aload_n 1, 313, 1, 0, .null), some (.aload_n 0, 314, 0, 0, .null), some (.iload_n 3, 315, 3, 0, .null), some (.iconst 1, 316, 0, 0, .int (1)), some (.iadd, 317, 0, 0, .null), some (.iaload, 318, 0, 0, .null), some (.aload_n 0, 319, 0, 0, .null), some (.iload_n 3, 320, 3, 0, .null)]
def cl_20 : List (Option aE) := [some (.iconst 2, 321, 0, 0, .int (2)), some (.iadd, 322, 0, 0, .null), some (.iaload, 323, 0, 0, .null), some (.aload_n 0, 324, 0, 0, .null), some (.iload_n 3, 325, 3, 0, .null), some (.iconst 3, 326, 0, 0, .int (3)), some (.iadd, 327, 0, 0, .null), some (.iaload, 328, 0, 0, .null), some (.invokevirtual 23, 331, 56, 4, .retAddr 6), none, none, some (.aload_n 2, 332, 2, 0, .null), some (.aload_n 0, 333, 0, 0, .null), some (.iload_n 3, 334, 3, 0, .null), some (.iconst 1, 335, 0, 0, .int (1)), some (.iadd, 336, 0, 0, .null)]
def cl_21 : List (Option aE) := [some (.iaload, 337, 0, 0, .null), some (.aload_n 0, 338, 0, 0, .null), some (.iload_n 3, 339, 3, 0, .null), some (.iconst 2, 340, 0, 0, .int (2)), some (.iadd, 341, 0, 0, .null), some (.iaload, 342, 0, 0, .null), some (.aload_n 0, 343, 0, 0, .null), some (.iload_n 3, 344, 3, 0, .null), some (.iconst 3, 345, 0, 0, .int (3)), some (.iadd, 346, 0, 0, .null), some (.iaload, 347, 0, 0, .null), some (.invokevirtual 26, 350, 151, 4, .retAddr 7), none, none, some (.if_icmp .eq 1298, 353, 1648, 0, .null), none]
def cl_22 : List (Option aE) := [none, some (.iconst 0, 354, 0, 0, .int (0)), some (.ireturn, 355, 0, 0, .null), some (.aload_n 1, 356, 1, 0, .null), some (.aload_n 0, 357, 0, 0, .null), some (.iload_n 3, 358, 3, 0, .null), some (.iconst 1, 359, 0, 0, .int (1)), some (.iadd, 360, 0, 0, .null), some (.iaload, 361, 0, 0, .null), some (.aload_n 0, 362, 0, 0, .null), some (.iload_n 3, 363, 3, 0, .null), some (.iconst 2, 364, 0, 0, .int (2)), some (.iadd, 365, 0, 0, .null), some (.iaload, 366, 0, 0, .null), some (.aload_n 0, 367, 0, 0, .null), some (.iload_n 3, 368, 3, 0, .null)]
def cl_23 : List (Option aE) := [some (.iconst 3, 369, 0, 0, .int (3)), some (.iadd, 370, 0, 0, .null), some (.iaload, 371, 0, 0, .null), some (.aload_n 0, 372, 0, 0, .null), some (.iload_n 3, 373, 3, 0, .null), some (.iconst 4, 374, 0, 0, .int (4)), some (.iadd, 375, 0, 0, .null), some (.iaload, 376, 0, 0, .null), some (.invokevirtual 27, 379, 57, 5, .retAddr 6), none, none, some (.aload_n 2, 380, 2, 0, .null), some (.aload_n 0, 381, 0, 0, .null), some (.iload_n 3, 382, 3, 0, .null), some (.iconst 1, 383, 0, 0, .int (1)), some (.iadd, 384, 0, 0, .null)]
def cl_24 : List (Option aE) := [some (.iaload, 385, 0, 0, .null), some (.aload_n 0, 386, 0, 0, .null), some (.iload_n 3, 387, 3, 0, .null), some (.iconst 2, 388, 0, 0, .int (2)), some (.iadd, 389, 0, 0, .null), some (.iaload, 390, 0, 0, .null), some (.aload_n 0, 391, 0, 0, .null), some (.iload_n 3, 392, 3, 0, .null), some (.iconst 3, 393, 0, 0, .int (3)), some (.iadd, 394, 0, 0, .null), some (.iaload, 395, 0, 0, .null), some (.aload_n 0, 396, 0, 0, .null), some (.iload_n 3, 397, 3, 0, .null), some (.iconst 4, 398, 0, 0, .int (4)), some (.iadd, 399, 0, 0, .null), some (.iaload, 400, 0, 0, .null)]
def cl_25 : List (Option aE) := [some (.invokevirtual 31, 403, 152, 5, .retAddr 7), none, none, some (.if_icmp .eq 1245, 406, 1648, 0, .null), none, none, some (.iconst 0, 407, 0, 0, .int (0)), some (.ireturn, 408, 0, 0, .null), some (.aload_n 1, 409, 1, 0, .null), some (.aload_n 0, 410, 0, 0, .null), some (.iload_n 3, 411, 3, 0, .null), some (.iconst 1, 412, 0, 0, .int (1)), some (.iadd, 413, 0, 0, .null), some (.iaload, 414, 0, 0, .null), some (.aload_n 0, 415, 0, 0, .null), some (.iload_n 3, 416, 3, 0, .null)]
def cl_26 : List (Option aE) := [some (.iconst 2, 417, 0, 0, .int (2)), some (.iadd, 418, 0, 0, .null), some (.iaload, 419, 0, 0, .null), some (.aload_n 0, 420, 0, 0, .null), some (.iload_n 3, 421, 3, 0, .null), some (.iconst 3, 422, 0, 0, .int (3)), some (.iadd, 423, 0, 0, .null), some (.iaload, 424, 0, 0, .null), some (.invokevirtual 32, 427, 58, 4, .retAddr 6), none, none, some (.aload_n 2, 428, 2, 0, .null), some (.aload_n 0, 429, 0, 0, .null), some (.iload_n 3, 430, 3, 0, .null), some (.iconst 1, 431, 0, 0, .int (1)), some (.iadd, 432, 0, 0, .null)]
def cl_27 : List (Option aE) := [some (.iaload, 433, 0, 0, .null), some (.aload_n 0, 434, 0, 0, .null), some (.iload_n 3, 435, 3, 0, .null), some (.iconst 2, 436, 0, 0, .int (2)), some (.iadd, 437, 0, 0, .null), some (.iaload, 438, 0, 0, .null), some (.aload_n 0, 439, 0, 0, .null), some (.iload_n 3, 440, 3, 0, .null), some (.iconst 3, 441, 0, 0, .int (3)), some (.iadd, 442, 0, 0, .null), some (.iaload, 443, 0, 0, .null), some (.invokevirtual 35, 446, 153, 4, .retAddr 7), none, none, some (.if_icmp .eq 1202, 449, 1648, 0, .null), none]
def cl_28 : List (Option aE) := [none, some (.iconst 0, 450, 0, 0, .int (0)), some (.ireturn, 451, 0, 0, .null), some (.aload_n 1, 452, 1, 0, .null), some (.aload_n 0, 453, 0, 0, .null), some (.iload_n 3, 454, 3, 0, .null), some (.iconst 1, 455, 0, 0, .int (1)), some (.iadd, 456, 0, 0, .null), some (.iaload, 457, 0, 0, .null), some (.aload_n 0, 458, 0, 0, .null), some (.iload_n 3, 459, 3, 0, .null), some (.iconst 2, 460, 0, 0, .int (2)), some (.iadd, 461, 0, 0, .null), some (.iaload, 462, 0, 0, .null), some (.aload_n 0, 463, 0, 0, .null), some (.iload_n 3, 464, 3, 0, .null)]
def cl_29 : List (Option aE) := [some (.iconst 3, 465, 0, 0, .int (3)), some (.iadd, 466, 0, 0, .null), some (.iaload, 467, 0, 0, .null), some (.invokevirtual 36, 470, 59, 4, .retAddr 6), none, none, some (.aload_n 2, 471, 2, 0, .null), some (.aload_n 0, 472, 0, 0, .null), some (.iload_n 3, 473, 3, 0, .null), some (.iconst 1, 474, 0, 0, .int (1)), some (.iadd, 475, 0, 0, .null), some (.iaload, 476, 0, 0, .null), some (.aload_n 0, 477, 0, 0, .null), some (.iload_n 3, 478, 3, 0, .null), some (.iconst 2, 479, 0, 0, .int (2)), some (.iadd, 480, 0, 0, .null)]
def cl_30 : List (Option aE) := [some (.iaload, 481, 0, 0, .null), some (.aload_n 0, 482, 0, 0, .null), some (.iload_n 3, 483, 3, 0, .null), some (.iconst 3, 484, 0, 0, .int (3)), some (.iadd, 485, 0, 0, .null), some (.iaload, 486, 0, 0, .null), some (.invokevirtual 39, 489, 155, 4, .retAddr 7), none, none, some (.if_icmp .eq 1159, 492, 1648, 0, .null), none, none, some (.iconst 0, 493, 0, 0, .int (0)), some (.ireturn, 494, 0, 0, .null), some (.aload_n 1, 495, 1, 0, .null), some (.aload_n 0, 496, 0, 0, .null)]
def cl_31 : List (Option aE) := [some (.iload_n 3, 497, 3, 0, .null), some (.iconst 1, 498, 0, 0, .int (1)), some (.iadd, 499, 0, 0, .null), some (.iaload, 500, 0, 0, .null), some (.aload_n 0, 501, 0, 0, .null), some (.iload_n 3, 502, 3, 0, .null), some (.iconst 2, 503, 0, 0, .int (2)), some (.iadd, 504, 0, 0, .null), some (.iaload, 505, 0, 0, .null), some (.aload_n 0, 506, 0, 0, .null), some (.iload_n 3, 507, 3, 0, .null), some (.iconst 3, 508, 0, 0, .int (3)), some (.iadd, 509, 0, 0, .null), some (.iaload, 510, 0, 0, .null), some (.invokevirtual 40, 513, 60, 4, .retAddr 6), none]
def cl_32 : List (Option aE) := [none, some (.aload_n 2, 514, 2, 0, .null), some (.aload_n 0, 515, 0, 0, .null), some (.iload_n 3, 516, 3, 0, .null), some (.iconst 1, 517, 0, 0, .int (1)), some (.iadd, 518, 0, 0, .null), some (.iaload, 519, 0, 0, .null), some (.aload_n 0, 520, 0, 0, .null), some (.iload_n 3, 521, 3, 0, .null), some (.iconst 2, 522, 0, 0, .int (2)), some (.iadd, 523, 0, 0, .null), some (.iaload, 524, 0, 0, .null), some (.aload_n 0, 525, 0, 0, .null), some (.iload_n 3, 526, 3, 0, .null), some (.iconst 3, 527, 0, 0, .int (3)), some (.iadd, 528, 0, 0, .null)]
def cl_33 : List (Option aE) := [some (.iaload, 529, 0, 0, .null), some (.invokevirtual 43, 532, 156, 4, .retAddr 7), none, none, some (.if_icmp .eq 1116, 535, 1648, 0, .null), none, none, some (.iconst 0, 536, 0, 0, .int (0)), some (.ireturn, 537, 0, 0, .null), some (.aload_n 1, 538, 1, 0, .null), some (.aload_n 0, 539, 0, 0, .null), some (.iload_n 3, 540, 3, 0, .null), some (.iconst 1, 541, 0, 0, .int (1)), some (.iadd, 542, 0, 0, .null), some (.iaload, 543, 0, 0, .null), some (.invokevirtual 44, 546, 61, 2, .retAddr 6)]
def cl_34 : List (Option aE) := [none, none, some (.aload_n 2, 547, 2, 0, .null), some (.aload_n 0, 548, 0, 0, .null), some (.iload_n 3, 549, 3, 0, .null), some (.iconst 1, 550, 0, 0, .int (1)), some (.iadd, 551, 0, 0, .null), some (.iaload, 552, 0, 0, .null), some (.invokevirtual 48, 555, 157, 2, .retAddr 7), none, none, some (.if_icmp .eq 1093, 558, 1648, 0, .null), none, none, some (.iconst 0, 559, 0, 0, .int (0)), some (.ireturn, 560, 0, 0, .null)]
def cl_35 : List (Option aE) := [some (.aload_n 1, 561, 1, 0, .null), some (.aload_n 0, 562, 0, 0, .null), some (.iload_n 3, 563, 3, 0, .null), some (.iconst 1, 564, 0, 0, .int (1)), some (.iadd, 565, 0, 0, .null), some (.iaload, 566, 0, 0, .null), some (.aload_n 0, 567, 0, 0, .null), some (.iload_n 3, 568, 3, 0, .null), some (.iconst 2, 569, 0, 0, .int (2)), some (.iadd, 570, 0, 0, .null), some (.iaload, 571, 0, 0, .null), some (.invokevirtual 49, 574, 62, 3, .retAddr 6), none, none, some (.aload_n 2, 575, 2, 0, .null), some (.aload_n 0, 576, 0, 0, .null)]
def cl_36 : List (Option aE) := [some (.iload_n 3, 577, 3, 0, .null), some (.iconst 1, 578, 0, 0, .int (1)), some (.iadd, 579, 0, 0, .null), some (.iaload, 580, 0, 0, .null), some (.aload_n 0, 581, 0, 0, .null), some (.iload_n 3, 582, 3, 0, .null), some (.iconst 2, 583, 0, 0, .int (2)), some (.iadd, 584, 0, 0, .null), some (.iaload, 585, 0, 0, .null), some (.invokevirtual 52, 588, 159, 3, .retAddr 7), none, none, some (.if_icmp .eq 1060, 591, 1648, 0, .null), none, none, some (.iconst 0, 592, 0, 0, .int (0))]
def cl_37 : List (Option aE) := [some (.ireturn, 593, 0, 0, .null), some (.aload_n 1, 594, 1, 0, .null), some (.aload_n 0, 595, 0, 0, .null), some (.iload_n 3, 596, 3, 0, .null), some (.iconst 1, 597, 0, 0, .int (1)), some (.iadd, 598, 0, 0, .null), some (.iaload, 599, 0, 0, .null), some (.invokevirtual 53, 602, 63, 2, .retAddr 6), none, none, some (.aload_n 2, 603, 2, 0, .null), some (.aload_n 0, 604, 0, 0, .null), some (.iload_n 3, 605, 3, 0, .null), some (.iconst 1, 606, 0, 0, .int (1)), some (.iadd, 607, 0, 0, .null), some (.iaload, 608, 0, 0, .null)]
def cl_38 : List (Option aE) := [some (.invokevirtual 56, 611, 160, 2, .retAddr 7), none, none, some (.if_icmp .eq 1037, 614, 1648, 0, .null), none, none, some (.iconst 0, 615, 0, 0, .int (0)), some (.ireturn, 616, 0, 0, .null), some (.aload_n 1, 617, 1, 0, .null), some (.aload_n 0, 618, 0, 0, .null), some (.iload_n 3, 619, 3, 0, .null), some (.iconst 1, 620, 0, 0, .int (1)), some (.iadd, 621, 0, 0, .null), some (.iaload, 622, 0, 0, .null), some (.invokevirtual 57, 625, 64, 2, .retAddr 6), none]
def cl_39 : List (Option aE) := [none, some (.aload_n 2, 626, 2, 0, .null), some (.aload_n 0, 627, 0, 0, .null), some (.iload_n 3, 628, 3, 0, .null), some (.iconst 1, 629, 0, 0, .int (1)), some (.iadd, 630, 0, 0, .null), some (.iaload, 631, 0, 0, .null), some (.invokevirtual 60, 634, 162, 2, .retAddr 7), none, none, some (.if_icmp .eq 1014, 637, 1648, 0, .null), none, none, some (.iconst 0, 638, 0, 0, .int (0)), some (.ireturn, 639, 0, 0, .null), some (.aload_n 1, 640, 1, 0, .null)]
def cl_40 : List (Option aE) := [some (.aload_n 0, 641, 0, 0, .null), some (.iload_n 3, 642, 3, 0, .null), some (.iconst 1, 643, 0, 0, .int (1)), some (.iadd, 644, 0, 0, .null), some (.iaload, 645, 0, 0, .null), some (.aload_n 0, 646, 0, 0, .null), some (.iload_n 3, 647, 3, 0, .null), some (.iconst 2, 648, 0, 0, .int (2)), some (.iadd, 649, 0, 0, .null), some (.iaload, 650, 0, 0, .null), some (.invokevirtual 61, 653, 65, 3, .retAddr 6), none, none, some (.aload_n 2, 654, 2, 0, .null), some (.aload_n 0, 655, 0, 0, .null), some (.iload_n 3, 656, 3, 0, .null)]
def cl_41 : List (Option aE) := [some (.iconst 1, 657, 0, 0, .int (1)), some (.iadd, 658, 0, 0, .null), some (.iaload, 659, 0, 0, .null), some (.aload_n 0, 660, 0, 0, .null), some (.iload_n 3, 661, 3, 0, .null), some (.iconst 2, 662, 0, 0, .int (2)), some (.iadd, 663, 0, 0, .null), some (.iaload, 664, 0, 0, .null), some (.invokevirtual 64, 667, 163, 3, .retAddr 7), none, none, some (.if_icmp .eq 981, 670, 1648, 0, .null), none, none, some (.iconst 0, 671, 0, 0, .int (0)), some (.ireturn, 672, 0, 0, .null)]
def cl_42 : List (Option aE) := [some (.aload_n 1, 673, 1, 0, .null), some (.aload_n 0, 674, 0, 0, .null), some (.iload_n 3, 675, 3, 0, .null), some (.iconst 1, 676, 0, 0, .int (1)), some (.iadd, 677, 0, 0, .null), some (.iaload, 678, 0, 0, .null), some (.invokevirtual 65, 681, 66, 2, .retAddr 6), none, none, some (.aload_n 2, 682, 2, 0, .null), some (.aload_n 0, 683, 0, 0, .null), some (.iload_n 3, 684, 3, 0, .null), some (.iconst 1, 685, 0, 0, .int (1)), some (.iadd, 686, 0, 0, .null), some (.iaload, 687, 0, 0, .null), some (.invokevirtual 68, 690, 164, 2, .retAddr 7)]
def cl_43 : List (Option aE) := [none, none, some (.if_icmp .eq 958, 693, 1648, 0, .null), none, none, some (.iconst 0, 694, 0, 0, .int (0)), some (.ireturn, 695, 0, 0, .null), some (.aload_n 1, 696, 1, 0, .null), some (.aload_n 0, 697, 0, 0, .null), some (.iload_n 3, 698, 3, 0, .null), some (.iconst 1, 699, 0, 0, .int (1)), some (.iadd, 700, 0, 0, .null), some (.iaload, 701, 0, 0, .null), some (.invokevirtual 69, 704, 67, 2, .retAddr 6), none, none]
def cl_44 : List (Option aE) := [some (.aload_n 2, 705, 2, 0, .null), some (.aload_n 0, 706, 0, 0, .null), some (.iload_n 3, 707, 3, 0, .null), some (.iconst 1, 708, 0, 0, .int (1)), some (.iadd, 709, 0, 0, .null), some (.iaload, 710, 0, 0, .null), some (.invokevirtual 72, 713, 165, 2, .retAddr 7), none, none, some (.if_icmp .eq 935, 716, 1648, 0, .null), none, none, some (.iconst 0, 717, 0, 0, .int (0)), some (.ireturn, 718, 0, 0, .null), some (.aload_n 1, 719, 1, 0, .null), some (.aload_n 0, 720, 0, 0, .null)]
def cl_45 : List (Option aE) := [some (.iload_n 3, 721, 3, 0, .null), some (.iconst 1, 722, 0, 0, .int (1)), some (.iadd, 723, 0, 0, .null), some (.iaload, 724, 0, 0, .null), some (.invokevirtual 73, 727, 68, 2, .retAddr 6), none, none, some (.aload_n 2, 728, 2, 0, .null), some (.aload_n 0, 729, 0, 0, .null), some (.iload_n 3, 730, 3, 0, .null), some (.iconst 1, 731, 0, 0, .int (1)), some (.iadd, 732, 0, 0, .null), some (.iaload, 733, 0, 0, .null), some (.invokevirtual 76, 736, 167, 2, .retAddr 7), none, none]
def cl_46 : List (Option aE) := [some (.if_icmp .eq 912, 739, 1648, 0, .null), none, none, some (.iconst 0, 740, 0, 0, .int (0)), some (.ireturn, 741, 0, 0, .null), some (.aload_n 1, 742, 1, 0, .null), some (.invokevirtual 77, 745, 69, 1, .retAddr 6), none, none, some (.aload_n 2, 746, 2, 0, .null), some (.invokevirtual 81, 749, 168, 1, .retAddr 7), none, none, some (.if_icmp .eq 899, 752, 1648, 0, .null), none, none]
def cl_47 : List (Option aE) := [some (.iconst 0, 753, 0, 0, .int (0)), some (.ireturn, 754, 0, 0, .null), some (.aload_n 1, 755, 1, 0, .null), some (.aload_n 0, 756, 0, 0, .null), some (.iload_n 3, 757, 3, 0, .null), some (.iconst 1, 758, 0, 0, .int (1)), some (.iadd, 759, 0, 0, .null), some (.iaload, 760, 0, 0, .null), some (.invokevirtual 82, 763, 70, 2, .retAddr 6), none, none, some (.aload_n 2, 764, 2, 0, .null), some (.aload_n 0, 765, 0, 0, .null), some (.iload_n 3, 766, 3, 0, .null), some (.iconst 1, 767, 0, 0, .int (1)), some (.iadd, 768, 0, 0, .null)]
def cl_48 : List (Option aE) := [some (.iaload, 769, 0, 0, .null), some (.invokevirtual 85, 772, 169, 2, .retAddr 7), none, none, some (.if_icmp .eq 876, 775, 1648, 0, .null), none, none, some (.iconst 0, 776, 0, 0, .int (0)), some (.ireturn, 777, 0, 0, .null), some (.aload_n 1, 778, 1, 0, .null), some (.aload_n 0, 779, 0, 0, .null), some (.iload_n 3, 780, 3, 0, .null), some (.iconst 1, 781, 0, 0, .int (1)), some (.iadd, 782, 0, 0, .null), some (.iaload, 783, 0, 0, .null), some (.aload_n 0, 784, 0, 0, .null)]
def cl_49 : List (Option aE) := [some (.iload_n 3, 785, 3, 0, .null), some (.iconst 2, 786, 0, 0, .int (2)), some (.iadd, 787, 0, 0, .null), some (.iaload, 788, 0, 0, .null), some (.invokevirtual 86, 791, 71, 3, .retAddr 6), none, none, some (.aload_n 2, 792, 2, 0, .null), some (.aload_n 0, 793, 0, 0, .null), some (.iload_n 3, 794, 3, 0, .null), some (.iconst 1, 795, 0, 0, .int (1)), some (.iadd, 796, 0, 0, .null), some (.iaload, 797, 0, 0, .null), some (.aload_n 0, 798, 0, 0, .null), some (.iload_n 3, 799, 3, 0, .null), some (.iconst 2, 800, 0, 0, .int (2))]
def cl_50 : List (Option aE) := [some (.iadd, 801, 0, 0, .null), some (.iaload, 802, 0, 0, .null), some (.invokevirtual 89, 805, 170, 3, .retAddr 7), none, none, some (.if_icmp .eq 843, 808, 1648, 0, .null), none, none, some (.iconst 0, 809, 0, 0, .int (0)), some (.ireturn, 810, 0, 0, .null), some (.aload_n 1, 811, 1, 0, .null), some (.aload_n 0, 812, 0, 0, .null), some (.iload_n 3, 813, 3, 0, .null), some (.iconst 1, 814, 0, 0, .int (1)), some (.iadd, 815, 0, 0, .null), some (.iaload, 816, 0, 0, .null)]
def cl_51 : List (Option aE) := [some (.invokevirtual 90, 819, 72, 2, .retAddr 6), none, none, some (.aload_n 2, 820, 2, 0, .null), some (.aload_n 0, 821, 0, 0, .null), some (.iload_n 3, 822, 3, 0, .null), some (.iconst 1, 823, 0, 0, .int (1)), some (.iadd, 824, 0, 0, .null), some (.iaload, 825, 0, 0, .null), some (.invokevirtual 93, 828, 171, 2, .retAddr 7), none, none, some (.if_icmp .eq 820, 831, 1648, 0, .null), none, none, some (.iconst 0, 832, 0, 0, .int (0))]
def cl_52 : List (Option aE) := [some (.ireturn, 833, 0, 0, .null), some (.aload_n 1, 834, 1, 0, .null), some (.aload_n 0, 835, 0, 0, .null), some (.iload_n 3, 836, 3, 0, .null), some (.iconst 1, 837, 0, 0, .int (1)), some (.iadd, 838, 0, 0, .null), some (.iaload, 839, 0, 0, .null), some (.invokevirtual 94, 842, 73, 2, .retAddr 6), none, none, some (.aload_n 2, 843, 2, 0, .null), some (.aload_n 0, 844, 0, 0, .null), some (.iload_n 3, 845, 3, 0, .null), some (.iconst 1, 846, 0, 0, .int (1)), some (.iadd, 847, 0, 0, .null), some (.iaload, 848, 0, 0, .null)]
def cl_53 : List (Option aE) := [some (.invokevirtual 97, 851, 173, 2, .retAddr 7), none, none, some (.if_icmp .eq 797, 854, 1648, 0, .null), none, none, some (.iconst 0, 855, 0, 0, .int (0)), some (.ireturn, 856, 0, 0, .null), some (.aload_n 1, 857, 1, 0, .null), some (.aload_n 0, 858, 0, 0, .null), some (.iload_n 3, 859, 3, 0, .null), some (.iconst 1, 860, 0, 0, .int (1)), some (.iadd, 861, 0, 0, .null), some (.iaload, 862, 0, 0, .null), some (.invokevirtual 98, 865, 74, 2, .retAddr 6), none]
def cl_54 : List (Option aE) := [none, some (.aload_n 2, 866, 2, 0, .null), some (.aload_n 0, 867, 0, 0, .null), some (.iload_n 3, 868, 3, 0, .null), some (.iconst 1, 869, 0, 0, .int (1)), some (.iadd, 870, 0, 0, .null), some (.iaload, 871, 0, 0, .null), some (.invokevirtual 101, 874, 175, 2, .retAddr 7), none, none, some (.if_icmp .eq 774, 877, 1648, 0, .null), none, none, some (.iconst 0, 878, 0, 0, .int (0)), some (.ireturn, 879, 0, 0, .null), some (.aload_n 1, 880, 1, 0, .null)]
def cl_55 : List (Option aE) := [some (.aload_n 0, 881, 0, 0, .null), some (.iload_n 3, 882, 3, 0, .null), some (.iconst 1, 883, 0, 0, .int (1)), some (.iadd, 884, 0, 0, .null), some (.iaload, 885, 0, 0, .null), some (.aload_n 0, 886, 0, 0, .null), some (.iload_n 3, 887, 3, 0, .null), some (.iconst 2, 888, 0, 0, .int (2)), some (.iadd, 889, 0, 0, .null), some (.iaload, 890, 0, 0, .null), some (.invokevirtual 102, 893, 75, 3, .retAddr 6), none, none, some (.aload_n 2, 894, 2, 0, .null), some (.aload_n 0, 895, 0, 0, .null), some (.iload_n 3, 896, 3, 0, .null)]
def cl_56 : List (Option aE) := [some (.iconst 1, 897, 0, 0, .int (1)), some (.iadd, 898, 0, 0, .null), some (.iaload, 899, 0, 0, .null), some (.aload_n 0, 900, 0, 0, .null), some (.iload_n 3, 901, 3, 0, .null), some (.iconst 2, 902, 0, 0, .int (2)), some (.iadd, 903, 0, 0, .null), some (.iaload, 904, 0, 0, .null), some (.invokevirtual 105, 907, 178, 3, .retAddr 7), none, none, some (.if_icmp .eq 741, 910, 1648, 0, .null), none, none, some (.iconst 0, 911, 0, 0, .int (0)), some (.ireturn, 912, 0, 0, .null)]
def cl_57 : List (Option aE) := [some (.aload_n 1, 913, 1, 0, .null), some (.aload_n 0, 914, 0, 0, .null), some (.iload_n 3, 915, 3, 0, .null), some (.iconst 1, 916, 0, 0, .int (1)), some (.iadd, 917, 0, 0, .null), some (.iaload, 918, 0, 0, .null), some (.aload_n 0, 919, 0, 0, .null), some (.iload_n 3, 920, 3, 0, .null), some (.iconst 2, 921, 0, 0, .int (2)), some (.iadd, 922, 0, 0, .null), some (.iaload, 923, 0, 0, .null), some (.invokevirtual 106, 926, 76, 3, .retAddr 6), none, none, some (.aload_n 2, 927, 2, 0, .null), some (.aload_n 0, 928, 0, 0, .null)]
def cl_58 : List (Option aE) := [some (.iload_n 3, 929, 3, 0, .null), some (.iconst 1, 930, 0, 0, .int (1)), some (.iadd, 931, 0, 0, .null), some (.iaload, 932, 0, 0, .null), some (.aload_n 0, 933, 0, 0, .null), some (.iload_n 3, 934, 3, 0, .null), some (.iconst 2, 935, 0, 0, .int (2)), some (.iadd, 936, 0, 0, .null), some (.iaload, 937, 0, 0, .null), some (.invokevirtual 109, 940, 179, 3, .retAddr 7), none, none, some (.if_icmp .eq 708, 943, 1648, 0, .null), none, none, some (.iconst 0, 944, 0, 0, .int (0))]
def cl_59 : List (Option aE) := [some (.ireturn, 945, 0, 0, .null), some (.aload_n 1, 946, 1, 0, .null), some (.aload_n 0, 947, 0, 0, .null), some (.iload_n 3, 948, 3, 0, .null), some (.iconst 1, 949, 0, 0, .int (1)), some (.iadd, 950, 0, 0, .null), some (.iaload, 951, 0, 0, .null), some (.aload_n 0, 952, 0, 0, .null), some (.iload_n 3, 953, 3, 0, .null), some (.iconst 2, 954, 0, 0, .int (2)), some (.iadd, 955, 0, 0, .null), some (.iaload, 956, 0, 0, .null), some (.invokevirtual 110, 959, 77, 3, .retAddr 6), none, none, some (.aload_n 2, 960, 2, 0, .null)]
def cl_60 : List (Option aE) := [some (.aload_n 0, 961, 0, 0, .null), some (.iload_n 3, 962, 3, 0, .null), some (.iconst 1, 963, 0, 0, .int (1)), some (.iadd, 964, 0, 0, .null), some (.iaload, 965, 0, 0, .null), some (.aload_n 0, 966, 0, 0, .null), some (.iload_n 3, 967, 3, 0, .null), some (.iconst 2, 968, 0, 0, .int (2)), some (.iadd, 969, 0, 0, .null), some (.iaload, 970, 0, 0, .null), some (.invokevirtual 113, 973, 180, 3, .retAddr 7), none, none, some (.if_icmp .eq 675, 976, 1648, 0, .null), none, none]
def cl_61 : List (Option aE) := [some (.iconst 0, 977, 0, 0, .int (0)), some (.ireturn, 978, 0, 0, .null), some (.aload_n 1, 979, 1, 0, .null), some (.aload_n 0, 980, 0, 0, .null), some (.iload_n 3, 981, 3, 0, .null), some (.iconst 1, 982, 0, 0, .int (1)), some (.iadd, 983, 0, 0, .null), some (.iaload, 984, 0, 0, .null), some (.aload_n 0, 985, 0, 0, .null), some (.iload_n 3, 986, 3, 0, .null), some (.iconst 2, 987, 0, 0, .int (2)), some (.iadd, 988, 0, 0, .null), some (.iaload, 989, 0, 0, .null), some (.invokevirtual 114, 992, 78, 3, .retAddr 6), none, none]
def cl_62 : List (Option aE) := [some (.aload_n 2, 993, 2, 0, .null), some (.aload_n 0, 994, 0, 0, .null), some (.iload_n 3, 995, 3, 0, .null), some (.iconst 1, 996, 0, 0, .int (1)), some (.iadd, 997, 0, 0, .null), some (.iaload, 998, 0, 0, .null), some (.aload_n 0, 999, 0, 0, .null), some (.iload_n 3, 1000, 3, 0, .null), some (.iconst 2, 1001, 0, 0, .int (2)), some (.iadd, 1002, 0, 0, .null), some (.iaload, 1003, 0, 0, .null), some (.invokevirtual 117, 1006, 185, 3, .retAddr 7), none, none, some (.if_icmp .eq 642, 1009, 1648, 0, .null), none]
def cl_63 : List (Option aE) := [none, some (.iconst 0, 1010, 0, 0, .int (0)), some (.ireturn, 1011, 0, 0, .null), some (.aload_n 1, 1012, 1, 0, .null), some (.aload_n 0, 1013, 0, 0, .null), some (.iload_n 3, 1014, 3, 0, .null), some (.iconst 1, 1015, 0, 0, .int (1)), some (.iadd, 1016, 0, 0, .null), some (.iaload, 1017, 0, 0, .null), some (.invokevirtual 118, 1020, 79, 2, .retAddr 6), none, none, some (.aload_n 2, 1021, 2, 0, .null), some (.aload_n 0, 1022, 0, 0, .null), some (.iload_n 3, 1023, 3, 0, .null), some (.iconst 1, 1024, 0, 0, .int (1))]
def cl_64 : List (Option aE) := [some (.iadd, 1025, 0, 0, .null), some (.iaload, 1026, 0, 0, .null), some (.invokevirtual 121, 1029, 187, 2, .retAddr 7), none, none, some (.if_icmp .eq 619, 1032, 1648, 0, .null), none, none, some (.iconst 0, 1033, 0, 0, .int (0)), some (.ireturn, 1034, 0, 0, .null), some (.aload_n 1, 1035, 1, 0, .null), some (.aload_n 0, 1036, 0, 0, .null), some (.iload_n 3, 1037, 3, 0, .null), some (.iconst 1, 1038, 0, 0, .int (1)), some (.iadd, 1039, 0, 0, .null), some (.iaload, 1040, 0, 0, .null)]
def cl_65 : List (Option aE) := [some (.invokevirtual 122, 1043, 80, 2, .retAddr 6), none, none, some (.aload_n 2, 1044, 2, 0, .null), some (.aload_n 0, 1045, 0, 0, .null), some (.iload_n 3, 1046, 3, 0, .null), some (.iconst 1, 1047, 0, 0, .int (1)), some (.iadd, 1048, 0, 0, .null), some (.iaload, 1049, 0, 0, .null), some (.invokevirtual 125, 1052, 188, 2, .retAddr 7), none, none, some (.if_icmp .eq 596, 1055, 1648, 0, .null), none, none, some (.iconst 0, 1056, 0, 0, .int (0))]
def cl_66 : List (Option aE) := [some (.ireturn, 1057, 0, 0, .null), some (.aload_n 1, 1058, 1, 0, .null), some (.aload_n 0, 1059, 0, 0, .null), some (.iload_n 3, 1060, 3, 0, .null), some (.iconst 1, 1061, 0, 0, .int (1)), some (.iadd, 1062, 0, 0, .null), some (.iaload, 1063, 0, 0, .null), some (.aload_n 0, 1064, 0, 0, .null), some (.iload_n 3, 1065, 3, 0, .null), some (.iconst 2, 1066, 0, 0, .int (2)), some (.iadd, 1067, 0, 0, .null), some (.iaload, 1068, 0, 0, .null), some (.invokevirtual 126, 1071, 81, 3, .retAddr 6), none, none, some (.aload_n 2, 1072, 2, 0, .null)]
def cl_67 : List (Option aE) := [some (.aload_n 0, 1073, 0, 0, .null), some (.iload_n 3, 1074, 3, 0, .null), some (.iconst 1, 1075, 0, 0, .int (1)), some (.iadd, 1076, 0, 0, .null), some (.iaload, 1077, 0, 0, .null), some (.aload_n 0, 1078, 0, 0, .null), some (.iload_n 3, 1079, 3, 0, .null), some (.iconst 2, 1080, 0, 0, .int (2)), some (.iadd, 1081, 0, 0, .null), some (.iaload, 1082, 0, 0, .null), some (.invokevirtual 129, 1085, 190, 3, .retAddr 7), none, none, some (.if_icmp .eq 563, 1088, 1648, 0, .null), none, none]
def cl_68 : List (Option aE) := [some (.iconst 0, 1089, 0, 0, .int (0)), some (.ireturn, 1090, 0, 0, .null), some (.aload_n 1, 1091, 1, 0, .null), some (.aload_n 0, 1092, 0, 0, .null), some (.iload_n 3, 1093, 3, 0, .null), some (.iconst 1, 1094, 0, 0, .int (1)), some (.iadd, 1095, 0, 0, .null), some (.iaload, 1096, 0, 0, .null), some (.invokevirtual 130, 1099, 82, 2, .retAddr 6), none, none, some (.aload_n 2, 1100, 2, 0, .null), some (.aload_n 0, 1101, 0, 0, .null), some (.iload_n 3, 1102, 3, 0, .null), some (.iconst 1, 1103, 0, 0, .int (1)), some (.iadd, 1104, 0, 0, .null)]
def cl_69 : List (Option aE) := [some (.iaload, 1105, 0, 0, .null), some (.invokevirtual 133, 1108, 191, 2, .retAddr 7), none, none, some (.if_icmp .eq 540, 1111, 1648, 0, .null), none, none, some (.iconst 0, 1112, 0, 0, .int (0)), some (.ireturn, 1113, 0, 0, .null), some (.aload_n 1, 1114, 1, 0, .null), some (.aload_n 0, 1115, 0, 0, .null), some (.iload_n 3, 1116, 3, 0, .null), some (.iconst 1, 1117, 0, 0, .int (1)), some (.iadd, 1118, 0, 0, .null), some (.iaload, 1119, 0, 0, .null), some (.invokevirtual 134, 1122, 83, 2, .retAddr 6)]
def cl_70 : List (Option aE) := [none, none, some (.aload_n 2, 1123, 2, 0, .null), some (.aload_n 0, 1124, 0, 0, .null), some (.iload_n 3, 1125, 3, 0, .null), some (.iconst 1, 1126, 0, 0, .int (1)), some (.iadd, 1127, 0, 0, .null), some (.iaload, 1128, 0, 0, .null), some (.invokevirtual 137, 1131, 192, 2, .retAddr 7), none, none, some (.if_icmp .eq 517, 1134, 1648, 0, .null), none, none, some (.iconst 0, 1135, 0, 0, .int (0)), some (.ireturn, 1136, 0, 0, .null)]
def cl_71 : List (Option aE) := [some (.aload_n 1, 1137, 1, 0, .null), some (.aload_n 0, 1138, 0, 0, .null), some (.iload_n 3, 1139, 3, 0, .null), some (.iconst 1, 1140, 0, 0, .int (1)), some (.iadd, 1141, 0, 0, .null), some (.iaload, 1142, 0, 0, .null), some (.aload_n 0, 1143, 0, 0, .null), some (.iload_n 3, 1144, 3, 0, .null), some (.iconst 2, 1145, 0, 0, .int (2)), some (.iadd, 1146, 0, 0, .null), some (.iaload, 1147, 0, 0, .null), some (.invokevirtual 138, 1150, 84, 3, .retAddr 6), none, none, some (.aload_n 2, 1151, 2, 0, .null), some (.aload_n 0, 1152, 0, 0, .null)]
def cl_72 : List (Option aE) := [some (.iload_n 3, 1153, 3, 0, .null), some (.iconst 1, 1154, 0, 0, .int (1)), some (.iadd, 1155, 0, 0, .null), some (.iaload, 1156, 0, 0, .null), some (.aload_n 0, 1157, 0, 0, .null), some (.iload_n 3, 1158, 3, 0, .null), some (.iconst 2, 1159, 0, 0, .int (2)), some (.iadd, 1160, 0, 0, .null), some (.iaload, 1161, 0, 0, .null), some (.invokevirtual 141, 1164, 193, 3, .retAddr 7), none, none, some (.if_icmp .eq 484, 1167, 1648, 0, .null), none, none, some (.iconst 0, 1168, 0, 0, .int (0))]
def cl_73 : List (Option aE) := [some (.ireturn, 1169, 0, 0, .null), some (.aload_n 1, 1170, 1, 0, .null), some (.aload_n 0, 1171, 0, 0, .null), some (.iload_n 3, 1172, 3, 0, .null), some (.iconst 1, 1173, 0, 0, .int (1)), some (.iadd, 1174, 0, 0, .null), some (.iaload, 1175, 0, 0, .null), some (.aload_n 0, 1176, 0, 0, .null), some (.iload_n 3, 1177, 3, 0, .null), some (.iconst 2, 1178, 0, 0, .int (2)), some (.iadd, 1179, 0, 0, .null), some (.iaload, 1180, 0, 0, .null), some (.invokevirtual 142, 1183, 85, 3, .retAddr 6), none, none, some (.aload_n 2, 1184, 2, 0, .null)]
def cl_74 : List (Option aE) := [some (.aload_n 0, 1185, 0, 0, .null), some (.iload_n 3, 1186, 3, 0, .null), some (.iconst 1, 1187, 0, 0, .int (1)), some (.iadd, 1188, 0, 0, .null), some (.iaload, 1189, 0, 0, .null), some (.aload_n 0, 1190, 0, 0, .null), some (.iload_n 3, 1191, 3, 0, .null), some (.iconst 2, 1192, 0, 0, .int (2)), some (.iadd, 1193, 0, 0, .null), some (.iaload, 1194, 0, 0, .null), some (.invokevirtual 145, 1197, 194, 3, .retAddr 7), none, none, some (.if_icmp .eq 451, 1200, 1648, 0, .null), none, none]
def cl_75 : List (Option aE) := [some (.iconst 0, 1201, 0, 0, .int (0)), some (.ireturn, 1202, 0, 0, .null), some (.aload_n 1, 1203, 1, 0, .null), some (.aload_n 0, 1204, 0, 0, .null), some (.iload_n 3, 1205, 3, 0, .null), some (.iconst 1, 1206, 0, 0, .int (1)), some (.iadd, 1207, 0, 0, .null), some (.iaload, 1208, 0, 0, .null), some (.invokevirtual 146, 1211, 86, 2, .retAddr 6), none, none, some (.aload_n 2, 1212, 2, 0, .null), some (.aload_n 0, 1213, 0, 0, .null), some (.iload_n 3, 1214, 3, 0, .null), some (.iconst 1, 1215, 0, 0, .int (1)), some (.iadd, 1216, 0, 0, .null)]
def cl_76 : List (Option aE) := [some (.iaload, 1217, 0, 0, .null), some (.invokevirtual 149, 1220, 195, 2, .retAddr 7), none, none, some (.if_icmp .eq 428, 1223, 1648, 0, .null), none, none, some (.iconst 0, 1224, 0, 0, .int (0)), some (.ireturn, 1225, 0, 0, .null), some (.aload_n 1, 1226, 1, 0, .null), some (.aload_n 0, 1227, 0, 0, .null), some (.iload_n 3, 1228, 3, 0, .null), some (.iconst 1, 1229, 0, 0, .int (1)), some (.iadd, 1230, 0, 0, .null), some (.iaload, 1231, 0, 0, .null), some (.aload_n 0, 1232, 0, 0, .null)]
def cl_77 : List (Option aE) := [some (.iload_n 3, 1233, 3, 0, .null), some (.iconst 2, 1234, 0, 0, .int (2)), some (.iadd, 1235, 0, 0, .null), some (.iaload, 1236, 0, 0, .null), some (.invokevirtual 150, 1239, 87, 3, .retAddr 6), none, none, some (.aload_n 2, 1240, 2, 0, .null), some (.aload_n 0, 1241, 0, 0, .null), some (.iload_n 3, 1242, 3, 0, .null), some (.iconst 1, 1243, 0, 0, .int (1)), some (.iadd, 1244, 0, 0, .null), some (.iaload, 1245, 0, 0, .null), some (.aload_n 0, 1246, 0, 0, .null), some (.iload_n 3, 1247, 3, 0, .null), some (.iconst 2, 1248, 0, 0, .int (2))]
def cl_78 : List (Option aE) := [some (.iadd, 1249, 0, 0, .null), some (.iaload, 1250, 0, 0, .null), some (.invokevirtual 153, 1253, 196, 3, .retAddr 7), none, none, some (.if_icmp .eq 395, 1256, 1648, 0, .null), none, none, some (.iconst 0, 1257, 0, 0, .int (0)), some (.ireturn, 1258, 0, 0, .null), some (.aload_n 1, 1259, 1, 0, .null), some (.invokevirtual 154, 1262, 88, 1, .retAddr 6), none, none, some (.aload_n 2, 1263, 2, 0, .null), some (.invokevirtual 157, 1266, 197, 1, .retAddr 7)]
def cl_79 : List (Option aE) := [none, none, some (.if_icmp .eq 382, 1269, 1648, 0, .null), none, none, some (.iconst 0, 1270, 0, 0, .int (0)), some (.ireturn, 1271, 0, 0, .null), some (.aload_n 1, 1272, 1, 0, .null), some (.invokevirtual 158, 1275, 89, 1, .retAddr 6), none, none, some (.aload_n 2, 1276, 2, 0, .null), some (.invokevirtual 161, 1279, 216, 1, .retAddr 7), none, none, some (.if_icmp .eq 369, 1282, 1648, 0, .null)]
def cl_80 : List (Option aE) := [none, none, some (.iconst 0, 1283, 0, 0, .int (0)), some (.ireturn, 1284, 0, 0, .null), some (.aload_n 1, 1285, 1, 0, .null), some (.aload_n 0, 1286, 0, 0, .null), some (.iload_n 3, 1287, 3, 0, .null), some (.iconst 1, 1288, 0, 0, .int (1)), some (.iadd, 1289, 0, 0, .null), some (.iaload, 1290, 0, 0, .null), some (.aload_n 0, 1291, 0, 0, .null), some (.iload_n 3, 1292, 3, 0, .null), some (.iconst 2, 1293, 0, 0, .int (2)), some (.iadd, 1294, 0, 0, .null), some (.iaload, 1295, 0, 0, .null), some (.aload_n 0, 1296, 0, 0, .null)]
def cl_81 : List (Option aE) := [some (.iload_n 3, 1297, 3, 0, .null), some (.iconst 3, 1298, 0, 0, .int (3)), some (.iadd, 1299, 0, 0, .null), some (.iaload, 1300, 0, 0, .null), some (.invokevirtual 162, 1303, 90, 4, .retAddr 6), none, none, some (.aload_n 2, 1304, 2, 0, .null), some (.aload_n 0, 1305, 0, 0, .null), some (.iload_n 3, 1306, 3, 0, .null), some (.iconst 1, 1307, 0, 0, .int (1)), some (.iadd, 1308, 0, 0, .null), some (.iaload, 1309, 0, 0, .null), some (.aload_n 0, 1310, 0, 0, .null), some (.iload_n 3, 1311, 3, 0, .null), some (.iconst 2, 1312, 0, 0, .int (2))]
def cl_82 : List (Option aE) := [some (.iadd, 1313, 0, 0, .null), some (.iaload, 1314, 0, 0, .null), some (.aload_n 0, 1315, 0, 0, .null), some (.iload_n 3, 1316, 3, 0, .null), some (.iconst 3, 1317, 0, 0, .int (3)), some (.iadd, 1318, 0, 0, .null), some (.iaload, 1319, 0, 0, .null), some (.invokevirtual 165, 1322, 219, 4, .retAddr 7), none, none, some (.if_icmp .eq 326, 1325, 1648, 0, .null), none, none, some (.iconst 0, 1326, 0, 0, .int (0)), some (.ireturn, 1327, 0, 0, .null), some (.aload_n 1, 1328, 1, 0, .null)]
def cl_83 : List (Option aE) := [some (.aload_n 0, 1329, 0, 0, .null), some (.iload_n 3, 1330, 3, 0, .null), some (.iconst 1, 1331, 0, 0, .int (1)), some (.iadd, 1332, 0, 0, .null), some (.iaload, 1333, 0, 0, .null), some (.aload_n 0, 1334, 0, 0, .null), some (.iload_n 3, 1335, 3, 0, .null), some (.iconst 2, 1336, 0, 0, .int (2)), some (.iadd, 1337, 0, 0, .null), some (.iaload, 1338, 0, 0, .null), some (.aload_n 0, 1339, 0, 0, .null), some (.iload_n 3, 1340, 3, 0, .null), some (.iconst 3, 1341, 0, 0, .int (3)), some (.iadd, 1342, 0, 0, .null), some (.iaload, 1343, 0, 0, .null), some (.i2l, 1344, 0, 0, .null)]
def cl_84 : List (Option aE) := [some (.bipush 32, 1346, 0, 0, .int (32)), none, some (.lshl, 1347, 0, 0, .null), some (.aload_n 0, 1348, 0, 0, .null), some (.iload_n 3, 1349, 3, 0, .null), some (.iconst 4, 1350, 0, 0, .int (4)), some (.iadd, 1351, 0, 0, .null), some (.iaload, 1352, 0, 0, .null), some (.i2l, 1353, 0, 0, .null), some (.ldc2_w 166, 1356, 0, 0, .long (4294967295)), none, none, some (.land, 1357, 0, 0, .null), some (.lor, 1358, 0, 0, .null), some (.invokevirtual 168, 1361, 91, 4, .retAddr 6), none]
def cl_85 : List (Option aE) := [none, some (.aload_n 2, 1362, 2, 0, .null), some (.aload_n 0, 1363, 0, 0, .null), some (.iload_n 3, 1364, 3, 0, .null), some (.iconst 1, 1365, 0, 0, .int (1)), some (.iadd, 1366, 0, 0, .null), some (.iaload, 1367, 0, 0, .null), some (.aload_n 0, 1368, 0, 0, .null), some (.iload_n 3, 1369, 3, 0, .null), some (.iconst 2, 1370, 0, 0, .int (2)), some (.iadd, 1371, 0, 0, .null), some (.iaload, 1372, 0, 0, .null), some (.aload_n 0, 1373, 0, 0, .null), some (.iload_n 3, 1374, 3, 0, .null), some (.iconst 3, 1375, 0, 0, .int (3)), some (.iadd, 1376, 0, 0, .null)]
def cl_86 : List (Option aE) := [some (.iaload, 1377, 0, 0, .null), some (.i2l, 1378, 0, 0, .null), some (.bipush 32, 1380, 0, 0, .int (32)), none, some (.lshl, 1381, 0, 0, .null), some (.aload_n 0, 1382, 0, 0, .null), some (.iload_n 3, 1383, 3, 0, .null), some (.iconst 4, 1384, 0, 0, .int (4)), some (.iadd, 1385, 0, 0, .null), some (.iaload, 1386, 0, 0, .null), some (.i2l, 1387, 0, 0, .null), some (.ldc2_w 166, 1390, 0, 0, .long (4294967295)), none, none, some (.land, 1391, 0, 0, .null), some (.lor, 1392, 0, 0, .null)]
def cl_87 : List (Option aE) := [some (.invokevirtual 172, 1395, 220, 4, .retAddr 7), none, none, some (.lcmp, 1396, 0, 0, .null), some (.ifCond .eq 252, 1399, 1648, 0, .null), none, none, some (.iconst 0, 1400, 0, 0, .int (0)), some (.ireturn, 1401, 0, 0, .null), some (.aload_n 1, 1402, 1, 0, .null), some (.aload_n 0, 1403, 0, 0, .null), some (.iload_n 3, 1404, 3, 0, .null), some (.iconst 1, 1405, 0, 0, .int (1)), some (.iadd, 1406, 0, 0, .null), some (.iaload, 1407, 0, 0, .null), some (.aload_n 0, 1408, 0, 0, .null)]
def cl_88 : List (Option aE) := [some (.iload_n 3, 1409, 3, 0, .null), some (.iconst 2, 1410, 0, 0, .int (2)), some (.iadd, 1411, 0, 0, .null), some (.iaload, 1412, 0, 0, .null), some (.aload_n 0, 1413, 0, 0, .null), some (.iload_n 3, 1414, 3, 0, .null), some (.iconst 3, 1415, 0, 0, .int (3)), some (.iadd, 1416, 0, 0, .null), some (.iaload, 1417, 0, 0, .null), some (.aload_n 0, 1418, 0, 0, .null), some (.iload_n 3, 1419, 3, 0, .null), some (.iconst 4, 1420, 0, 0, .int (4)), some (.iadd, 1421, 0, 0, .null), some (.iaload, 1422, 0, 0, .null), some (.aload_n 0, 1423, 0, 0, .null), some (.iload_n 3, 1424, 3, 0, .null)]
def cl_89 : List (Option aE) := [some (.iconst 5, 1425, 0, 0, .int (5)), some (.iadd, 1426, 0, 0, .null), some (.iaload, 1427, 0, 0, .null), some (.invokevirtual 173, 1430, 92, 6, .retAddr 6), none, none, some (.aload_n 2, 1431, 2, 0, .null), some (.aload_n 0, 1432, 0, 0, .null), some (.iload_n 3, 1433, 3, 0, .null), some (.iconst 1, 1434, 0, 0, .int (1)), some (.iadd, 1435, 0, 0, .null), some (.iaload, 1436, 0, 0, .null), some (.aload_n 0, 1437, 0, 0, .null), some (.iload_n 3, 1438, 3, 0, .null), some (.iconst 2, 1439, 0, 0, .int (2)), some (.iadd, 1440, 0, 0, .null)]
def cl_90 : List (Option aE) := [some (.iaload, 1441, 0, 0, .null), some (.aload_n 0, 1442, 0, 0, .null), some (.iload_n 3, 1443, 3, 0, .null), some (.iconst 3, 1444, 0, 0, .int (3)), some (.iadd, 1445, 0, 0, .null), some (.iaload, 1446, 0, 0, .null), some (.aload_n 0, 1447, 0, 0, .null), some (.iload_n 3, 1448, 3, 0, .null), some (.iconst 4, 1449, 0, 0, .int (4)), some (.iadd, 1450, 0, 0, .null), some (.iaload, 1451, 0, 0, .null), some (.aload_n 0, 1452, 0, 0, .null), some (.iload_n 3, 1453, 3, 0, .null), some (.iconst 5, 1454, 0, 0, .int (5)), some (.iadd, 1455, 0, 0, .null), some (.iaload, 1456, 0, 0, .null)]
def cl_91 : List (Option aE) := [some (.invokevirtual 177, 1459, 221, 6, .retAddr 7), none, none, some (.if_icmp .eq 189, 1462, 1648, 0, .null), none, none, some (.iconst 0, 1463, 0, 0, .int (0)), some (.ireturn, 1464, 0, 0, .null), some (.aload_n 1, 1465, 1, 0, .null), some (.aload_n 0, 1466, 0, 0, .null), some (.iload_n 3, 1467, 3, 0, .null), some (.iconst 1, 1468, 0, 0, .int (1)), some (.iadd, 1469, 0, 0, .null), some (.iaload, 1470, 0, 0, .null), some (.aload_n 0, 1471, 0, 0, .null), some (.iload_n 3, 1472, 3, 0, .null)]
def cl_92 : List (Option aE) := [some (.iconst 2, 1473, 0, 0, .int (2)), some (.iadd, 1474, 0, 0, .null), some (.iaload, 1475, 0, 0, .null), some (.invokevirtual 178, 1478, 93, 3, .retAddr 6), none, none, some (.aload_n 2, 1479, 2, 0, .null), some (.aload_n 0, 1480, 0, 0, .null), some (.iload_n 3, 1481, 3, 0, .null), some (.iconst 1, 1482, 0, 0, .int (1)), some (.iadd, 1483, 0, 0, .null), some (.iaload, 1484, 0, 0, .null), some (.aload_n 0, 1485, 0, 0, .null), some (.iload_n 3, 1486, 3, 0, .null), some (.iconst 2, 1487, 0, 0, .int (2)), some (.iadd, 1488, 0, 0, .null)]
def cl_93 : List (Option aE) := [some (.iaload, 1489, 0, 0, .null), some (.invokevirtual 181, 1492, 223, 3, .retAddr 7), none, none, some (.if_icmp .eq 156, 1495, 1648, 0, .null), none, none, some (.iconst 0, 1496, 0, 0, .int (0)), some (.ireturn, 1497, 0, 0, .null), some (.aload_n 1, 1498, 1, 0, .null), some (.aload_n 0, 1499, 0, 0, .null), some (.iload_n 3, 1500, 3, 0, .null), some (.iconst 1, 1501, 0, 0, .int (1)), some (.iadd, 1502, 0, 0, .null), some (.iaload, 1503, 0, 0, .null), some (.aload_n 0, 1504, 0, 0, .null)]
def cl_94 : List (Option aE) := [some (.iload_n 3, 1505, 3, 0, .null), some (.iconst 2, 1506, 0, 0, .int (2)), some (.iadd, 1507, 0, 0, .null), some (.iaload, 1508, 0, 0, .null), some (.invokevirtual 182, 1511, 94, 3, .retAddr 6), none, none, some (.aload_n 2, 1512, 2, 0, .null), some (.aload_n 0, 1513, 0, 0, .null), some (.iload_n 3, 1514, 3, 0, .null), some (.iconst 1, 1515, 0, 0, .int (1)), some (.iadd, 1516, 0, 0, .null), some (.iaload, 1517, 0, 0, .null), some (.aload_n 0, 1518, 0, 0, .null), some (.iload_n 3, 1519, 3, 0, .null), some (.iconst 2, 1520, 0, 0, .int (2))]
def cl_95 : List (Option aE) := [some (.iadd, 1521, 0, 0, .null), some (.iaload, 1522, 0, 0, .null), some (.invokevirtual 185, 1525, 224, 3, .retAddr 7), none, none, some (.if_icmp .eq 123, 1528, 1648, 0, .null), none, none, some (.iconst 0, 1529, 0, 0, .int (0)), some (.ireturn, 1530, 0, 0, .null), some (.aload_n 1, 1531, 1, 0, .null), some (.aload_n 0, 1532, 0, 0, .null), some (.iload_n 3, 1533, 3, 0, .null), some (.iconst 1, 1534, 0, 0, .int (1)), some (.iadd, 1535, 0, 0, .null), some (.iaload, 1536, 0, 0, .null)]
def cl_96 : List (Option aE) := [some (.aload_n 0, 1537, 0, 0, .null), some (.iload_n 3, 1538, 3, 0, .null), some (.iconst 2, 1539, 0, 0, .int (2)), some (.iadd, 1540, 0, 0, .null), some (.iaload, 1541, 0, 0, .null), some (.invokevirtual 186, 1544, 95, 3, .retAddr 6), none, none, some (.aload_n 2, 1545, 2, 0, .null), some (.aload_n 0, 1546, 0, 0, .null), some (.iload_n 3, 1547, 3, 0, .null), some (.iconst 1, 1548, 0, 0, .int (1)), some (.iadd, 1549, 0, 0, .null), some (.iaload, 1550, 0, 0, .null), some (.aload_n 0, 1551, 0, 0, .null), some (.iload_n 3, 1552, 3, 0, .null)]
def cl_97 : List (Option aE) := [some (.iconst 2, 1553, 0, 0, .int (2)), some (.iadd, 1554, 0, 0, .null), some (.iaload, 1555, 0, 0, .null), some (.invokevirtual 189, 1558, 225, 3, .retAddr 7), none, none, some (.if_icmp .eq 90, 1561, 1648, 0, .null), none, none, some (.iconst 0, 1562, 0, 0, .int (0)), some (.ireturn, 1563, 0, 0, .null), some (.aload_n 1, 1564, 1, 0, .null), some (.invokevirtual 190, 1567, 96, 1, .retAddr 6), none, none, some (.aload_n 2, 1568, 2, 0, .null)]
def cl_98 : List (Option aE) := [some (.invokevirtual 193, 1571, 226, 1, .retAddr 7), none, none, some (.if_icmp .eq 77, 1574, 1648, 0, .null), none, none, some (.iconst 0, 1575, 0, 0, .int (0)), some (.ireturn, 1576, 0, 0, .null), some (.aload_n 1, 1577, 1, 0, .null), some (.invokevirtual 194, 1580, 97, 1, .retAddr 6), none, none, some (.aload_n 2, 1581, 2, 0, .null), some (.invokevirtual 197, 1584, 227, 1, .retAddr 7), none, none]
def cl_99 : List (Option aE) := [some (.if_icmp .eq 64, 1587, 1648, 0, .null), none, none, some (.iconst 0, 1588, 0, 0, .int (0)), some (.ireturn, 1589, 0, 0, .null), some (.aload_n 1, 1590, 1, 0, .null), some (.invokevirtual 198, 1593, 98, 1, .retAddr 6), none, none, some (.aload_n 2, 1594, 2, 0, .null), some (.invokevirtual 201, 1597, 228, 1, .retAddr 7), none, none, some (.if_icmp .eq 51, 1600, 1648, 0, .null), none, none]
def cl_100 : List (Option aE) := [some (.iconst 0, 1601, 0, 0, .int (0)), some (.ireturn, 1602, 0, 0, .null), some (.aload_n 1, 1603, 1, 0, .null), some (.aload_n 0, 1604, 0, 0, .null), some (.iload_n 3, 1605, 3, 0, .null), some (.iconst 1, 1606, 0, 0, .int (1)), some (.iadd, 1607, 0, 0, .null), some (.iaload, 1608, 0, 0, .null), some (.invokevirtual 202, 1611, 99, 2, .retAddr 6), none, none, some (.aload_n 2, 1612, 2, 0, .null), some (.aload_n 0, 1613, 0, 0, .null), some (.iload_n 3, 1614, 3, 0, .null), some (.iconst 1, 1615, 0, 0, .int (1)), some (.iadd, 1616, 0, 0, .null)]
def cl_101 : List (Option aE) := [some (.iaload, 1617, 0, 0, .null), some (.invokevirtual 205, 1620, 229, 2, .retAddr 7), none, none, some (.if_icmp .eq 28, 1623, 1648, 0, .null), none, none, some (.iconst 0, 1624, 0, 0, .int (0)), some (.ireturn, 1625, 0, 0, .null), some (.aload_n 1, 1626, 1, 0, .null), some (.aload_n 0, 1627, 0, 0, .null), some (.iload_n 3, 1628, 3, 0, .null), some (.iconst 1, 1629, 0, 0, .int (1)), some (.iadd, 1630, 0, 0, .null), some (.iaload, 1631, 0, 0, .null), some (.invokevirtual 206, 1634, 100, 2, .retAddr 6)]
def cl_102 : List (Option aE) := [none, none, some (.aload_n 2, 1635, 2, 0, .null), some (.aload_n 0, 1636, 0, 0, .null), some (.iload_n 3, 1637, 3, 0, .null), some (.iconst 1, 1638, 0, 0, .int (1)), some (.iadd, 1639, 0, 0, .null), some (.iaload, 1640, 0, 0, .null), some (.invokevirtual 209, 1643, 230, 2, .retAddr 7), none, none, some (.if_icmp .eq 5, 1646, 1648, 0, .null), none, none, some (.iconst 0, 1647, 0, 0, .int (0)), some (.ireturn, 1648, 0, 0, .null)]
def cl_103 : List (Option aE) := [some (.iinc 3 6, 1651, 3, 0, .int (6)), none, none, some (.goto (-1633), 1654, 18, 0, .null), none, none, some (.iconst 1, 1655, 0, 0, .int (1)), some (.ireturn, 1656, 0, 0, .null)]
def kL_law : aM := ([cl_0, cl_1, cl_2, cl_3, cl_4, cl_5, cl_6, cl_7, cl_8, cl_9, cl_10, cl_11, cl_12, cl_13, cl_14, cl_15, cl_16, cl_17, cl_18, cl_19, cl_20, cl_21, cl_22, cl_23, cl_24, cl_25, cl_26, cl_27, cl_28, cl_29, cl_30, cl_31, cl_32, cl_33, cl_34, cl_35, cl_36, cl_37, cl_38, cl_39, cl_40, cl_41, cl_42, cl_43, cl_44, cl_45, cl_46, cl_47, cl_48, cl_49, cl_50, cl_51, cl_52, cl_53, cl_54, cl_55, cl_56, cl_57, cl_58, cl_59, cl_60, cl_61, cl_62, cl_63, cl_64, cl_65, cl_66, cl_67, cl_68, cl_69, cl_70, cl_71, cl_72, cl_73, cl_74, cl_75, cl_76, cl_77, cl_78, cl_79, cl_80, cl_81, cl_82, cl_83, cl_84, cl_85, cl_86, cl_87, cl_88, cl_89, cl_90, cl_91, cl_92, cl_93, cl_94, cl_95, cl_96, cl_97, cl_98, cl_99, cl_100, cl_101, cl_102, cl_103],
  4, (some .boolean), 8, 998)
def mTl : List (List aM) := [[kX0_init, kX0_walk, kX0_findTwins, kX0_saying, kX0_hangNext, kX0_mayHang, kX0_isHanging, kX0_arrive, kX0_arrangeNearest, kX0_unlikeWorths, kX0_meaningsMet, kX0_meaningBit, kX1_init, kX1_clear, kX1_add, kX1_put],
 [kX1_remove, kX1_exchange, kX1_become, kX1_isSeenAt, kX1_pegsLike, kX1_dry, kX2_init, kX2_begin, kX2_put, kX2_hasRange, kX3_init, kX3_add, kX3_tell, kX3_lineItem, kX3_garment, kX3_windItem],
 [kX3_meaningItem, kX3_forgetItem, kX3_takeNumber, kX3_kindTold, kX3_kindName, kX3_isWord, kX3_step, kX3_numberHere, kX3_sortOf, kX4_init, kX4_become, kX4_garments, kX4_letDaysGo, kX4_hasNumber, kX4_meaningsTold, kX4_readAs],
 [kX4_leastDifference, kX5_init, kX5_begin, kX5_hear, kX5_hearGarment, kX6_init, kX6_hang, kX6_off, kX6_of, kX6_set, kX6_turn, kX6_as, kX6_swap, kX6_take, kX6_like, kX6_wind],
 [kX6_days, kX6_means, kX6_forget, kX6_number, kX6_read, kX6_apart, kX6_worth, kX6_worthIn, kX6_says, kX6_winds, kX6_lost, kX6_fewest, kX6_which, kX6_more, kX6_orders, kX6_most],
 [kX6_least, kX6_order, kX6_worths, kX6_can, kX6_join, kX6_same, kX6_best, kX6_feed, kX6_wipe, kX6_town, kX6_sheet, kX6_write, kX6_copy, kX6_lays, kX6_show, kX6_check],
 [kX6_image, kX6_undo, kX6_tear, kX6_count, kX6_status, kX6_finding, kX6_isGarment, kX6_sheetFinding, kX6_sheetAndLineFinding, kX6_isWithin, kX6_isLine, kX6_isKind, kX6_isSize, kX6_isWind, kX6_isMeaning, kX6_isWorth],
 [kX6_isSheet, kX6_isBits, kX6_isGarmentCode, kX6_isOfKind, kX6_isSeen, kX6_worthAfter, kX6_stockingsAfter, kX6_held, kX6_worthOf, kX6_worthBehind, kX6_worthJoined, kX6_readNow, kX6_readWithout, kX6_readWithOneMore, kX6_windsReadAs, kX6_fewestOff],
 [kX7_init, kX7_isIn, kX7_finds, kX7_becomes, kX7_isLine, kX7_isPeg, kX7_isMeaning, kX7_placeOf, kX7_copyRow, kX7_apartBy, kX7_hangs, kX7_isGarment, kX7_hang, kX7_off, kX7_lays, kX7_isSeen],
 [kX7_kept, kX7_isStocking, kX7_becomesBy, kX7_worthOfFirst, kX7_worthBy, kX7_worthAside, kX7_readAs, kX7_of, kX7_set, kX7_turn, kX7_isUnder, kX7_as, kX7_swap, kX7_take, kX7_hangsAside, kX7_like],
 [kX7_wind, kX7_garments, kX7_days, kX7_means, kX7_forget, kX7_number, kX7_orNone, kX7_read, kX7_apart, kX7_worth, kX7_worthIn, kX7_says, kX7_windsOf, kX7_winds, kX7_laysBut, kX7_lost],
 [kX7_manyIn, kX7_fewestSet, kX7_fewest, kX7_which, kX7_more, kX7_beginsOrders, kX7_hasNext, kX7_swapsOrder, kX7_laysOrder, kX7_orders, kX7_furthest, kX7_most, kX7_least, kX7_notesOrder, kX7_order, kX7_worths],
 [kX7_can, kX7_join, kX7_same, kX7_best, kX7_feed, kX7_wipe, kX7_isLetter, kX7_isDigit, kX7_byteAt, kX7_nextToken, kX7_has3, kX7_isWord, kX7_fails, kX7_isFour, kX7_isFive, kX7_isSix],
 [kX7_kindHere, kX7_isNumber, kX7_garmentHere, kX7_lineHere, kX7_windHere, kX7_meaningHere, kX7_forgetHere, kX7_itemHere, kX7_town, kX7_isSheet, kX7_narrow, kX7_sheet, kX7_write, kX7_copy, kX7_wants, kX7_lays_],
 [kX7_show, kX7_check, kX7_image, kX7_undo, kX7_tear, kX7_count, kX7_status, kJ6_bitCount_0f7a4, kJ13_bitCount_95d88, kJ0_length_8abf5, kJ0_charAt_5068e, kJ0_coder_7d493, kJ0_isLatin1_aae02, kJ0_checkIndex_df160, kJ1_charAt_3b067, kJ7_fill_d0a16],
 [kJ7_fill_53178, kJ3_checkIndex_8e157]]
def mT (i : Nat) : Option aM := (mTl[i / 16]?).bind (fun l => l[i % 16]?)
def mNl : List (List (MethodName × ByteArray)) := [[(yX0_init, cX0_init), (yX0_walk, cX0_walk), (yX0_findTwins, cX0_findTwins), (yX0_saying, cX0_saying), (yX0_hangNext, cX0_hangNext), (yX0_mayHang, cX0_mayHang), (yX0_isHanging, cX0_isHanging), (yX0_arrive, cX0_arrive), (yX0_arrangeNearest, cX0_arrangeNearest), (yX0_unlikeWorths, cX0_unlikeWorths), (yX0_meaningsMet, cX0_meaningsMet), (yX0_meaningBit, cX0_meaningBit), (yX1_init, cX1_init), (yX1_clear, cX1_clear), (yX1_add, cX1_add), (yX1_put, cX1_put)],
 [(yX1_remove, cX1_remove), (yX1_exchange, cX1_exchange), (yX1_become, cX1_become), (yX1_isSeenAt, cX1_isSeenAt), (yX1_pegsLike, cX1_pegsLike), (yX1_dry, cX1_dry), (yX2_init, cX2_init), (yX2_begin, cX2_begin), (yX2_put, cX2_put), (yX2_hasRange, cX2_hasRange), (yX3_init, cX3_init), (yX3_add, cX3_add), (yX3_tell, cX3_tell), (yX3_lineItem, cX3_lineItem), (yX3_garment, cX3_garment), (yX3_windItem, cX3_windItem)],
 [(yX3_meaningItem, cX3_meaningItem), (yX3_forgetItem, cX3_forgetItem), (yX3_takeNumber, cX3_takeNumber), (yX3_kindTold, cX3_kindTold), (yX3_kindName, cX3_kindName), (yX3_isWord, cX3_isWord), (yX3_step, cX3_step), (yX3_numberHere, cX3_numberHere), (yX3_sortOf, cX3_sortOf), (yX4_init, cX4_init), (yX4_become, cX4_become), (yX4_garments, cX4_garments), (yX4_letDaysGo, cX4_letDaysGo), (yX4_hasNumber, cX4_hasNumber), (yX4_meaningsTold, cX4_meaningsTold), (yX4_readAs, cX4_readAs)],
 [(yX4_leastDifference, cX4_leastDifference), (yX5_init, cX5_init), (yX5_begin, cX5_begin), (yX5_hear, cX5_hear), (yX5_hearGarment, cX5_hearGarment), (yX6_init, cX6_init), (yX6_hang, cX6_hang), (yX6_off, cX6_off), (yX6_of, cX6_of), (yX6_set, cX6_set), (yX6_turn, cX6_turn), (yX6_as, cX6_as), (yX6_swap, cX6_swap), (yX6_take, cX6_take), (yX6_like, cX6_like), (yX6_wind, cX6_wind)],
 [(yX6_days, cX6_days), (yX6_means, cX6_means), (yX6_forget, cX6_forget), (yX6_number, cX6_number), (yX6_read, cX6_read), (yX6_apart, cX6_apart), (yX6_worth, cX6_worth), (yX6_worthIn, cX6_worthIn), (yX6_says, cX6_says), (yX6_winds, cX6_winds), (yX6_lost, cX6_lost), (yX6_fewest, cX6_fewest), (yX6_which, cX6_which), (yX6_more, cX6_more), (yX6_orders, cX6_orders), (yX6_most, cX6_most)],
 [(yX6_least, cX6_least), (yX6_order, cX6_order), (yX6_worths, cX6_worths), (yX6_can, cX6_can), (yX6_join, cX6_join), (yX6_same, cX6_same), (yX6_best, cX6_best), (yX6_feed, cX6_feed), (yX6_wipe, cX6_wipe), (yX6_town, cX6_town), (yX6_sheet, cX6_sheet), (yX6_write, cX6_write), (yX6_copy, cX6_copy), (yX6_lays, cX6_lays), (yX6_show, cX6_show), (yX6_check, cX6_check)],
 [(yX6_image, cX6_image), (yX6_undo, cX6_undo), (yX6_tear, cX6_tear), (yX6_count, cX6_count), (yX6_status, cX6_status), (yX6_finding, cX6_finding), (yX6_isGarment, cX6_isGarment), (yX6_sheetFinding, cX6_sheetFinding), (yX6_sheetAndLineFinding, cX6_sheetAndLineFinding), (yX6_isWithin, cX6_isWithin), (yX6_isLine, cX6_isLine), (yX6_isKind, cX6_isKind), (yX6_isSize, cX6_isSize), (yX6_isWind, cX6_isWind), (yX6_isMeaning, cX6_isMeaning), (yX6_isWorth, cX6_isWorth)],
 [(yX6_isSheet, cX6_isSheet), (yX6_isBits, cX6_isBits), (yX6_isGarmentCode, cX6_isGarmentCode), (yX6_isOfKind, cX6_isOfKind), (yX6_isSeen, cX6_isSeen), (yX6_worthAfter, cX6_worthAfter), (yX6_stockingsAfter, cX6_stockingsAfter), (yX6_held, cX6_held), (yX6_worthOf, cX6_worthOf), (yX6_worthBehind, cX6_worthBehind), (yX6_worthJoined, cX6_worthJoined), (yX6_readNow, cX6_readNow), (yX6_readWithout, cX6_readWithout), (yX6_readWithOneMore, cX6_readWithOneMore), (yX6_windsReadAs, cX6_windsReadAs), (yX6_fewestOff, cX6_fewestOff)],
 [(yX7_init, cX7_init), (yX7_isIn, cX7_isIn), (yX7_finds, cX7_finds), (yX7_becomes, cX7_becomes), (yX7_isLine, cX7_isLine), (yX7_isPeg, cX7_isPeg), (yX7_isMeaning, cX7_isMeaning), (yX7_placeOf, cX7_placeOf), (yX7_copyRow, cX7_copyRow), (yX7_apartBy, cX7_apartBy), (yX7_hangs, cX7_hangs), (yX7_isGarment, cX7_isGarment), (yX7_hang, cX7_hang), (yX7_off, cX7_off), (yX7_lays, cX7_lays), (yX7_isSeen, cX7_isSeen)],
 [(yX7_kept, cX7_kept), (yX7_isStocking, cX7_isStocking), (yX7_becomesBy, cX7_becomesBy), (yX7_worthOfFirst, cX7_worthOfFirst), (yX7_worthBy, cX7_worthBy), (yX7_worthAside, cX7_worthAside), (yX7_readAs, cX7_readAs), (yX7_of, cX7_of), (yX7_set, cX7_set), (yX7_turn, cX7_turn), (yX7_isUnder, cX7_isUnder), (yX7_as, cX7_as), (yX7_swap, cX7_swap), (yX7_take, cX7_take), (yX7_hangsAside, cX7_hangsAside), (yX7_like, cX7_like)],
 [(yX7_wind, cX7_wind), (yX7_garments, cX7_garments), (yX7_days, cX7_days), (yX7_means, cX7_means), (yX7_forget, cX7_forget), (yX7_number, cX7_number), (yX7_orNone, cX7_orNone), (yX7_read, cX7_read), (yX7_apart, cX7_apart), (yX7_worth, cX7_worth), (yX7_worthIn, cX7_worthIn), (yX7_says, cX7_says), (yX7_windsOf, cX7_windsOf), (yX7_winds, cX7_winds), (yX7_laysBut, cX7_laysBut), (yX7_lost, cX7_lost)],
 [(yX7_manyIn, cX7_manyIn), (yX7_fewestSet, cX7_fewestSet), (yX7_fewest, cX7_fewest), (yX7_which, cX7_which), (yX7_more, cX7_more), (yX7_beginsOrders, cX7_beginsOrders), (yX7_hasNext, cX7_hasNext), (yX7_swapsOrder, cX7_swapsOrder), (yX7_laysOrder, cX7_laysOrder), (yX7_orders, cX7_orders), (yX7_furthest, cX7_furthest), (yX7_most, cX7_most), (yX7_least, cX7_least), (yX7_notesOrder, cX7_notesOrder), (yX7_order, cX7_order), (yX7_worths, cX7_worths)],
 [(yX7_can, cX7_can), (yX7_join, cX7_join), (yX7_same, cX7_same), (yX7_best, cX7_best), (yX7_feed, cX7_feed), (yX7_wipe, cX7_wipe), (yX7_isLetter, cX7_isLetter), (yX7_isDigit, cX7_isDigit), (yX7_byteAt, cX7_byteAt), (yX7_nextToken, cX7_nextToken), (yX7_has3, cX7_has3), (yX7_isWord, cX7_isWord), (yX7_fails, cX7_fails), (yX7_isFour, cX7_isFour), (yX7_isFive, cX7_isFive), (yX7_isSix, cX7_isSix)],
 [(yX7_kindHere, cX7_kindHere), (yX7_isNumber, cX7_isNumber), (yX7_garmentHere, cX7_garmentHere), (yX7_lineHere, cX7_lineHere), (yX7_windHere, cX7_windHere), (yX7_meaningHere, cX7_meaningHere), (yX7_forgetHere, cX7_forgetHere), (yX7_itemHere, cX7_itemHere), (yX7_town, cX7_town), (yX7_isSheet, cX7_isSheet), (yX7_narrow, cX7_narrow), (yX7_sheet, cX7_sheet), (yX7_write, cX7_write), (yX7_copy, cX7_copy), (yX7_wants, cX7_wants), (yX7_lays_, cX7_lays_)],
 [(yX7_show, cX7_show), (yX7_check, cX7_check), (yX7_image, cX7_image), (yX7_undo, cX7_undo), (yX7_tear, cX7_tear), (yX7_count, cX7_count), (yX7_status, cX7_status), (yJ6_bitCount_0f7a4, cJ6_bitCount_0f7a4), (yJ13_bitCount_95d88, cJ13_bitCount_95d88), (yJ0_length_8abf5, cJ0_length_8abf5), (yJ0_charAt_5068e, cJ0_charAt_5068e), (yJ0_coder_7d493, cJ0_coder_7d493), (yJ0_isLatin1_aae02, cJ0_isLatin1_aae02), (yJ0_checkIndex_df160, cJ0_checkIndex_df160), (yJ1_charAt_3b067, cJ1_charAt_3b067), (yJ7_fill_d0a16, cJ7_fill_d0a16)],
 [(yJ7_fill_53178, cJ7_fill_53178), (yJ3_checkIndex_8e157, cJ3_checkIndex_8e157)]]
def mN (i : Nat) : MethodName × ByteArray := ((mNl[i / 16]?).bind (fun l => l[i % 16]?)).getD (objectInit, ⟨#[0xb1]⟩)
/-- links of fields: class, pool number, class of the field, its number, where the word stands -/
def fL : List (Nat × Nat × Nat × Nat × Nat) := [(0, 14, 0, 1, 186), (0, 18, 0, 2, 187), (0, 22, 0, 3, 188), (0, 25, 0, 4, 189), (0, 28, 0, 5, 190), (0, 31, 0, 6, 191), (0, 35, 0, 7, 192), (0, 39, 0, 8, 193), (0, 42, 0, 9, 194), (0, 45, 0, 10, 195), (0, 48, 0, 11, 196), (0, 52, 0, 12, 197), (0, 55, 0, 13, 199), (0, 58, 0, 14, 201), (0, 61, 0, 15, 203), (0, 64, 0, 0, 185), (0, 85, 1, 3, 123), (0, 92, 4, 2, 146), (0, 101, 1, 0, 111), (0, 104, 1, 1, 116), (0, 149, 1, 2, 120), (1, 9, 1, 0, 109), (1, 15, 1, 1, 113), (1, 18, 1, 2, 117), (1, 21, 1, 3, 121), (2, 9, 2, 0, 272), (2, 15, 2, 1, 274), (2, 19, 2, 2, 276), (3, 9, 3, 0, 245), (3, 15, 3, 1, 246), (3, 19, 3, 2, 248), (3, 22, 3, 3, 249), (3, 25, 3, 4, 250), (3, 28, 3, 5, 251), (3, 63, 4, 0, 141), (3, 82, 1, 3, 125), (3, 89, 4, 2, 148), (3, 91, 4, 1, 143), (4, 11, 4, 0, 139), (4, 17, 4, 1, 142), (4, 21, 4, 2, 145), (4, 25, 4, 3, 149), (4, 45, 1, 3, 124), (5, 7, 5, 0, 166), (5, 13, 5, 1, 168), (5, 16, 5, 2, 169), (5, 19, 1, 0, 110), (5, 25, 1, 1, 115), (5, 28, 1, 2, 118), (6, 10, 6, 0, 285), (6, 16, 6, 1, 286), (6, 19, 6, 2, 287), (6, 25, 6, 3, 288), (6, 34, 6, 4, 289), (6, 41, 6, 5, 290), (6, 47, 6, 6, 291), (6, 51, 6, 7, 292), (6, 55, 6, 8, 293), (6, 75, 4, 0, 140), (6, 79, 1, 3, 122), (6, 94, 1, 1, 114), (6, 101, 1, 0, 112), (6, 104, 1, 2, 119), (6, 107, 4, 2, 147), (6, 144, 4, 3, 150), (6, 154, 4, 1, 144), (6, 206, 0, 12, 198), (6, 209, 0, 13, 200), (6, 212, 0, 14, 202), (6, 218, 0, 15, 204), (6, 234, 3, 1, 247), (6, 253, 2, 2, 277), (6, 257, 2, 0, 273), (6, 265, 2, 1, 275), (6, 304, 5, 0, 167), (7, 7, 7, 0, 907), (7, 13, 7, 1, 908), (7, 16, 7, 2, 909), (7, 19, 7, 4, 911), (7, 22, 7, 5, 912), (7, 25, 7, 7, 914), (7, 28, 7, 8, 915), (7, 31, 7, 9, 916), (7, 35, 7, 10, 917), (7, 38, 7, 12, 919), (7, 41, 7, 13, 920), (7, 44, 7, 14, 921), (7, 80, 7, 11, 918), (7, 179, 7, 15, 922), (7, 182, 7, 6, 913), (7, 185, 7, 18, 925), (7, 188, 7, 17, 924), (7, 200, 7, 16, 923), (7, 203, 7, 19, 926), (7, 206, 7, 20, 927), (7, 276, 7, 3, 910)]
/-- constants -/
def kL : List (Nat × Nat × Value × Nat) := [(6, 70, .int (-1000000001), 329), (6, 85, .int (-1000000002), 334), (6, 124, .int (-1000000003), 409), (6, 147, .int (-1000000005), 448), (6, 160, .int (-1000000004), 479), (6, 249, .int (-1000000007), 832), (6, 268, .int (-1000000006), 846), (6, 288, .long (60), 569), (6, 290, .long (10), 570), (7, 47, .int (-1000000001), 986), (7, 56, .long (5), 981), (7, 62, .long (9), 985), (7, 72, .int (-1000000002), 991), (7, 106, .long (4), 1011), (7, 108, .long (2), 1038), (7, 116, .int (-1000000003), 1054), (7, 120, .long (20), 1078), (7, 122, .long (99), 1083), (7, 124, .int (-1000000005), 1084), (7, 128, .long (-999), 1092), (7, 130, .long (9999), 1093), (7, 132, .int (-1000000004), 1102), (7, 133, .long (-9999), 1107), (7, 265, .int (-1000000007), 1327), (7, 266, .int (-1000000006), 1332), (7, 274, .long (59), 1348), (7, 283, .long (-1), 1381), (7, 285, .long (6), 1382), (8, 166, .long (4294967295), 1383), (9, 265, .int (1431655765), 555), (9, 266, .int (858993459), 556), (9, 267, .int (252645135), 557), (10, 314, .long (6148914691236517205), 651), (10, 316, .long (3689348814741910323), 652), (10, 318, .long (1085102592571150095), 653)]
/-- links of classes -/
def nL : List (Nat × Nat × Nat × Nat) := [(0, 11, 1, 183), (4, 9, 1, 102), (6, 7, 4, 96), (6, 22, 5, 160), (6, 29, 0, 177), (6, 38, 3, 239), (6, 45, 2, 265), (8, 7, 6, 88), (8, 10, 7, 901)]
/-- links of methods: class, pool number, method, kind of call (0 virtual, 1 static, 2 init, 3 static of a nest mate, 4 init of a nest mate), where the word stands -/
def mL : List (Nat × Nat × Nat × Nat × Nat) := [(0, 13, 12, 4, 184), (0, 68, 18, 0, 584), (0, 72, 239, 1, 585), (0, 78, 2, 0, 588), (0, 81, 4, 0, 597), (0, 88, 3, 0, 592), (0, 97, 19, 0, 596), (0, 107, 7, 0, 601), (0, 111, 5, 0, 612), (0, 115, 117, 3, 620), (0, 119, 118, 3, 621), (0, 123, 6, 0, 616), (0, 126, 47, 0, 605), (0, 146, 13, 0, 638), (0, 152, 14, 0, 639), (0, 155, 232, 1, 648), (0, 161, 11, 0, 662), (1, 25, 15, 0, 339), (1, 29, 116, 3, 363), (2, 22, 239, 1, 837), (3, 31, 38, 0, 713), (3, 36, 37, 0, 721), (3, 40, 29, 0, 773), (3, 46, 31, 0, 807), (3, 51, 32, 0, 812), (3, 56, 33, 0, 817), (3, 59, 34, 0, 777), (3, 69, 13, 0, 786), (3, 74, 30, 0, 787), (3, 78, 35, 0, 791), (3, 85, 14, 0, 805), (3, 94, 39, 0, 781), (3, 97, 105, 3, 785), (3, 101, 36, 1, 795), (3, 117, 233, 0, 725), (3, 121, 234, 0, 735), (3, 125, 40, 1, 717), (4, 28, 12, 4, 105), (4, 29, 240, 1, 136), (4, 35, 18, 0, 707), (4, 48, 21, 0, 453), (4, 52, 45, 0, 491), (5, 31, 52, 0, 378), (5, 35, 116, 3, 382), (5, 41, 117, 3, 383), (5, 45, 118, 3, 389), (6, 9, 41, 2, 98), (6, 24, 49, 4, 162), (6, 31, 0, 2, 179), (6, 40, 26, 4, 241), (6, 59, 22, 4, 268), (6, 60, 106, 1, 317), (6, 64, 107, 1, 323), (6, 67, 108, 1, 326), (6, 71, 101, 0, 330), (6, 86, 14, 0, 335), (6, 90, 102, 0, 347), (6, 97, 16, 0, 351), (6, 110, 19, 0, 359), (6, 113, 121, 0, 366), (6, 117, 105, 1, 320), (6, 121, 115, 1, 404), (6, 125, 17, 0, 414), (6, 134, 13, 0, 425), (6, 137, 18, 0, 433), (6, 141, 109, 1, 441), (6, 148, 44, 0, 449), (6, 151, 110, 1, 464), (6, 157, 45, 0, 471), (6, 161, 111, 1, 484), (6, 164, 47, 0, 487), (6, 167, 46, 0, 497), (6, 171, 48, 0, 501), (6, 174, 120, 0, 512), (6, 177, 123, 0, 524), (6, 181, 126, 0, 532), (6, 184, 124, 0, 540), (6, 187, 127, 0, 548), (6, 190, 231, 1, 552), (6, 195, 114, 1, 566), (6, 199, 125, 0, 571), (6, 202, 1, 0, 580), (6, 215, 8, 0, 634), (6, 221, 9, 0, 644), (6, 224, 10, 0, 658), (6, 227, 122, 0, 670), (6, 231, 20, 0, 678), (6, 235, 27, 0, 691), (6, 237, 42, 0, 703), (6, 239, 28, 0, 709), (6, 243, 112, 1, 826), (6, 246, 113, 1, 829), (6, 250, 23, 0, 833), (6, 254, 103, 0, 842), (6, 261, 24, 0, 847), (6, 269, 25, 0, 855), (6, 278, 104, 0, 864), (6, 285, 43, 0, 885), (6, 295, 119, 1, 386), (6, 298, 50, 0, 370), (6, 300, 51, 0, 374), (6, 307, 52, 0, 575), (7, 48, 132, 1, 975), (7, 52, 135, 1, 996), (7, 58, 129, 1, 982), (7, 64, 139, 1, 978), (7, 68, 130, 0, 987), (7, 73, 138, 0, 992), (7, 77, 133, 0, 1003), (7, 84, 143, 0, 1016), (7, 87, 146, 0, 1024), (7, 91, 144, 1, 1028), (7, 93, 145, 1, 1031), (7, 96, 142, 0, 1012), (7, 100, 147, 0, 1020), (7, 103, 137, 1, 1059), (7, 110, 131, 0, 1039), (7, 113, 154, 1, 1051), (7, 117, 158, 0, 1070), (7, 125, 134, 1, 1089), (7, 135, 150, 0, 1108), (7, 138, 166, 0, 1112), (7, 141, 148, 0, 1124), (7, 144, 172, 0, 1140), (7, 147, 174, 0, 1148), (7, 151, 149, 0, 1152), (7, 155, 176, 1, 1164), (7, 158, 177, 0, 1160), (7, 161, 183, 0, 1187), (7, 164, 184, 0, 1191), (7, 167, 181, 0, 1179), (7, 170, 182, 0, 1183), (7, 173, 186, 0, 1199), (7, 176, 189, 0, 1211), (7, 191, 200, 0, 1254), (7, 194, 198, 1, 1258), (7, 197, 199, 1, 1261), (7, 209, 203, 0, 1272), (7, 212, 202, 0, 1276), (7, 216, 206, 0, 1300), (7, 220, 205, 0, 1268), (7, 223, 204, 0, 1288), (7, 227, 208, 0, 1296), (7, 230, 201, 0, 1250), (7, 233, 209, 0, 1284), (7, 236, 210, 0, 1292), (7, 239, 211, 0, 1280), (7, 242, 212, 0, 1304), (7, 245, 213, 0, 1308), (7, 248, 207, 0, 1312), (7, 252, 214, 0, 1316), (7, 255, 136, 1, 1247), (7, 259, 215, 0, 1264), (7, 262, 217, 1, 1324), (7, 267, 218, 1, 1333), (7, 271, 222, 0, 1344), (7, 280, 161, 0, 1365), (8, 9, 53, 2, 90), (8, 12, 128, 2, 903), (8, 13, 54, 0, 313), (8, 17, 140, 0, 971), (8, 18, 55, 0, 343), (8, 22, 141, 0, 999), (8, 23, 56, 0, 355), (8, 26, 151, 0, 1007), (8, 27, 57, 0, 392), (8, 31, 152, 0, 1034), (8, 32, 58, 0, 396), (8, 35, 153, 0, 1043), (8, 36, 59, 0, 400), (8, 39, 155, 0, 1047), (8, 40, 60, 0, 410), (8, 43, 156, 0, 1055), (8, 44, 61, 0, 421), (8, 48, 157, 0, 1062), (8, 49, 62, 0, 429), (8, 52, 159, 0, 1066), (8, 53, 63, 0, 437), (8, 56, 160, 0, 1074), (8, 57, 64, 0, 444), (8, 60, 162, 0, 1079), (8, 61, 65, 0, 460), (8, 64, 163, 0, 1085), (8, 65, 66, 0, 467), (8, 68, 164, 0, 1094), (8, 69, 67, 0, 475), (8, 72, 165, 0, 1098), (8, 73, 68, 0, 480), (8, 76, 167, 0, 1103), (8, 77, 69, 0, 493), (8, 81, 168, 0, 1116), (8, 82, 70, 0, 508), (8, 85, 169, 0, 1120), (8, 86, 71, 0, 516), (8, 89, 170, 0, 1128), (8, 90, 72, 0, 520), (8, 93, 171, 0, 1132), (8, 94, 73, 0, 528), (8, 97, 173, 0, 1136), (8, 98, 74, 0, 536), (8, 101, 175, 0, 1144), (8, 102, 75, 0, 544), (8, 105, 178, 0, 1156), (8, 106, 76, 0, 558), (8, 109, 179, 0, 1167), (8, 110, 77, 0, 562), (8, 113, 180, 0, 1171), (8, 114, 78, 0, 576), (8, 117, 185, 0, 1175), (8, 118, 79, 0, 622), (8, 121, 187, 0, 1195), (8, 122, 80, 0, 626), (8, 125, 188, 0, 1203), (8, 126, 81, 0, 630), (8, 129, 190, 0, 1207), (8, 130, 82, 0, 640), (8, 133, 191, 0, 1215), (8, 134, 83, 0, 654), (8, 137, 192, 0, 1219), (8, 138, 84, 0, 666), (8, 141, 193, 0, 1223), (8, 142, 85, 0, 674), (8, 145, 194, 0, 1227), (8, 146, 86, 0, 683), (8, 149, 195, 0, 1231), (8, 150, 87, 0, 687), (8, 153, 196, 0, 1235), (8, 154, 88, 0, 695), (8, 157, 197, 0, 1239), (8, 158, 89, 0, 699), (8, 161, 216, 0, 1243), (8, 162, 90, 0, 822), (8, 165, 219, 0, 1320), (8, 168, 91, 0, 838), (8, 172, 220, 0, 1328), (8, 173, 92, 0, 851), (8, 177, 221, 0, 1336), (8, 178, 93, 0, 860), (8, 181, 223, 0, 1340), (8, 182, 94, 0, 869), (8, 185, 224, 0, 1349), (8, 186, 95, 0, 873), (8, 189, 225, 0, 1353), (8, 190, 96, 0, 877), (8, 193, 226, 0, 1357), (8, 194, 97, 0, 881), (8, 197, 227, 0, 1361), (8, 198, 98, 0, 889), (8, 201, 228, 0, 1369), (8, 202, 99, 0, 893), (8, 205, 229, 0, 1373), (8, 206, 100, 0, 897), (8, 209, 230, 0, 1377), (12, 335, 235, 0, 729), (12, 492, 236, 0, 739), (12, 495, 238, 1, 743), (12, 1059, 241, 1, 751), (13, 9, 237, 1, 746)]
def m9 : List (Nat × Nat × Nat) := [(0, 5, 182), (1, 3, 108), (2, 3, 271), (3, 3, 244), (4, 3, 101), (5, 1, 165), (6, 1, 93), (7, 1, 906)]
def mm : List (Nat × Nat × Nat × Nat) := [(0, 129, 902, 606), (0, 140, 903, 610), (0, 143, 904, 611), (1, 33, 904, 682), (1, 39, 903, 457), (4, 56, 902, 492), (4, 61, 904, 505), (6, 129, 902, 418), (6, 282, 904, 868)]
def m1 : List (Nat × Nat × Nat) := [(0, 134, 607), (4, 39, 708), (6, 272, 859)]
/-- where a method's own words stand: code, instanceMethod or static, selects, initialized -/
def mPl : List (List (Nat × Nat × Nat × Nat)) := [[(181, 180, 0, 76), (583, 581, 582, 76), (591, 590, 10, 76), (595, 594, 11, 76), (600, 599, 12, 76), (615, 614, 14, 76), (619, 618, 15, 76), (604, 603, 13, 76), (637, 635, 636, 76), (647, 645, 646, 76), (661, 659, 660, 76), (665, 664, 16, 76), (107, 106, 0, 73), (428, 426, 427, 73), (338, 336, 337, 73), (342, 341, 1, 73)],
 [(354, 352, 353, 73), (417, 415, 416, 73), (436, 434, 435, 73), (362, 360, 361, 73), (681, 679, 680, 73), (456, 454, 455, 73), (270, 269, 0, 78), (836, 834, 835, 78), (850, 848, 849, 78), (858, 856, 857, 78), (243, 242, 0, 77), (694, 692, 693, 77), (712, 710, 711, 77), (776, 775, 20, 77), (790, 789, 23, 77), (810, 809, 25, 77)],
 [(815, 814, 26, 77), (820, 819, 27, 77), (780, 779, 21, 77), (794, 793, 24, 77), (797, 796, 0, 77), (724, 723, 19, 77), (716, 715, 18, 77), (784, 783, 22, 77), (719, 718, 0, 77), (100, 99, 0, 72), (706, 704, 705, 72), (888, 886, 887, 72), (452, 450, 451, 72), (474, 472, 473, 72), (500, 498, 499, 72), (490, 488, 489, 72)],
 [(504, 502, 503, 72), (164, 163, 0, 75), (373, 371, 372, 75), (377, 375, 376, 75), (381, 379, 380, 75), (92, 91, 0, 71), (316, 314, 315, 71), (346, 344, 345, 71), (358, 356, 357, 71), (395, 393, 394, 71), (399, 397, 398, 71), (403, 401, 402, 71), (413, 411, 412, 71), (424, 422, 423, 71), (432, 430, 431, 71), (440, 438, 439, 71)],
 [(447, 445, 446, 71), (463, 461, 462, 71), (470, 468, 469, 71), (478, 476, 477, 71), (483, 481, 482, 71), (496, 494, 495, 71), (511, 509, 510, 71), (519, 517, 518, 71), (523, 521, 522, 71), (531, 529, 530, 71), (539, 537, 538, 71), (547, 545, 546, 71), (561, 559, 560, 71), (565, 563, 564, 71), (579, 577, 578, 71), (625, 623, 624, 71)],
 [(629, 627, 628, 71), (633, 631, 632, 71), (643, 641, 642, 71), (657, 655, 656, 71), (669, 667, 668, 71), (677, 675, 676, 71), (686, 684, 685, 71), (690, 688, 689, 71), (698, 696, 697, 71), (702, 700, 701, 71), (825, 823, 824, 71), (841, 839, 840, 71), (854, 852, 853, 71), (863, 861, 862, 71), (872, 870, 871, 71), (876, 874, 875, 71)],
 [(880, 878, 879, 71), (884, 882, 883, 71), (892, 890, 891, 71), (896, 894, 895, 71), (900, 898, 899, 71), (333, 332, 0, 71), (350, 349, 2, 71), (845, 844, 28, 71), (867, 866, 29, 71), (322, 321, 0, 71), (319, 318, 0, 71), (325, 324, 0, 71), (328, 327, 0, 71), (443, 442, 0, 71), (466, 465, 0, 71), (486, 485, 0, 71)],
 [(828, 827, 0, 71), (831, 830, 0, 71), (568, 567, 0, 71), (406, 405, 0, 71), (365, 364, 0, 71), (385, 384, 0, 71), (391, 390, 0, 71), (388, 387, 0, 71), (515, 514, 4, 71), (369, 368, 3, 71), (673, 672, 17, 71), (527, 526, 5, 71), (543, 542, 7, 71), (574, 573, 9, 71), (535, 534, 6, 71), (551, 550, 8, 71)],
 [(905, 904, 0, 79), (984, 983, 0, 79), (990, 989, 30, 79), (1042, 1041, 37, 79), (977, 976, 0, 79), (1006, 1005, 32, 79), (1091, 1090, 0, 79), (998, 997, 0, 79), (1249, 1248, 0, 79), (1061, 1060, 0, 79), (995, 994, 31, 79), (980, 979, 0, 79), (974, 972, 973, 79), (1002, 1000, 1001, 79), (1015, 1014, 33, 79), (1019, 1018, 34, 79)],
 [(1030, 1029, 0, 79), (1033, 1032, 0, 79), (1027, 1026, 36, 79), (1023, 1022, 35, 79), (1127, 1126, 41, 79), (1155, 1154, 44, 79), (1111, 1110, 39, 79), (1010, 1008, 1009, 79), (1037, 1035, 1036, 79), (1046, 1044, 1045, 79), (1053, 1052, 0, 79), (1050, 1048, 1049, 79), (1058, 1056, 1057, 79), (1065, 1063, 1064, 79), (1073, 1072, 38, 79), (1069, 1067, 1068, 79)],
 [(1077, 1075, 1076, 79), (1368, 1367, 69, 79), (1082, 1080, 1081, 79), (1088, 1086, 1087, 79), (1097, 1095, 1096, 79), (1101, 1099, 1100, 79), (1115, 1114, 40, 79), (1106, 1104, 1105, 79), (1119, 1117, 1118, 79), (1123, 1121, 1122, 79), (1131, 1129, 1130, 79), (1135, 1133, 1134, 79), (1143, 1142, 42, 79), (1139, 1137, 1138, 79), (1151, 1150, 43, 79), (1147, 1145, 1146, 79)],
 [(1166, 1165, 0, 79), (1163, 1162, 45, 79), (1159, 1157, 1158, 79), (1170, 1168, 1169, 79), (1174, 1172, 1173, 79), (1182, 1181, 46, 79), (1186, 1185, 47, 79), (1190, 1189, 48, 79), (1194, 1193, 49, 79), (1178, 1176, 1177, 79), (1202, 1201, 50, 79), (1198, 1196, 1197, 79), (1206, 1204, 1205, 79), (1214, 1213, 51, 79), (1210, 1208, 1209, 79), (1218, 1216, 1217, 79)],
 [(1222, 1220, 1221, 79), (1226, 1224, 1225, 79), (1230, 1228, 1229, 79), (1234, 1232, 1233, 79), (1238, 1236, 1237, 79), (1242, 1240, 1241, 79), (1260, 1259, 0, 79), (1263, 1262, 0, 79), (1257, 1256, 53, 79), (1253, 1252, 52, 79), (1279, 1278, 57, 79), (1275, 1274, 56, 79), (1291, 1290, 60, 79), (1271, 1270, 55, 79), (1303, 1302, 63, 79), (1315, 1314, 66, 79)],
 [(1299, 1298, 62, 79), (1287, 1286, 59, 79), (1295, 1294, 61, 79), (1283, 1282, 58, 79), (1307, 1306, 64, 79), (1311, 1310, 65, 79), (1319, 1318, 67, 79), (1267, 1266, 54, 79), (1246, 1244, 1245, 79), (1326, 1325, 0, 79), (1335, 1334, 0, 79), (1323, 1321, 1322, 79), (1331, 1329, 1330, 79), (1339, 1337, 1338, 79), (1347, 1346, 68, 79), (1343, 1341, 1342, 79)],
 [(1352, 1350, 1351, 79), (1356, 1354, 1355, 79), (1360, 1358, 1359, 79), (1364, 1362, 1363, 79), (1372, 1370, 1371, 79), (1376, 1374, 1375, 79), (1380, 1378, 1379, 79), (554, 553, 0, 81), (650, 649, 0, 83), (728, 726, 727, 84), (738, 736, 737, 84), (732, 730, 731, 84), (742, 740, 741, 84), (748, 747, 0, 84), (745, 744, 0, 85), (587, 586, 0, 74)],
 [(138, 137, 0, 74), (753, 752, 0, 86)]]
def mP (i : Nat) : Nat × Nat × Nat × Nat := ((mPl[i / 16]?).bind (fun l => l[i % 16]?)).getD (0, 0, 0, 0)
/-- statics -/
def gS : List (Nat × Nat × Value × String × String × String × Nat) := [(6, 292, .retAddr 0, "LinenSigns", "UNDER", "[I", 407), (12, 38, .int 1, "java/lang/String", "COMPACT_STRINGS", "Z", 733), (12, 1053, .retAddr 1, "jdk/internal/util/Preconditions", "SIOOBE_FORMATTER", "Ljava/util/function/BiFunction;", 749)]
/-- fields of texts -/
def sL : List (Nat × Nat × Nat × Nat) := [(12, 9, 0, 1384), (12, 15, 1, 1385)]
/-- the texts: entry of the pool, length, bytes -/
def sT : List (Nat × List Int32) := [(34, [108, 105, 110, 101]), (105, [115, 104, 101, 101, 116]), (107, [115, 116, 111, 99, 107, 105, 110, 103]), (109, [114, 101, 100]), (111, [116, 111, 114, 110]), (113, [98, 108, 97, 99, 107]), (115, [108, 105, 110, 101, 110]), (83, [119, 101, 116]), (44, [119, 105, 110, 100]), (49, [109, 101, 97, 110, 105, 110, 103]), (54, [102, 111, 114, 103, 101, 116])]
def ini (i : Nat) : Bool := ([0, 12, 22, 26, 41, 49, 53, 128] : List Nat).contains i
def sX : List String := ["line", "sheet", "stocking", "red", "torn", "black", "linen", "wet", "wind", "meaning", "forget"]
end
section
/-! THE SMALL MACHINE: cells by number, methods by number; what lies outside (the script, the texts, UNDER) is .retAddr k; an unset local is .double 0 -/
abbrev aX : Type := Nat × (Nat → Int32)
/-- a step's end: it goes on (place, locals, stack, cells); it calls (method, arguments, place behind, stack behind); it answers -/
abbrev aR : Type := (Nat × List Value × List Value × aH) ⊕ (Nat × List Value × Nat × List Value) ⊕ Option Value
def xI (X : aX) : Nat → Option aX
  | 0 => some (6, fun j => ([-1, 0, 0, 0, 1, 2] : List Int32).getD j 0)
  | 2 => some X
  | _ => none
def xB (k : Nat) : Option aX := if k < 30 then none else (sT[k - 30]?).map (fun q => (q.2.length, fun j => q.2.getD j 0))
/-- no long's second half lies at a -/
def noL (lo : List Value) (a : Nat) : Bool := match a with
  | 0 => true
  | a + 1 => match lo[a]? with
    | some (.long _) => false
    | _ => true
/-- what may be put into a field: k .int 0: an int, .int 1: a boolean, .null: a reference -/
def fok (k v : Value) : Bool := match k, v with
  | .null, .ref _ => true
  | .null, .null => true
  | .int x, .int y => x == 0 || (y == 0 || y == 1)
  | _, _ => false
def cpy (h : aH) (x0 : Nat) (sp : Int32) (x1 : Nat) (dp n : Int32) : Option aH :=
  if sp < 0 ∨ dp < 0 ∨ n < 0 then none else
  match h[x0]?, h[x1]? with
  | some (.inr (.inl (n0, f))), some (.inr (.inl (n1, g))) => if sp.toNatClampNeg + n.toNatClampNeg ≤ n0 ∧ dp.toNatClampNeg + n.toNatClampNeg ≤ n1 then some (h.set x1 (.inr (.inl (n1, va_cpy f g sp.toNatClampNeg dp.toNatClampNeg n.toNatClampNeg)))) else none
  | some (.inr (.inr (.inl (n0, f)))), some (.inr (.inr (.inl (n1, g)))) => if sp.toNatClampNeg + n.toNatClampNeg ≤ n0 ∧ dp.toNatClampNeg + n.toNatClampNeg ≤ n1 then some (h.set x1 (.inr (.inr (.inl (n1, va_cpy f g sp.toNatClampNeg dp.toNatClampNeg n.toNatClampNeg))))) else none
  | _, _ => none
def tsw (pc : Nat) (d lo hi : Int) (os : Array Int) (x : Int32) : Nat := ((pc : Int) + (if x.toInt < lo ∨ hi < x.toInt then d else os.getD (x.toInt - lo).toNat 0)).toNat
def lsw (pc : Nat) (d : Int) (ps : Array (Int × Int)) (x : Int32) : Nat := ((pc : Int) + Op.lookupswitch.offset ps.toList d x.toInt).toNat
def stp (X : aX) (pc : Nat) (e : aE) (lo st : List Value) (h : aH) : Option aR :=
  match e with
  | (ins, nx, a, b, v) =>
  match ins with
  | .iconst _ => some (.inl (nx, lo, v :: st, h))
  | .bipush _ => some (.inl (nx, lo, v :: st, h))
  | .sipush _ => some (.inl (nx, lo, v :: st, h))
  | .lconst _ => some (.inl (nx, lo, v :: st, h))
  | .ldc _ => some (.inl (nx, lo, v :: st, h))
  | .ldc_w _ => some (.inl (nx, lo, v :: st, h))
  | .ldc2_w _ => some (.inl (nx, lo, v :: st, h))
  | .getstatic _ => some (.inl (nx, lo, v :: st, h))
  | .iload _ => match lo[a]? with | some (.int x) => some (.inl (nx, lo, .int x :: st, h)) | _ => none
  | .iload_n _ => match lo[a]? with | some (.int x) => some (.inl (nx, lo, .int x :: st, h)) | _ => none
  | .lload _ => match lo[a]? with | some (.long x) => some (.inl (nx, lo, .long x :: st, h)) | _ => none
  | .lload_n _ => match lo[a]? with | some (.long x) => some (.inl (nx, lo, .long x :: st, h)) | _ => none
  | .aload _ => match lo[a]? with | some (.ref x) => some (.inl (nx, lo, .ref x :: st, h)) | some (.retAddr x) => some (.inl (nx, lo, .retAddr x :: st, h)) | _ => none
  | .aload_n _ => match lo[a]? with | some (.ref x) => some (.inl (nx, lo, .ref x :: st, h)) | some (.retAddr x) => some (.inl (nx, lo, .retAddr x :: st, h)) | _ => none
  | .istore _ => match st with | .int x :: r => if a < lo.length ∧ noL lo a = true then some (.inl (nx, lo.set a (.int x), r, h)) else none | _ => none
  | .istore_n _ => match st with | .int x :: r => if a < lo.length ∧ noL lo a = true then some (.inl (nx, lo.set a (.int x), r, h)) else none | _ => none
  | .lstore _ => match st with | .long x :: r => if a + 1 < lo.length ∧ noL lo a = true then some (.inl (nx, (lo.set a (.long x)).set (a + 1) (.double 0), r, h)) else none | _ => none
  | .lstore_n _ => match st with | .long x :: r => if a + 1 < lo.length ∧ noL lo a = true then some (.inl (nx, (lo.set a (.long x)).set (a + 1) (.double 0), r, h)) else none | _ => none
  | .astore _ => match st with | .ref x :: r => if a < lo.length ∧ noL lo a = true then some (.inl (nx, lo.set a (.ref x), r, h)) else none | _ => none
  | .astore_n _ => match st with | .ref x :: r => if a < lo.length ∧ noL lo a = true then some (.inl (nx, lo.set a (.ref x), r, h)) else none | _ => none
  | .iinc _ _ => match lo[a]?, v with | some (.int x), .int c => if noL lo a = true then some (.inl (nx, lo.set a (.int (x + c)), st, h)) else none | _, _ => none
  | .iadd => match st with | .int y :: .int x :: r => some (.inl (nx, lo, .int (x + y) :: r, h)) | _ => none
  | .isub => match st with | .int y :: .int x :: r => some (.inl (nx, lo, .int (x - y) :: r, h)) | _ => none
  | .imul => match st with | .int y :: .int x :: r => some (.inl (nx, lo, .int (x * y) :: r, h)) | _ => none
  | .iand => match st with | .int y :: .int x :: r => some (.inl (nx, lo, .int (x &&& y) :: r, h)) | _ => none
  | .ior => match st with | .int y :: .int x :: r => some (.inl (nx, lo, .int (x ||| y) :: r, h)) | _ => none
  | .ixor => match st with | .int y :: .int x :: r => some (.inl (nx, lo, .int (x ^^^ y) :: r, h)) | _ => none
  | .idiv => match st with | .int y :: .int x :: r => if y = 0 then none else some (.inl (nx, lo, .int (x / y) :: r, h)) | _ => none
  | .irem => match st with | .int y :: .int x :: r => if y = 0 then none else some (.inl (nx, lo, .int (x - x / y * y) :: r, h)) | _ => none
  | .ineg => match st with | .int x :: r => some (.inl (nx, lo, .int (-x) :: r, h)) | _ => none
  | .ishl => match st with | .int y :: .int x :: r => some (.inl (nx, lo, .int (x <<< (y &&& 31)) :: r, h)) | _ => none
  | .ishr => match st with | .int y :: .int x :: r => some (.inl (nx, lo, .int (x >>> (y &&& 31)) :: r, h)) | _ => none
  | .iushr => match st with | .int y :: .int x :: r => some (.inl (nx, lo, .int ((x.toUInt32 >>> (y.toUInt32 &&& Int32.toUInt32 31)).toInt32) :: r, h)) | _ => none
  | .ladd => match st with | .long y :: .long x :: r => some (.inl (nx, lo, .long (x + y) :: r, h)) | _ => none
  | .lsub => match st with | .long y :: .long x :: r => some (.inl (nx, lo, .long (x - y) :: r, h)) | _ => none
  | .land => match st with | .long y :: .long x :: r => some (.inl (nx, lo, .long (x &&& y) :: r, h)) | _ => none
  | .lor => match st with | .long y :: .long x :: r => some (.inl (nx, lo, .long (x ||| y) :: r, h)) | _ => none
  | .lrem => match st with | .long y :: .long x :: r => if y = 0 then none else some (.inl (nx, lo, .long (x - x / y * y) :: r, h)) | _ => none
  | .lshl => match st with | .int y :: .long x :: r => some (.inl (nx, lo, .long (x <<< (y.toInt64 &&& 63)) :: r, h)) | _ => none
  | .lushr => match st with | .int y :: .long x :: r => some (.inl (nx, lo, .long ((x.toUInt64 >>> (y.toInt64.toUInt64 &&& Int64.toUInt64 63)).toInt64) :: r, h)) | _ => none
  | .lcmp => match st with | .long y :: .long x :: r => some (.inl (nx, lo, .int (lg_cmp x y) :: r, h)) | _ => none
  | .i2l => match st with | .int x :: r => some (.inl (nx, lo, .long x.toInt64 :: r, h)) | _ => none
  | .l2i => match st with | .long x :: r => some (.inl (nx, lo, .int x.toInt32 :: r, h)) | _ => none
  | .i2b => match st with | .int x :: r => some (.inl (nx, lo, .int x.toInt8.toInt32 :: r, h)) | _ => none
  | .i2s => match st with | .int x :: r => some (.inl (nx, lo, .int x.toInt16.toInt32 :: r, h)) | _ => none
  | .i2c => match st with | .int x :: r => some (.inl (nx, lo, .int ((x.toUInt32 % 65536).toInt32) :: r, h)) | _ => none
  | .dup => match st with | .int x :: r => some (.inl (nx, lo, .int x :: .int x :: r, h)) | .ref x :: r => some (.inl (nx, lo, .ref x :: .ref x :: r, h)) | _ => none
  | .dup2 => match st with | .int x :: .ref y :: r => some (.inl (nx, lo, .int x :: .ref y :: .int x :: .ref y :: r, h)) | _ => none
  | .pop => match st with | .int _ :: r => some (.inl (nx, lo, r, h)) | _ => none
  | .goto _ => some (.inl (a, lo, st, h))
  | .ifCond .eq _ => match st with | .int x :: r => some (.inl (if x = 0 then a else nx, lo, r, h)) | _ => none
  | .ifCond .ne _ => match st with | .int x :: r => some (.inl (if x = 0 then nx else a, lo, r, h)) | _ => none
  | .ifCond .lt _ => match st with | .int x :: r => some (.inl (if x < 0 then a else nx, lo, r, h)) | _ => none
  | .ifCond .ge _ => match st with | .int x :: r => some (.inl (if 0 ≤ x then a else nx, lo, r, h)) | _ => none
  | .ifCond .gt _ => match st with | .int x :: r => some (.inl (if 0 < x then a else nx, lo, r, h)) | _ => none
  | .ifCond .le _ => match st with | .int x :: r => some (.inl (if x ≤ 0 then a else nx, lo, r, h)) | _ => none
  | .if_icmp .eq _ => match st with | .int y :: .int x :: r => some (.inl (if x = y then a else nx, lo, r, h)) | _ => none
  | .if_icmp .ne _ => match st with | .int y :: .int x :: r => some (.inl (if x = y then nx else a, lo, r, h)) | _ => none
  | .if_icmp .lt _ => match st with | .int y :: .int x :: r => some (.inl (if x < y then a else nx, lo, r, h)) | _ => none
  | .if_icmp .ge _ => match st with | .int y :: .int x :: r => some (.inl (if y ≤ x then a else nx, lo, r, h)) | _ => none
  | .if_icmp .gt _ => match st with | .int y :: .int x :: r => some (.inl (if y < x then a else nx, lo, r, h)) | _ => none
  | .if_icmp .le _ => match st with | .int y :: .int x :: r => some (.inl (if x ≤ y then a else nx, lo, r, h)) | _ => none
  | .tableswitch d l u os => match st with | .int x :: r => some (.inl (tsw pc d l u os x, lo, r, h)) | _ => none
  | .lookupswitch d ps => match st with | .int x :: r => some (.inl (lsw pc d ps x, lo, r, h)) | _ => none
  | .getfield _ => match st with
    | .ref x :: r => match h[x]? with
      | some (.inl (ci, fs)) => if ci = a then (match fs[b]? with | some w => some (.inl (nx, lo, w :: r, h)) | none => none) else none
      | _ => none
    | .retAddr k :: r => if a = 100 ∧ 10 ≤ k ∧ k < 10 + sT.length then (if b = 0 then some (.inl (nx, lo, .retAddr (k + 20) :: r, h)) else some (.inl (nx, lo, .int 0 :: r, h))) else none
    | _ => none
  | .putfield _ => match st with
    | w :: .ref x :: r => match h[x]? with
      | some (.inl (ci, fs)) => if ci = a ∧ b < fs.length ∧ fok v w = true then some (.inl (nx, lo, r, h.set x (.inl (ci, fs.set b w)))) else none
      | _ => none
    | _ => none
  | .iaload => match st with
    | .int i :: .ref x :: r => match h[x]? with
      | some (.inr (.inl (n, f))) => if i < 0 ∨ n ≤ i.toNatClampNeg then none else some (.inl (nx, lo, .int (f i.toNatClampNeg) :: r, h))
      | _ => none
    | .int i :: .retAddr k :: r => match xI X k with
      | some (n, f) => if i < 0 ∨ n ≤ i.toNatClampNeg then none else some (.inl (nx, lo, .int (f i.toNatClampNeg) :: r, h))
      | none => none
    | _ => none
  | .baload => match st with
    | .int i :: .retAddr k :: r => match xB k with
      | some (n, f) => if i < 0 ∨ n ≤ i.toNatClampNeg then none else some (.inl (nx, lo, .int (f i.toNatClampNeg) :: r, h))
      | none => none
    | _ => none
  | .laload => match st with
    | .int i :: .ref x :: r => match h[x]? with
      | some (.inr (.inr (.inl (n, f)))) => if i < 0 ∨ n ≤ i.toNatClampNeg then none else some (.inl (nx, lo, .long (f i.toNatClampNeg) :: r, h))
      | _ => none
    | _ => none
  | .aaload => match st with
    | .int i :: .ref x :: r => match h[x]? with
      | some (.inr (.inr (.inr (t, n, f)))) => if 2 ≤ t ∨ i < 0 ∨ n ≤ i.toNatClampNeg then none else (match f i.toNatClampNeg with | some y => some (.inl (nx, lo, .ref y :: r, h)) | none => none)
      | _ => none
    | _ => none
  | .iastore => match st with
    | .int w :: .int i :: .ref x :: r => match h[x]? with
      | some (.inr (.inl (n, f))) => if i < 0 ∨ n ≤ i.toNatClampNeg then none else some (.inl (nx, lo, r, h.set x (.inr (.inl (n, upd f i.toNatClampNeg w)))))
      | _ => none
    | _ => none
  | .lastore => match st with
    | .long w :: .int i :: .ref x :: r => match h[x]? with
      | some (.inr (.inr (.inl (n, f)))) => if i < 0 ∨ n ≤ i.toNatClampNeg then none else some (.inl (nx, lo, r, h.set x (.inr (.inr (.inl (n, vp_updL f i.toNatClampNeg w))))))
      | _ => none
    | _ => none
  | .aastore => match st with
    | .ref y :: .int i :: .ref x :: r => match h[x]?, h[y]? with
      | some (.inr (.inr (.inr (t, n, f)))), some (.inl (ci, _)) => if 2 ≤ t ∨ i < 0 ∨ n ≤ i.toNatClampNeg then none else if ci = t + 1 then some (.inl (nx, lo, r, h.set x (.inr (.inr (.inr (t, n, va_up f i.toNatClampNeg (some y))))))) else none
      | _, _ => none
    | _ => none
  | .arraylength => match st with
    | .ref x :: r => match h[x]? with
      | some (.inr (.inl (n, _))) => some (.inl (nx, lo, .int (nI n) :: r, h))
      | some (.inr (.inr (.inl (n, _)))) => some (.inl (nx, lo, .int (nI n) :: r, h))
      | _ => none
    | .retAddr k :: r => match xI X k, xB k with
      | some (n, _), _ => some (.inl (nx, lo, .int (nI n) :: r, h))
      | none, some (n, _) => some (.inl (nx, lo, .int (nI n) :: r, h))
      | none, none => none
    | _ => none
  | .new _ => some (.inl (nx, lo, .ref h.length :: st, h ++ [.inl (a, dF a)]))
  | .newarray .int => match st with | .int n :: r => if n < 0 ∨ 100000 < n.toNatClampNeg then none else some (.inl (nx, lo, .ref h.length :: r, h ++ [.inr (.inl (n.toNatClampNeg, fun _ => 0))])) | _ => none
  | .newarray .long => match st with | .int n :: r => if n < 0 ∨ 100000 < n.toNatClampNeg then none else some (.inl (nx, lo, .ref h.length :: r, h ++ [.inr (.inr (.inl (n.toNatClampNeg, fun _ => 0)))])) | _ => none
  | .anewarray _ => match st with | .int n :: r => if n < 0 ∨ 100000 < n.toNatClampNeg then none else some (.inl (nx, lo, .ref h.length :: r, h ++ [.inr (.inr (.inr (a, n.toNatClampNeg, fun _ => none)))])) | _ => none
  | .invokevirtual _ => match st[b - 1]? with
    | some (.ref x) => match h[x]? with
      | some (.inl (ci, _)) => if v = .retAddr ci ∧ ((st.drop b).map Value.category).sum ≤ 8 then some (.inr (.inl (a, (st.take b).reverse, nx, st.drop b))) else none
      | _ => none
    | some (.retAddr k) => if v = .retAddr 12 ∧ 10 ≤ k ∧ k < 10 + sT.length ∧ ((st.drop b).map Value.category).sum ≤ 8 then some (.inr (.inl (a, (st.take b).reverse, nx, st.drop b))) else none
    | _ => none
  | .invokestatic _ => if a = 901 then (match st with
      | .int n :: .int dp :: .ref x1 :: .int sp :: .ref x0 :: r => if (r.map Value.category).sum ≤ 8 then (match cpy h x0 sp x1 dp n with | some h' => some (.inl (nx, lo, r, h')) | none => none) else none
      | _ => none)
    else if a = 902 then (match st with
      | .int x :: r => if (r.map Value.category).sum ≤ 8 then some (.inl (nx, lo, .int (if 0 ≤ x then x else 0 - x) :: r, h)) else none
      | _ => none)
    else if a = 903 then (match st with
      | .int y :: .int x :: r => if (r.map Value.category).sum ≤ 8 then some (.inl (nx, lo, .int (if x < y then y else x) :: r, h)) else none
      | _ => none)
    else if a = 904 then (match st with
      | .int y :: .int x :: r => if (r.map Value.category).sum ≤ 8 then some (.inl (nx, lo, .int (if y < x then y else x) :: r, h)) else none
      | _ => none)
    else if b ≤ st.length ∧ ((st.drop b).map Value.category).sum ≤ 8 then some (.inr (.inl (a, (st.take b).reverse, nx, st.drop b))) else none
  | .invokespecial _ => if a = 900 then (match st with
      | .ref _ :: r => if (r.map Value.category).sum ≤ 8 then some (.inl (nx, lo, r, h)) else none
      | _ => none)
    else (match st[b - 1]? with
      | some (.ref _) => if ((st.drop b).map Value.category).sum ≤ 8 then some (.inr (.inl (a, (st.take b).reverse, nx, st.drop b))) else none
      | _ => none)
  | .ireturn => match st with | [.int x] => some (.inr (.inr (some (.int x)))) | _ => none
  | .lreturn => match st with | [.long x] => some (.inr (.inr (some (.long x)))) | _ => none
  | .areturn => match st with | [.ref x] => some (.inr (.inr (some (.ref x)))) | [.retAddr x] => some (.inr (.inr (some (.retAddr x)))) | _ => none
  | .return_ => match st with | [] => some (.inr (.inr none)) | _ => none
  | _ => none
def ent (mi : aM) (pc : Nat) : Option aE := match mi.1[pc / 16]? with
  | some l => match l[pc % 16]? with
    | some e => e
    | none => none
  | none => none
def sA (X : aX) (mi : aM) (pc : Nat) (lo st : List Value) (h : aH) : Option aR := match ent mi pc with
  | some e => stp X pc e lo st h
  | none => none
def rok (r : Option FieldType) (v : Option Value) : Bool := match r, v with
  | none, none => true
  | some .int, some (.int _) => true
  | some .boolean, some (.int x) => x == 0 || x == 1
  | some .char, some (.int x) => narrow .char (.int x) == .int x
  | some .byte, some (.int x) => narrow .byte (.int x) == .int x
  | some .long, some (.long _) => true
  | some (.object _), some (.ref _) => true
  | some (.object _), some (.retAddr _) => true
  | _, _ => false
/-- a method's locals at its entry -/
def elo : List Value → List Value
  | [] => []
  | .long x :: l => .long x :: .double 0 :: elo l
  | .double x :: l => .double x :: .double 0 :: elo l
  | v :: l => v :: elo l
def eL (mi : aM) (as : List Value) : List Value := elo as ++ List.replicate (mi.2.1 - (elo as).length) (.double 0)
def run (X : aX) : Nat → Nat → aM → Nat → List Value → List Value → aH → Option (Option Value × aH)
  | 0, _, _, _, _, _, _ => none
  | n + 1, d, mi, pc, lo, st, h => match sA X mi pc lo st h with
    | some (.inl (pc', lo', st', h')) => run X n d mi pc' lo' st' h'
    | some (.inr (.inl (y, as, nx, st'))) => match d, mT y with
      | d' + 1, some my => if (elo as).length ≤ my.2.1 then (match run X n d' my 0 (eL my as) [] h with
          | some (v, h1) => run X n (d' + 1) mi nx lo (v.toList ++ st') h1
          | none => none) else none
      | _, _ => none
    | some (.inr (.inr v)) => if rok mi.2.2.1 v = true then some (v, h) else none
    | none => none
theorem run_up (X : aX) : ∀ (n d : Nat) (mi : aM) (pc : Nat) (lo st : List Value) (h : aH) (r : Option Value × aH), run X n d mi pc lo st h = some r → ∀ (n' d' : Nat), n ≤ n' → d ≤ d' → run X n' d' mi pc lo st h = some r
  | 0, _, _, _, _, _, _, _, hr, _, _, _, _ => by simp [run] at hr
  | n + 1, d, mi, pc, lo, st, h, r, hr, n', d', hn, hd => by
    obtain ⟨k, rfl⟩ : ∃ k, n' = k + 1 := ⟨n' - 1, by omega⟩
    have hk : n ≤ k := by omega
    unfold run at hr ⊢
    cases hs : sA X mi pc lo st h with
    | none => rw [hs] at hr; simp at hr
    | some q =>
      rw [hs] at hr
      rcases q with ⟨pc', lo', st', h'⟩ | ⟨y, as, nx, st'⟩ | v
      · exact run_up X n d mi pc' lo' st' h' r hr k d' hk hd
      · dsimp only at hr ⊢
        cases d with
        | zero => simp at hr
        | succ d =>
          obtain ⟨j, rfl⟩ : ∃ j, d' = j + 1 := ⟨d' - 1, by omega⟩
          cases hy : mT y with
          | none => rw [hy] at hr; simp at hr
          | some my =>
            rw [hy] at hr
            dsimp only at hr ⊢
            by_cases hl : (elo as).length ≤ my.2.1
            · rw [if_pos hl] at hr ⊢
              cases hc : run X n d my 0 (eL my as) [] h with
              | none => rw [hc] at hr; simp at hr
              | some q =>
                obtain ⟨v, h1⟩ := q
                rw [hc] at hr
                rw [run_up X n d my 0 (eL my as) [] h (v, h1) hc k j hk (by omega)]
                exact run_up X n (d + 1) mi nx lo (v.toList ++ st') h1 r hr k (j + 1) hk hd
            · rw [if_neg hl] at hr; simp at hr
      · exact hr
/-- from here the method comes to an end with Q, with at most d calls open above it -/
def G (X : aX) (d : Nat) (mi : aM) (pc : Nat) (lo st : List Value) (h : aH) (Q : Option Value → aH → Prop) : Prop := ∃ (n : Nat) (v : Option Value) (h' : aH), run X n d mi pc lo st h = some (v, h') ∧ Q v h'
/-- a call of a method -/
def Sp (X : aX) (d : Nat) (mi : aM) (as : List Value) (h : aH) (Q : Option Value → aH → Prop) : Prop := G X d mi 0 (eL mi as) [] h Q
section GL
variable {X : aX} {d : Nat} {mi : aM} {pc : Nat} {lo st : List Value} {h : aH} {Q : Option Value → aH → Prop}
theorem G.up {d' : Nat} (k : G X d mi pc lo st h Q) (hd : d ≤ d') : G X d' mi pc lo st h Q := by
  obtain ⟨n, v, h', hr, hq⟩ := k
  exact ⟨n, v, h', run_up X n d mi pc lo st h (v, h') hr n d' (Nat.le_refl n) hd, hq⟩
theorem Sp.up {as : List Value} {d' : Nat} (k : Sp X d mi as h Q) (hd : d ≤ d') : Sp X d' mi as h Q := G.up k hd
theorem G.imp {Q' : Option Value → aH → Prop} (k : G X d mi pc lo st h Q) (hq : ∀ v h', Q v h' → Q' v h') : G X d mi pc lo st h Q' := by
  obtain ⟨n, v, h', hr, hv⟩ := k
  exact ⟨n, v, h', hr, hq v h' hv⟩
theorem Sp.imp {as : List Value} {Q' : Option Value → aH → Prop} (k : Sp X d mi as h Q) (hq : ∀ v h', Q v h' → Q' v h') : Sp X d mi as h Q' := G.imp k hq
/-- steps without a choice -/
theorem G.go {pc' : Nat} {lo' st' : List Value} {h' : aH} (hs : sA X mi pc lo st h = some (.inl (pc', lo', st', h'))) (k : G X d mi pc' lo' st' h' Q) : G X d mi pc lo st h Q := by
  obtain ⟨n, v, h1, hr, hq⟩ := k
  refine ⟨n + 1, v, h1, ?_, hq⟩
  unfold run
  rw [hs]
  exact hr
/-- a choice -/
theorem G.br {c : Prop} {ic : Decidable c} {t f : Nat} {lo' st' : List Value} {h' : aH} (hs : sA X mi pc lo st h = some (.inl (if c then t else f, lo', st', h'))) (kt : c → G X d mi t lo' st' h' Q) (kf : ¬ c → G X d mi f lo' st' h' Q) : G X d mi pc lo st h Q := by
  refine G.go hs ?_
  by_cases hc : c
  · rw [if_pos hc]; exact kt hc
  · rw [if_neg hc]; exact kf hc
theorem G.ret {v : Option Value} (hs : sA X mi pc lo st h = some (.inr (.inr v))) (hr : rok mi.2.2.1 v = true) (hq : Q v h) : G X d mi pc lo st h Q := by
  refine ⟨1, v, h, ?_, hq⟩
  unfold run
  rw [hs]
  exact if_pos hr
theorem G.call {y : Nat} {as : List Value} {nx : Nat} {st' : List Value} {my : aM} {Q' : Option Value → aH → Prop} (hs : sA X mi pc lo st h = some (.inr (.inl (y, as, nx, st')))) (hy : mT y = some my) (hl : (elo as).length ≤ my.2.1) (kc : Sp X d my as h Q') (k : ∀ v h', Q' v h' → G X (d + 1) mi nx lo (v.toList ++ st') h' Q) : G X (d + 1) mi pc lo st h Q := by
  obtain ⟨n1, v, h1, hr1, hq1⟩ := kc
  obtain ⟨n2, v2, h2, hr2, hq2⟩ := k v h1 hq1
  refine ⟨n1 + n2 + 1, v2, h2, ?_, hq2⟩
  unfold run
  rw [hs]
  dsimp only
  rw [hy]
  dsimp only
  rw [if_pos hl, run_up X n1 d my 0 (eL my as) [] h (v, h1) hr1 (n1 + n2) d (by omega) (Nat.le_refl d)]
  exact run_up X n2 (d + 1) mi nx lo _ h1 (v2, h2) hr2 (n1 + n2) (d + 1) (by omega) (Nat.le_refl _)
/-- an index, as a number -/
def ix (i : Int32) (n j : Nat) : Prop := ¬ i < 0 ∧ i.toNatClampNeg = j ∧ j < n
theorem ix_nI {n j : Nat} (h : j < n) (hn : n ≤ 2147483647) : ix (nI j) n j := ⟨nI_pos (by omega), nI_clamp (by omega), h⟩
theorem ix_no {i : Int32} {n j : Nat} (h : ix i n j) : ¬ (i < 0 ∨ n ≤ i.toNatClampNeg) := by
  obtain ⟨h1, h2, h3⟩ := h
  rintro (q | q)
  · exact h1 q
  · omega
theorem G.iald {nx a b : Nat} {v : Value} {i : Int32} {x : Nat} {r : List Value} {n j : Nat} {f : Nat → Int32} (he : ent mi pc = some (.iaload, nx, a, b, v)) (hc : h[x]? = some (.inr (.inl (n, f)))) (hi : ix i n j) (k : G X d mi nx lo (.int (f j) :: r) h Q) : G X d mi pc lo (.int i :: .ref x :: r) h Q := by
  refine G.go ?_ k
  simp only [sA, he, stp, hc]
  rw [if_neg (ix_no hi), hi.2.1]
theorem G.xald {nx a b : Nat} {v : Value} {i : Int32} {x : Nat} {r : List Value} {n j : Nat} {f : Nat → Int32} (he : ent mi pc = some (.iaload, nx, a, b, v)) (hc : xI X x = some (n, f)) (hi : ix i n j) (k : G X d mi nx lo (.int (f j) :: r) h Q) : G X d mi pc lo (.int i :: .retAddr x :: r) h Q := by
  refine G.go ?_ k
  simp only [sA, he, stp, hc]
  rw [if_neg (ix_no hi), hi.2.1]
theorem G.bald {nx a b : Nat} {v : Value} {i : Int32} {x : Nat} {r : List Value} {n j : Nat} {f : Nat → Int32} (he : ent mi pc = some (.baload, nx, a, b, v)) (hc : xB x = some (n, f)) (hi : ix i n j) (k : G X d mi nx lo (.int (f j) :: r) h Q) : G X d mi pc lo (.int i :: .retAddr x :: r) h Q := by
  refine G.go ?_ k
  simp only [sA, he, stp, hc]
  rw [if_neg (ix_no hi), hi.2.1]
theorem G.lald {nx a b : Nat} {v : Value} {i : Int32} {x : Nat} {r : List Value} {n j : Nat} {f : Nat → Int64} (he : ent mi pc = some (.laload, nx, a, b, v)) (hc : h[x]? = some (.inr (.inr (.inl (n, f))))) (hi : ix i n j) (k : G X d mi nx lo (.long (f j) :: r) h Q) : G X d mi pc lo (.int i :: .ref x :: r) h Q := by
  refine G.go ?_ k
  simp only [sA, he, stp, hc]
  rw [if_neg (ix_no hi), hi.2.1]
theorem G.aald {nx a b : Nat} {v : Value} {i : Int32} {x : Nat} {r : List Value} {t n j y : Nat} {f : Nat → Option Nat} (he : ent mi pc = some (.aaload, nx, a, b, v)) (hc : h[x]? = some (.inr (.inr (.inr (t, n, f))))) (ht : t < 2) (hi : ix i n j) (hy : f j = some y) (k : G X d mi nx lo (.ref y :: r) h Q) : G X d mi pc lo (.int i :: .ref x :: r) h Q := by
  refine G.go ?_ k
  simp only [sA, he, stp, hc]
  rw [if_neg (fun q => q.elim (fun q => absurd ht (by omega)) (ix_no hi)), hi.2.1, hy]
theorem G.iast {nx a b : Nat} {v : Value} {i w : Int32} {x : Nat} {r : List Value} {n j : Nat} {f : Nat → Int32} (he : ent mi pc = some (.iastore, nx, a, b, v)) (hc : h[x]? = some (.inr (.inl (n, f)))) (hi : ix i n j) (k : G X d mi nx lo r (h.set x (.inr (.inl (n, upd f j w)))) Q) : G X d mi pc lo (.int w :: .int i :: .ref x :: r) h Q := by
  refine G.go ?_ k
  simp only [sA, he, stp, hc]
  rw [if_neg (ix_no hi), hi.2.1]
theorem G.last {nx a b : Nat} {v : Value} {i : Int32} {w : Int64} {x : Nat} {r : List Value} {n j : Nat} {f : Nat → Int64} (he : ent mi pc = some (.lastore, nx, a, b, v)) (hc : h[x]? = some (.inr (.inr (.inl (n, f))))) (hi : ix i n j) (k : G X d mi nx lo r (h.set x (.inr (.inr (.inl (n, vp_updL f j w))))) Q) : G X d mi pc lo (.long w :: .int i :: .ref x :: r) h Q := by
  refine G.go ?_ k
  simp only [sA, he, stp, hc]
  rw [if_neg (ix_no hi), hi.2.1]
theorem G.get {nx a b i : Nat} {v w : Value} {x : Nat} {r : List Value} {fs : List Value} (he : ent mi pc = some (.getfield i, nx, a, b, v)) (hc : h[x]? = some (.inl (a, fs))) (hw : fs[b]? = some w) (k : G X d mi nx lo (w :: r) h Q) : G X d mi pc lo (.ref x :: r) h Q := by
  refine G.go ?_ k
  simp only [sA, he, stp, hc, hw, if_pos]
theorem G.put {nx a b i : Nat} {v w : Value} {x : Nat} {r : List Value} {fs : List Value} (he : ent mi pc = some (.putfield i, nx, a, b, v)) (hc : h[x]? = some (.inl (a, fs))) (hb : b < fs.length) (hk : fok v w = true) (k : G X d mi nx lo r (h.set x (.inl (a, fs.set b w))) Q) : G X d mi pc lo (w :: .ref x :: r) h Q := by
  refine G.go ?_ k
  simp only [sA, he, stp, hc]
  rw [if_pos ⟨trivial, hb, hk⟩]
end GL
/-- slots of the cells -/
def szc : aC → Nat
  | .inl (ci, _) => nF ci
  | .inr (.inl (n, _)) => n
  | .inr (.inr (.inl (n, _))) => n
  | .inr (.inr (.inr (_, n, _))) => n
def sz (h : aH) : Nat := (h.map szc).sum
end
section
/-! WHAT THE TABLES MUST BE, and that they are -/
/-- the words that may stand in a contract -/
def gT : List Cond := lw_tbl.filter goodWord
theorem gT_good : ∀ w ∈ gT, w ∈ lw_tbl ∧ goodWord w = true := fun w h => by
  unfold gT at h
  exact List.mem_filter.mp h
theorem gT_in {w : Cond} (i : Nat) (h : lw_tbl[i]? = some w) (hg : goodWord w = true) : w ∈ gT := List.mem_filter.mpr ⟨List.mem_of_getElem? h, hg⟩
def lnJ : Instr → Nat
  | .bipush _ => 2
  | .sipush _ => 3
  | .ldc _ => 2
  | .ldc_w _ => 3
  | .ldc2_w _ => 3
  | .getstatic _ => 3
  | .iload _ => 2
  | .lload _ => 2
  | .aload _ => 2
  | .istore _ => 2
  | .lstore _ => 2
  | .astore _ => 2
  | .iinc _ _ => 3
  | .ifCond _ _ => 3
  | .if_icmp _ _ => 3
  | .goto _ => 3
  | .getfield _ => 3
  | .putfield _ => 3
  | .new _ => 3
  | .newarray _ => 2
  | .anewarray _ => 3
  | .invokevirtual _ => 3
  | .invokestatic _ => 3
  | .invokespecial _ => 3
  | _ => 1
def npar (i : Nat) : Option Nat := (parseMethodDescriptor (mN i).1.desc).map (fun d => d.parameters.length)
/-- what an entry's own numbers must be, for a class o; ini: in a constructor -/
def okO (o : Nat) (ini : Bool) (pc : Nat) (e : aE) : Bool := match e with
  | (ins, nx, a, b, v) => match ins with
  | .iconst n => decide (v = .int (Int32.ofInt n))
  | .bipush n => decide (v = .int (Int8.ofInt n).toInt32)
  | .sipush n => decide (v = .int (Int16.ofInt n).toInt32)
  | .lconst n => decide (v = .long (Int64.ofNat n))
  | .ldc i => kL.any (fun q => decide (q.1 = o ∧ q.2.1 = i ∧ q.2.2.1 = v ∧ (∃ x ∈ (match v with | .int x => some x | _ => none), v = .int x))) || (o == 3 && (List.range 11).any (fun j => decide (v = .retAddr (10 + j) ∧ (sT.getD j (0, [])).1 = i)))
  | .ldc_w i => kL.any (fun q => decide (q.1 = o ∧ q.2.1 = i ∧ q.2.2.1 = v ∧ (∃ x ∈ (match v with | .int x => some x | _ => none), v = .int x)))
  | .ldc2_w i => kL.any (fun q => decide (q.1 = o ∧ q.2.1 = i ∧ q.2.2.1 = v ∧ (∃ x ∈ (match v with | .long x => some x | _ => none), v = .long x)))
  | .getstatic i => gS.any (fun q => decide (q.1 = o ∧ q.2.1 = i ∧ q.2.2.1 = v))
  | .iload i => decide (a = i)
  | .lload i => decide (a = i)
  | .aload i => decide (a = i)
  | .istore i => decide (a = i)
  | .lstore i => decide (a = i)
  | .astore i => decide (a = i)
  | .iload_n i => decide (a = i.val)
  | .lload_n i => decide (a = i.val)
  | .aload_n i => decide (a = i.val)
  | .istore_n i => decide (a = i.val)
  | .lstore_n i => decide (a = i.val)
  | .astore_n i => decide (a = i.val)
  | .iinc i n => decide (a = i ∧ v = .int (Int32.ofInt n))
  | .ifCond _ f => decide ((pc : Int) + f = a)
  | .if_icmp _ f => decide ((pc : Int) + f = a)
  | .goto f => decide ((pc : Int) + f = a)
  | .tableswitch d l u os => decide (0 ≤ (pc : Int) + d) && os.toList.all (fun f => decide (0 ≤ (pc : Int) + f)) && decide ((os.size : Int) = u - l + 1)
  | .lookupswitch d ps => decide (0 ≤ (pc : Int) + d) && ps.toList.all (fun f => decide (0 ≤ (pc : Int) + f.2)) && (ps.toList.zip (ps.toList.drop 1)).all (fun (a, next) => a.1 < next.1)
  | .getfield i => fL.any (fun q => decide (q.1 = o ∧ q.2.1 = i ∧ q.2.2.1 = a ∧ q.2.2.2.1 = b)) || (sL.any (fun q => decide (q.1 = o ∧ q.2.1 = i ∧ q.2.2.1 = b)) && decide (a = 100))
  | .putfield i => fL.any (fun q => decide (q.1 = o ∧ q.2.1 = i ∧ q.2.2.1 = a ∧ q.2.2.2.1 = b)) && (!(tF a b).2.2.2 || (ini && decide ((tF a b).1 = oN o))) && (match tY a b, v with | .int, .int x => decide (x = 0) | .boolean, .int x => decide (x = 1) | .object _, .null => true | .array _, .null => true | _, _ => false)
  | .new i => nL.any (fun q => decide (q.1 = o ∧ q.2.1 = i ∧ q.2.2.1 = a))
  | .anewarray i => nL.any (fun q => decide (q.1 = o ∧ q.2.1 = i ∧ q.2.2.1 = a + 1)) && decide (a < 2)
  | .invokevirtual i => mL.any (fun q => decide (q.1 = o ∧ q.2.1 = i ∧ q.2.2.1 = a ∧ q.2.2.2.1 = 0)) && decide (0 < b) && decide (npar a = some (b - 1)) && (match mT a with | some my => decide (v = .retAddr my.2.2.2.1) | none => false)
  | .invokestatic i => decide (a = 999) || (decide (a = 901) && m1.any (fun q => decide (q.1 = o ∧ q.2.1 = i))) || mm.any (fun q => decide (q.1 = o ∧ q.2.1 = i ∧ q.2.2.1 = a)) || (decide (a < 900) && decide (npar a = some b) && mL.any (fun q => decide (q.1 = o ∧ q.2.1 = i ∧ q.2.2.1 = a ∧ (q.2.2.2.1 = 1 ∨ q.2.2.2.1 = 3))))
  | .invokespecial i => (decide (a = 900) && m9.any (fun q => decide (q.1 = o ∧ q.2.1 = i))) || (decide (a < 900) && decide (0 < b) && decide (npar a = some (b - 1)) && mL.any (fun q => decide (q.1 = o ∧ q.2.1 = i ∧ q.2.2.1 = a ∧ (q.2.2.2.1 = 2 ∨ q.2.2.2.1 = 4))))
  | _ => true
/-- the bytes of a method, and an entry of ours -/
def okD (cc : ByteArray) (pc : Nat) (e : aE) : Bool := match e with
  | (ins, nx, _, _, _) => match ins with
    | .tableswitch _ _ _ _ => decide (decode cc pc = .ok (ins, nx - pc))
    | .lookupswitch _ _ => decide (decode cc pc = .ok (ins, nx - pc))
    | _ => decide (nx = pc + lnJ ins) && decide (decode cc pc = .ok (ins, lnJ ins))
def okE (cc : ByteArray) (o : Nat) (ini : Bool) (pc : Nat) (e : aE) : Bool := okD cc pc e && okO o ini pc e
/-- all entries of a list, the first of which stands at pc -/
def okL (cc : ByteArray) (o : Nat) (ini : Bool) : Nat → List (Option aE) → Bool
  | _, [] => true
  | pc, some e :: l => okE cc o ini pc e && okL cc o ini (pc + 1) l
  | pc, none :: l => okL cc o ini (pc + 1) l
def okC (cc : ByteArray) (o : Nat) (ini : Bool) : Nat → List (List (Option aE)) → Bool
  | _, [] => true
  | pc, c :: l => okL cc o ini pc c && (decide (c.length ≤ 16) && okC cc o ini (pc + 16) l)
theorem okL_at {cc : ByteArray} {o : Nat} {ini : Bool} : ∀ {l : List (Option aE)} {pc k : Nat} {e : aE}, okL cc o ini pc l = true → l[k]? = some (some e) → okE cc o ini (pc + k) e = true
  | [], _, _, _, _, hk => by simp at hk
  | some x :: l, pc, 0, e, h, hk => by
    simp only [okL, Bool.and_eq_true] at h
    simp at hk
    subst hk
    exact h.1
  | none :: l, pc, 0, e, h, hk => by simp at hk
  | some x :: l, pc, k + 1, e, h, hk => by
    simp only [okL, Bool.and_eq_true] at h
    have := okL_at (pc := pc + 1) (k := k) h.2 (by simpa using hk)
    rwa [show pc + (k + 1) = pc + 1 + k by omega]
  | none :: l, pc, k + 1, e, h, hk => by
    simp only [okL] at h
    have := okL_at (pc := pc + 1) (k := k) h (by simpa using hk)
    rwa [show pc + (k + 1) = pc + 1 + k by omega]
theorem okC_at {cc : ByteArray} {o : Nat} {ini : Bool} : ∀ {l : List (List (Option aE))} {pc k : Nat} {c : List (Option aE)}, okC cc o ini pc l = true → l[k]? = some c → okL cc o ini (pc + 16 * k) c = true
  | [], _, _, _, _, hk => by simp at hk
  | x :: l, pc, 0, c, h, hk => by
    simp only [okC, Bool.and_eq_true] at h
    simp at hk
    subst hk
    exact h.1
  | x :: l, pc, k + 1, c, h, hk => by
    simp only [okC, Bool.and_eq_true] at h
    have := okC_at (pc := pc + 16) (k := k) h.2.2 (by simpa using hk)
    rwa [show pc + 16 * (k + 1) = pc + 16 + 16 * k by omega]
theorem ent_ok {cc : ByteArray} {ini : Bool} {mi : aM} (h : okC cc mi.2.2.2.1 ini 0 mi.1 = true) {pc : Nat} {e : aE} (he : ent mi pc = some e) : okE cc mi.2.2.2.1 ini pc e = true := by
  unfold ent at he
  cases h1 : mi.1[pc / 16]? with
  | none => rw [h1] at he; simp at he
  | some c =>
    rw [h1] at he
    simp only at he
    cases h2 : c[pc % 16]? with
    | none => rw [h2] at he; simp at he
    | some x =>
      rw [h2] at he
      simp only at he
      subst he
      have := okL_at (okC_at h h1) h2
      rwa [show 0 + 16 * (pc / 16) + pc % 16 = pc by omega] at this
/-- what a method's own words must be -/
def okW (i : Nat) : Bool := match mT i with
  | none => true
  | some my => decide (my.2.2.2.2 = i) && decide (lw_tbl[(mP i).2.2.2]? = some (.initialized (mN i).1.cls)) && decide ((mN i).1.cls = oN my.2.2.2.1) && plainName (mN i).1.cls && decide ((mN i).1.cls ≠ "java/lang/invoke/MethodHandle" ∧ (mN i).1.cls ≠ "java/lang/invoke/VarHandle") && decide (my.2.1 ≤ 40) && decide (ini i = true → (mN i).1.name = "<init>")
end
section
theorem qX0_init : okC cX0_init 0 true 0 kX0_init.1 = true := by decide +kernel
theorem qX0_walk : okC cX0_walk 0 false 0 kX0_walk.1 = true := by decide +kernel
theorem qX0_findTwins : okC cX0_findTwins 0 false 0 kX0_findTwins.1 = true := by decide +kernel
theorem qX0_saying : okC cX0_saying 0 false 0 kX0_saying.1 = true := by decide +kernel
theorem qX0_hangNext : okC cX0_hangNext 0 false 0 kX0_hangNext.1 = true := by decide +kernel
theorem qX0_mayHang : okC cX0_mayHang 0 false 0 kX0_mayHang.1 = true := by decide +kernel
theorem qX0_isHanging : okC cX0_isHanging 0 false 0 kX0_isHanging.1 = true := by decide +kernel
theorem qX0_arrive : okC cX0_arrive 0 false 0 kX0_arrive.1 = true := by decide +kernel
theorem qX0_arrangeNearest : okC cX0_arrangeNearest 0 false 0 kX0_arrangeNearest.1 = true := by decide +kernel
theorem qX0_unlikeWorths : okC cX0_unlikeWorths 0 false 0 kX0_unlikeWorths.1 = true := by decide +kernel
theorem qX0_meaningsMet : okC cX0_meaningsMet 0 false 0 kX0_meaningsMet.1 = true := by decide +kernel
theorem qX0_meaningBit : okC cX0_meaningBit 0 false 0 kX0_meaningBit.1 = true := by decide +kernel
theorem qX1_init : okC cX1_init 1 true 0 kX1_init.1 = true := by decide +kernel
theorem qX1_clear : okC cX1_clear 1 false 0 kX1_clear.1 = true := by decide +kernel
theorem qX1_add : okC cX1_add 1 false 0 kX1_add.1 = true := by decide +kernel
theorem qX1_put : okC cX1_put 1 false 0 kX1_put.1 = true := by decide +kernel
theorem qX1_remove : okC cX1_remove 1 false 0 kX1_remove.1 = true := by decide +kernel
theorem qX1_exchange : okC cX1_exchange 1 false 0 kX1_exchange.1 = true := by decide +kernel
theorem qX1_become : okC cX1_become 1 false 0 kX1_become.1 = true := by decide +kernel
theorem qX1_isSeenAt : okC cX1_isSeenAt 1 false 0 kX1_isSeenAt.1 = true := by decide +kernel
theorem qX1_pegsLike : okC cX1_pegsLike 1 false 0 kX1_pegsLike.1 = true := by decide +kernel
theorem qX1_dry : okC cX1_dry 1 false 0 kX1_dry.1 = true := by decide +kernel
theorem qX2_init : okC cX2_init 2 true 0 kX2_init.1 = true := by decide +kernel
theorem qX2_begin : okC cX2_begin 2 false 0 kX2_begin.1 = true := by decide +kernel
theorem qX2_put : okC cX2_put 2 false 0 kX2_put.1 = true := by decide +kernel
theorem qX2_hasRange : okC cX2_hasRange 2 false 0 kX2_hasRange.1 = true := by decide +kernel
theorem qX3_init : okC cX3_init 3 true 0 kX3_init.1 = true := by decide +kernel
theorem qX3_add : okC cX3_add 3 false 0 kX3_add.1 = true := by decide +kernel
theorem qX3_tell : okC cX3_tell 3 false 0 kX3_tell.1 = true := by decide +kernel
theorem qX3_lineItem : okC cX3_lineItem 3 false 0 kX3_lineItem.1 = true := by decide +kernel
theorem qX3_garment : okC cX3_garment 3 false 0 kX3_garment.1 = true := by decide +kernel
theorem qX3_windItem : okC cX3_windItem 3 false 0 kX3_windItem.1 = true := by decide +kernel
theorem qX3_meaningItem : okC cX3_meaningItem 3 false 0 kX3_meaningItem.1 = true := by decide +kernel
theorem qX3_forgetItem : okC cX3_forgetItem 3 false 0 kX3_forgetItem.1 = true := by decide +kernel
theorem qX3_takeNumber : okC cX3_takeNumber 3 false 0 kX3_takeNumber.1 = true := by decide +kernel
theorem qX3_kindTold : okC cX3_kindTold 3 false 0 kX3_kindTold.1 = true := by decide +kernel
theorem qX3_kindName : okC cX3_kindName 3 false 0 kX3_kindName.1 = true := by decide +kernel
theorem qX3_isWord : okC cX3_isWord 3 false 0 kX3_isWord.1 = true := by decide +kernel
theorem qX3_step : okC cX3_step 3 false 0 kX3_step.1 = true := by decide +kernel
theorem qX3_numberHere : okC cX3_numberHere 3 false 0 kX3_numberHere.1 = true := by decide +kernel
theorem qX3_sortOf : okC cX3_sortOf 3 false 0 kX3_sortOf.1 = true := by decide +kernel
theorem qX4_init : okC cX4_init 4 true 0 kX4_init.1 = true := by decide +kernel
theorem qX4_become : okC cX4_become 4 false 0 kX4_become.1 = true := by decide +kernel
theorem qX4_garments : okC cX4_garments 4 false 0 kX4_garments.1 = true := by decide +kernel
theorem qX4_letDaysGo : okC cX4_letDaysGo 4 false 0 kX4_letDaysGo.1 = true := by decide +kernel
theorem qX4_hasNumber : okC cX4_hasNumber 4 false 0 kX4_hasNumber.1 = true := by decide +kernel
theorem qX4_meaningsTold : okC cX4_meaningsTold 4 false 0 kX4_meaningsTold.1 = true := by decide +kernel
theorem qX4_readAs : okC cX4_readAs 4 false 0 kX4_readAs.1 = true := by decide +kernel
theorem qX4_leastDifference : okC cX4_leastDifference 4 false 0 kX4_leastDifference.1 = true := by decide +kernel
theorem qX5_init : okC cX5_init 5 true 0 kX5_init.1 = true := by decide +kernel
theorem qX5_begin : okC cX5_begin 5 false 0 kX5_begin.1 = true := by decide +kernel
theorem qX5_hear : okC cX5_hear 5 false 0 kX5_hear.1 = true := by decide +kernel
theorem qX5_hearGarment : okC cX5_hearGarment 5 false 0 kX5_hearGarment.1 = true := by decide +kernel
theorem qX6_init : okC cX6_init 6 true 0 kX6_init.1 = true := by decide +kernel
theorem qX6_hang : okC cX6_hang 6 false 0 kX6_hang.1 = true := by decide +kernel
theorem qX6_off : okC cX6_off 6 false 0 kX6_off.1 = true := by decide +kernel
theorem qX6_of : okC cX6_of 6 false 0 kX6_of.1 = true := by decide +kernel
theorem qX6_set : okC cX6_set 6 false 0 kX6_set.1 = true := by decide +kernel
theorem qX6_turn : okC cX6_turn 6 false 0 kX6_turn.1 = true := by decide +kernel
theorem qX6_as : okC cX6_as 6 false 0 kX6_as.1 = true := by decide +kernel
theorem qX6_swap : okC cX6_swap 6 false 0 kX6_swap.1 = true := by decide +kernel
theorem qX6_take : okC cX6_take 6 false 0 kX6_take.1 = true := by decide +kernel
theorem qX6_like : okC cX6_like 6 false 0 kX6_like.1 = true := by decide +kernel
theorem qX6_wind : okC cX6_wind 6 false 0 kX6_wind.1 = true := by decide +kernel
theorem qX6_days : okC cX6_days 6 false 0 kX6_days.1 = true := by decide +kernel
theorem qX6_means : okC cX6_means 6 false 0 kX6_means.1 = true := by decide +kernel
theorem qX6_forget : okC cX6_forget 6 false 0 kX6_forget.1 = true := by decide +kernel
theorem qX6_number : okC cX6_number 6 false 0 kX6_number.1 = true := by decide +kernel
theorem qX6_read : okC cX6_read 6 false 0 kX6_read.1 = true := by decide +kernel
theorem qX6_apart : okC cX6_apart 6 false 0 kX6_apart.1 = true := by decide +kernel
theorem qX6_worth : okC cX6_worth 6 false 0 kX6_worth.1 = true := by decide +kernel
theorem qX6_worthIn : okC cX6_worthIn 6 false 0 kX6_worthIn.1 = true := by decide +kernel
theorem qX6_says : okC cX6_says 6 false 0 kX6_says.1 = true := by decide +kernel
theorem qX6_winds : okC cX6_winds 6 false 0 kX6_winds.1 = true := by decide +kernel
theorem qX6_lost : okC cX6_lost 6 false 0 kX6_lost.1 = true := by decide +kernel
theorem qX6_fewest : okC cX6_fewest 6 false 0 kX6_fewest.1 = true := by decide +kernel
theorem qX6_which : okC cX6_which 6 false 0 kX6_which.1 = true := by decide +kernel
theorem qX6_more : okC cX6_more 6 false 0 kX6_more.1 = true := by decide +kernel
theorem qX6_orders : okC cX6_orders 6 false 0 kX6_orders.1 = true := by decide +kernel
theorem qX6_most : okC cX6_most 6 false 0 kX6_most.1 = true := by decide +kernel
theorem qX6_least : okC cX6_least 6 false 0 kX6_least.1 = true := by decide +kernel
theorem qX6_order : okC cX6_order 6 false 0 kX6_order.1 = true := by decide +kernel
theorem qX6_worths : okC cX6_worths 6 false 0 kX6_worths.1 = true := by decide +kernel
theorem qX6_can : okC cX6_can 6 false 0 kX6_can.1 = true := by decide +kernel
theorem qX6_join : okC cX6_join 6 false 0 kX6_join.1 = true := by decide +kernel
theorem qX6_same : okC cX6_same 6 false 0 kX6_same.1 = true := by decide +kernel
theorem qX6_best : okC cX6_best 6 false 0 kX6_best.1 = true := by decide +kernel
theorem qX6_feed : okC cX6_feed 6 false 0 kX6_feed.1 = true := by decide +kernel
theorem qX6_wipe : okC cX6_wipe 6 false 0 kX6_wipe.1 = true := by decide +kernel
theorem qX6_town : okC cX6_town 6 false 0 kX6_town.1 = true := by decide +kernel
theorem qX6_sheet : okC cX6_sheet 6 false 0 kX6_sheet.1 = true := by decide +kernel
theorem qX6_write : okC cX6_write 6 false 0 kX6_write.1 = true := by decide +kernel
theorem qX6_copy : okC cX6_copy 6 false 0 kX6_copy.1 = true := by decide +kernel
theorem qX6_lays : okC cX6_lays 6 false 0 kX6_lays.1 = true := by decide +kernel
theorem qX6_show : okC cX6_show 6 false 0 kX6_show.1 = true := by decide +kernel
theorem qX6_check : okC cX6_check 6 false 0 kX6_check.1 = true := by decide +kernel
theorem qX6_image : okC cX6_image 6 false 0 kX6_image.1 = true := by decide +kernel
theorem qX6_undo : okC cX6_undo 6 false 0 kX6_undo.1 = true := by decide +kernel
theorem qX6_tear : okC cX6_tear 6 false 0 kX6_tear.1 = true := by decide +kernel
theorem qX6_count : okC cX6_count 6 false 0 kX6_count.1 = true := by decide +kernel
theorem qX6_status : okC cX6_status 6 false 0 kX6_status.1 = true := by decide +kernel
theorem qX6_finding : okC cX6_finding 6 false 0 kX6_finding.1 = true := by decide +kernel
theorem qX6_isGarment : okC cX6_isGarment 6 false 0 kX6_isGarment.1 = true := by decide +kernel
theorem qX6_sheetFinding : okC cX6_sheetFinding 6 false 0 kX6_sheetFinding.1 = true := by decide +kernel
theorem qX6_sheetAndLineFinding : okC cX6_sheetAndLineFinding 6 false 0 kX6_sheetAndLineFinding.1 = true := by decide +kernel
theorem qX6_isWithin : okC cX6_isWithin 6 false 0 kX6_isWithin.1 = true := by decide +kernel
theorem qX6_isLine : okC cX6_isLine 6 false 0 kX6_isLine.1 = true := by decide +kernel
theorem qX6_isKind : okC cX6_isKind 6 false 0 kX6_isKind.1 = true := by decide +kernel
theorem qX6_isSize : okC cX6_isSize 6 false 0 kX6_isSize.1 = true := by decide +kernel
theorem qX6_isWind : okC cX6_isWind 6 false 0 kX6_isWind.1 = true := by decide +kernel
theorem qX6_isMeaning : okC cX6_isMeaning 6 false 0 kX6_isMeaning.1 = true := by decide +kernel
theorem qX6_isWorth : okC cX6_isWorth 6 false 0 kX6_isWorth.1 = true := by decide +kernel
theorem qX6_isSheet : okC cX6_isSheet 6 false 0 kX6_isSheet.1 = true := by decide +kernel
theorem qX6_isBits : okC cX6_isBits 6 false 0 kX6_isBits.1 = true := by decide +kernel
theorem qX6_isGarmentCode : okC cX6_isGarmentCode 6 false 0 kX6_isGarmentCode.1 = true := by decide +kernel
theorem qX6_isOfKind : okC cX6_isOfKind 6 false 0 kX6_isOfKind.1 = true := by decide +kernel
theorem qX6_isSeen : okC cX6_isSeen 6 false 0 kX6_isSeen.1 = true := by decide +kernel
theorem qX6_worthAfter : okC cX6_worthAfter 6 false 0 kX6_worthAfter.1 = true := by decide +kernel
theorem qX6_stockingsAfter : okC cX6_stockingsAfter 6 false 0 kX6_stockingsAfter.1 = true := by decide +kernel
theorem qX6_held : okC cX6_held 6 false 0 kX6_held.1 = true := by decide +kernel
theorem qX6_worthOf : okC cX6_worthOf 6 false 0 kX6_worthOf.1 = true := by decide +kernel
theorem qX6_worthBehind : okC cX6_worthBehind 6 false 0 kX6_worthBehind.1 = true := by decide +kernel
theorem qX6_worthJoined : okC cX6_worthJoined 6 false 0 kX6_worthJoined.1 = true := by decide +kernel
theorem qX6_readNow : okC cX6_readNow 6 false 0 kX6_readNow.1 = true := by decide +kernel
theorem qX6_readWithout : okC cX6_readWithout 6 false 0 kX6_readWithout.1 = true := by decide +kernel
theorem qX6_readWithOneMore : okC cX6_readWithOneMore 6 false 0 kX6_readWithOneMore.1 = true := by decide +kernel
theorem qX6_windsReadAs : okC cX6_windsReadAs 6 false 0 kX6_windsReadAs.1 = true := by decide +kernel
theorem qX6_fewestOff : okC cX6_fewestOff 6 false 0 kX6_fewestOff.1 = true := by decide +kernel
theorem qX7_init : okC cX7_init 7 true 0 kX7_init.1 = true := by decide +kernel
theorem qX7_isIn : okC cX7_isIn 7 false 0 kX7_isIn.1 = true := by decide +kernel
theorem qX7_finds : okC cX7_finds 7 false 0 kX7_finds.1 = true := by decide +kernel
theorem qX7_becomes : okC cX7_becomes 7 false 0 kX7_becomes.1 = true := by decide +kernel
theorem qX7_isLine : okC cX7_isLine 7 false 0 kX7_isLine.1 = true := by decide +kernel
theorem qX7_isPeg : okC cX7_isPeg 7 false 0 kX7_isPeg.1 = true := by decide +kernel
theorem qX7_isMeaning : okC cX7_isMeaning 7 false 0 kX7_isMeaning.1 = true := by decide +kernel
theorem qX7_placeOf : okC cX7_placeOf 7 false 0 kX7_placeOf.1 = true := by decide +kernel
theorem qX7_copyRow : okC cX7_copyRow 7 false 0 kX7_copyRow.1 = true := by decide +kernel
theorem qX7_apartBy : okC cX7_apartBy 7 false 0 kX7_apartBy.1 = true := by decide +kernel
theorem qX7_hangs : okC cX7_hangs 7 false 0 kX7_hangs.1 = true := by decide +kernel
theorem qX7_isGarment : okC cX7_isGarment 7 false 0 kX7_isGarment.1 = true := by decide +kernel
theorem qX7_hang : okC cX7_hang 7 false 0 kX7_hang.1 = true := by decide +kernel
theorem qX7_off : okC cX7_off 7 false 0 kX7_off.1 = true := by decide +kernel
theorem qX7_lays : okC cX7_lays 7 false 0 kX7_lays.1 = true := by decide +kernel
theorem qX7_isSeen : okC cX7_isSeen 7 false 0 kX7_isSeen.1 = true := by decide +kernel
theorem qX7_kept : okC cX7_kept 7 false 0 kX7_kept.1 = true := by decide +kernel
theorem qX7_isStocking : okC cX7_isStocking 7 false 0 kX7_isStocking.1 = true := by decide +kernel
theorem qX7_becomesBy : okC cX7_becomesBy 7 false 0 kX7_becomesBy.1 = true := by decide +kernel
theorem qX7_worthOfFirst : okC cX7_worthOfFirst 7 false 0 kX7_worthOfFirst.1 = true := by decide +kernel
theorem qX7_worthBy : okC cX7_worthBy 7 false 0 kX7_worthBy.1 = true := by decide +kernel
theorem qX7_worthAside : okC cX7_worthAside 7 false 0 kX7_worthAside.1 = true := by decide +kernel
theorem qX7_readAs : okC cX7_readAs 7 false 0 kX7_readAs.1 = true := by decide +kernel
theorem qX7_of : okC cX7_of 7 false 0 kX7_of.1 = true := by decide +kernel
theorem qX7_set : okC cX7_set 7 false 0 kX7_set.1 = true := by decide +kernel
theorem qX7_turn : okC cX7_turn 7 false 0 kX7_turn.1 = true := by decide +kernel
theorem qX7_isUnder : okC cX7_isUnder 7 false 0 kX7_isUnder.1 = true := by decide +kernel
theorem qX7_as : okC cX7_as 7 false 0 kX7_as.1 = true := by decide +kernel
theorem qX7_swap : okC cX7_swap 7 false 0 kX7_swap.1 = true := by decide +kernel
theorem qX7_take : okC cX7_take 7 false 0 kX7_take.1 = true := by decide +kernel
theorem qX7_hangsAside : okC cX7_hangsAside 7 false 0 kX7_hangsAside.1 = true := by decide +kernel
theorem qX7_like : okC cX7_like 7 false 0 kX7_like.1 = true := by decide +kernel
theorem qX7_wind : okC cX7_wind 7 false 0 kX7_wind.1 = true := by decide +kernel
theorem qX7_garments : okC cX7_garments 7 false 0 kX7_garments.1 = true := by decide +kernel
theorem qX7_days : okC cX7_days 7 false 0 kX7_days.1 = true := by decide +kernel
theorem qX7_means : okC cX7_means 7 false 0 kX7_means.1 = true := by decide +kernel
theorem qX7_forget : okC cX7_forget 7 false 0 kX7_forget.1 = true := by decide +kernel
theorem qX7_number : okC cX7_number 7 false 0 kX7_number.1 = true := by decide +kernel
theorem qX7_orNone : okC cX7_orNone 7 false 0 kX7_orNone.1 = true := by decide +kernel
theorem qX7_read : okC cX7_read 7 false 0 kX7_read.1 = true := by decide +kernel
theorem qX7_apart : okC cX7_apart 7 false 0 kX7_apart.1 = true := by decide +kernel
theorem qX7_worth : okC cX7_worth 7 false 0 kX7_worth.1 = true := by decide +kernel
theorem qX7_worthIn : okC cX7_worthIn 7 false 0 kX7_worthIn.1 = true := by decide +kernel
theorem qX7_says : okC cX7_says 7 false 0 kX7_says.1 = true := by decide +kernel
theorem qX7_windsOf : okC cX7_windsOf 7 false 0 kX7_windsOf.1 = true := by decide +kernel
theorem qX7_winds : okC cX7_winds 7 false 0 kX7_winds.1 = true := by decide +kernel
theorem qX7_laysBut : okC cX7_laysBut 7 false 0 kX7_laysBut.1 = true := by decide +kernel
theorem qX7_lost : okC cX7_lost 7 false 0 kX7_lost.1 = true := by decide +kernel
theorem qX7_manyIn : okC cX7_manyIn 7 false 0 kX7_manyIn.1 = true := by decide +kernel
theorem qX7_fewestSet : okC cX7_fewestSet 7 false 0 kX7_fewestSet.1 = true := by decide +kernel
theorem qX7_fewest : okC cX7_fewest 7 false 0 kX7_fewest.1 = true := by decide +kernel
theorem qX7_which : okC cX7_which 7 false 0 kX7_which.1 = true := by decide +kernel
theorem qX7_more : okC cX7_more 7 false 0 kX7_more.1 = true := by decide +kernel
theorem qX7_beginsOrders : okC cX7_beginsOrders 7 false 0 kX7_beginsOrders.1 = true := by decide +kernel
theorem qX7_hasNext : okC cX7_hasNext 7 false 0 kX7_hasNext.1 = true := by decide +kernel
theorem qX7_swapsOrder : okC cX7_swapsOrder 7 false 0 kX7_swapsOrder.1 = true := by decide +kernel
theorem qX7_laysOrder : okC cX7_laysOrder 7 false 0 kX7_laysOrder.1 = true := by decide +kernel
theorem qX7_orders : okC cX7_orders 7 false 0 kX7_orders.1 = true := by decide +kernel
theorem qX7_furthest : okC cX7_furthest 7 false 0 kX7_furthest.1 = true := by decide +kernel
theorem qX7_most : okC cX7_most 7 false 0 kX7_most.1 = true := by decide +kernel
theorem qX7_least : okC cX7_least 7 false 0 kX7_least.1 = true := by decide +kernel
theorem qX7_notesOrder : okC cX7_notesOrder 7 false 0 kX7_notesOrder.1 = true := by decide +kernel
theorem qX7_order : okC cX7_order 7 false 0 kX7_order.1 = true := by decide +kernel
theorem qX7_worths : okC cX7_worths 7 false 0 kX7_worths.1 = true := by decide +kernel
theorem qX7_can : okC cX7_can 7 false 0 kX7_can.1 = true := by decide +kernel
theorem qX7_join : okC cX7_join 7 false 0 kX7_join.1 = true := by decide +kernel
theorem qX7_same : okC cX7_same 7 false 0 kX7_same.1 = true := by decide +kernel
theorem qX7_best : okC cX7_best 7 false 0 kX7_best.1 = true := by decide +kernel
theorem qX7_feed : okC cX7_feed 7 false 0 kX7_feed.1 = true := by decide +kernel
theorem qX7_wipe : okC cX7_wipe 7 false 0 kX7_wipe.1 = true := by decide +kernel
theorem qX7_isLetter : okC cX7_isLetter 7 false 0 kX7_isLetter.1 = true := by decide +kernel
theorem qX7_isDigit : okC cX7_isDigit 7 false 0 kX7_isDigit.1 = true := by decide +kernel
theorem qX7_byteAt : okC cX7_byteAt 7 false 0 kX7_byteAt.1 = true := by decide +kernel
theorem qX7_nextToken : okC cX7_nextToken 7 false 0 kX7_nextToken.1 = true := by decide +kernel
theorem qX7_has3 : okC cX7_has3 7 false 0 kX7_has3.1 = true := by decide +kernel
theorem qX7_isWord : okC cX7_isWord 7 false 0 kX7_isWord.1 = true := by decide +kernel
theorem qX7_fails : okC cX7_fails 7 false 0 kX7_fails.1 = true := by decide +kernel
theorem qX7_isFour : okC cX7_isFour 7 false 0 kX7_isFour.1 = true := by decide +kernel
theorem qX7_isFive : okC cX7_isFive 7 false 0 kX7_isFive.1 = true := by decide +kernel
theorem qX7_isSix : okC cX7_isSix 7 false 0 kX7_isSix.1 = true := by decide +kernel
theorem qX7_kindHere : okC cX7_kindHere 7 false 0 kX7_kindHere.1 = true := by decide +kernel
theorem qX7_isNumber : okC cX7_isNumber 7 false 0 kX7_isNumber.1 = true := by decide +kernel
theorem qX7_garmentHere : okC cX7_garmentHere 7 false 0 kX7_garmentHere.1 = true := by decide +kernel
theorem qX7_lineHere : okC cX7_lineHere 7 false 0 kX7_lineHere.1 = true := by decide +kernel
theorem qX7_windHere : okC cX7_windHere 7 false 0 kX7_windHere.1 = true := by decide +kernel
theorem qX7_meaningHere : okC cX7_meaningHere 7 false 0 kX7_meaningHere.1 = true := by decide +kernel
theorem qX7_forgetHere : okC cX7_forgetHere 7 false 0 kX7_forgetHere.1 = true := by decide +kernel
theorem qX7_itemHere : okC cX7_itemHere 7 false 0 kX7_itemHere.1 = true := by decide +kernel
theorem qX7_town : okC cX7_town 7 false 0 kX7_town.1 = true := by decide +kernel
theorem qX7_isSheet : okC cX7_isSheet 7 false 0 kX7_isSheet.1 = true := by decide +kernel
theorem qX7_narrow : okC cX7_narrow 7 false 0 kX7_narrow.1 = true := by decide +kernel
theorem qX7_sheet : okC cX7_sheet 7 false 0 kX7_sheet.1 = true := by decide +kernel
theorem qX7_write : okC cX7_write 7 false 0 kX7_write.1 = true := by decide +kernel
theorem qX7_copy : okC cX7_copy 7 false 0 kX7_copy.1 = true := by decide +kernel
theorem qX7_wants : okC cX7_wants 7 false 0 kX7_wants.1 = true := by decide +kernel
theorem qX7_lays_ : okC cX7_lays_ 7 false 0 kX7_lays_.1 = true := by decide +kernel
theorem qX7_show : okC cX7_show 7 false 0 kX7_show.1 = true := by decide +kernel
theorem qX7_check : okC cX7_check 7 false 0 kX7_check.1 = true := by decide +kernel
theorem qX7_image : okC cX7_image 7 false 0 kX7_image.1 = true := by decide +kernel
theorem qX7_undo : okC cX7_undo 7 false 0 kX7_undo.1 = true := by decide +kernel
theorem qX7_tear : okC cX7_tear 7 false 0 kX7_tear.1 = true := by decide +kernel
theorem qX7_count : okC cX7_count 7 false 0 kX7_count.1 = true := by decide +kernel
theorem qX7_status : okC cX7_status 7 false 0 kX7_status.1 = true := by decide +kernel
theorem qJ6_bitCount_0f7a4 : okC cJ6_bitCount_0f7a4 9 false 0 kJ6_bitCount_0f7a4.1 = true := by decide +kernel
theorem qJ13_bitCount_95d88 : okC cJ13_bitCount_95d88 10 false 0 kJ13_bitCount_95d88.1 = true := by decide +kernel
theorem qJ0_length_8abf5 : okC cJ0_length_8abf5 12 false 0 kJ0_length_8abf5.1 = true := by decide +kernel
theorem qJ0_charAt_5068e : okC cJ0_charAt_5068e 12 false 0 kJ0_charAt_5068e.1 = true := by decide +kernel
theorem qJ0_coder_7d493 : okC cJ0_coder_7d493 12 false 0 kJ0_coder_7d493.1 = true := by decide +kernel
theorem qJ0_isLatin1_aae02 : okC cJ0_isLatin1_aae02 12 false 0 kJ0_isLatin1_aae02.1 = true := by decide +kernel
theorem qJ0_checkIndex_df160 : okC cJ0_checkIndex_df160 12 false 0 kJ0_checkIndex_df160.1 = true := by decide +kernel
theorem qJ1_charAt_3b067 : okC cJ1_charAt_3b067 13 false 0 kJ1_charAt_3b067.1 = true := by decide +kernel
theorem qJ7_fill_d0a16 : okC cJ7_fill_d0a16 14 false 0 kJ7_fill_d0a16.1 = true := by decide +kernel
theorem qJ7_fill_53178 : okC cJ7_fill_53178 14 false 0 kJ7_fill_53178.1 = true := by decide +kernel
theorem qJ3_checkIndex_8e157 : okC cJ3_checkIndex_8e157 15 false 0 kJ3_checkIndex_8e157.1 = true := by decide +kernel
end
section
theorem mT_lt {i : Nat} {my : aM} (h : mT i = some my) : i < 242 := by
  unfold mT at h
  cases h1 : mTl[i / 16]? with
  | none => rw [h1] at h; cases h
  | some c =>
    rw [h1] at h
    have h2 : c[i % 16]? = some my := h
    have h3 := (List.getElem?_eq_some_iff.mp h1).1
    have h4 := (List.getElem?_eq_some_iff.mp h2).1
    have e1 : mTl.length = 16 := rfl
    by_cases hq : i / 16 = 15
    · rw [hq] at h1
      have h1 : some [_, _] = some c := h1
      have h5 : c.length = 2 := by cases h1; rfl
      omega
    · omega
theorem allC_0 : ∀ k, k < 16 → ∀ my, mT (16 * 0 + k) = some my → okC (mN (16 * 0 + k)).2 my.2.2.2.1 (ini (16 * 0 + k)) 0 my.1 = true := by
  intro k hk my h
  match k, hk with
  | 0, _ => cases h; exact qX0_init
  | 1, _ => cases h; exact qX0_walk
  | 2, _ => cases h; exact qX0_findTwins
  | 3, _ => cases h; exact qX0_saying
  | 4, _ => cases h; exact qX0_hangNext
  | 5, _ => cases h; exact qX0_mayHang
  | 6, _ => cases h; exact qX0_isHanging
  | 7, _ => cases h; exact qX0_arrive
  | 8, _ => cases h; exact qX0_arrangeNearest
  | 9, _ => cases h; exact qX0_unlikeWorths
  | 10, _ => cases h; exact qX0_meaningsMet
  | 11, _ => cases h; exact qX0_meaningBit
  | 12, _ => cases h; exact qX1_init
  | 13, _ => cases h; exact qX1_clear
  | 14, _ => cases h; exact qX1_add
  | 15, _ => cases h; exact qX1_put
  | k + 16, hk => omega
theorem allC_1 : ∀ k, k < 16 → ∀ my, mT (16 * 1 + k) = some my → okC (mN (16 * 1 + k)).2 my.2.2.2.1 (ini (16 * 1 + k)) 0 my.1 = true := by
  intro k hk my h
  match k, hk with
  | 0, _ => cases h; exact qX1_remove
  | 1, _ => cases h; exact qX1_exchange
  | 2, _ => cases h; exact qX1_become
  | 3, _ => cases h; exact qX1_isSeenAt
  | 4, _ => cases h; exact qX1_pegsLike
  | 5, _ => cases h; exact qX1_dry
  | 6, _ => cases h; exact qX2_init
  | 7, _ => cases h; exact qX2_begin
  | 8, _ => cases h; exact qX2_put
  | 9, _ => cases h; exact qX2_hasRange
  | 10, _ => cases h; exact qX3_init
  | 11, _ => cases h; exact qX3_add
  | 12, _ => cases h; exact qX3_tell
  | 13, _ => cases h; exact qX3_lineItem
  | 14, _ => cases h; exact qX3_garment
  | 15, _ => cases h; exact qX3_windItem
  | k + 16, hk => omega
theorem allC_2 : ∀ k, k < 16 → ∀ my, mT (16 * 2 + k) = some my → okC (mN (16 * 2 + k)).2 my.2.2.2.1 (ini (16 * 2 + k)) 0 my.1 = true := by
  intro k hk my h
  match k, hk with
  | 0, _ => cases h; exact qX3_meaningItem
  | 1, _ => cases h; exact qX3_forgetItem
  | 2, _ => cases h; exact qX3_takeNumber
  | 3, _ => cases h; exact qX3_kindTold
  | 4, _ => cases h; exact qX3_kindName
  | 5, _ => cases h; exact qX3_isWord
  | 6, _ => cases h; exact qX3_step
  | 7, _ => cases h; exact qX3_numberHere
  | 8, _ => cases h; exact qX3_sortOf
  | 9, _ => cases h; exact qX4_init
  | 10, _ => cases h; exact qX4_become
  | 11, _ => cases h; exact qX4_garments
  | 12, _ => cases h; exact qX4_letDaysGo
  | 13, _ => cases h; exact qX4_hasNumber
  | 14, _ => cases h; exact qX4_meaningsTold
  | 15, _ => cases h; exact qX4_readAs
  | k + 16, hk => omega
theorem allC_3 : ∀ k, k < 16 → ∀ my, mT (16 * 3 + k) = some my → okC (mN (16 * 3 + k)).2 my.2.2.2.1 (ini (16 * 3 + k)) 0 my.1 = true := by
  intro k hk my h
  match k, hk with
  | 0, _ => cases h; exact qX4_leastDifference
  | 1, _ => cases h; exact qX5_init
  | 2, _ => cases h; exact qX5_begin
  | 3, _ => cases h; exact qX5_hear
  | 4, _ => cases h; exact qX5_hearGarment
  | 5, _ => cases h; exact qX6_init
  | 6, _ => cases h; exact qX6_hang
  | 7, _ => cases h; exact qX6_off
  | 8, _ => cases h; exact qX6_of
  | 9, _ => cases h; exact qX6_set
  | 10, _ => cases h; exact qX6_turn
  | 11, _ => cases h; exact qX6_as
  | 12, _ => cases h; exact qX6_swap
  | 13, _ => cases h; exact qX6_take
  | 14, _ => cases h; exact qX6_like
  | 15, _ => cases h; exact qX6_wind
  | k + 16, hk => omega
theorem allC_4 : ∀ k, k < 16 → ∀ my, mT (16 * 4 + k) = some my → okC (mN (16 * 4 + k)).2 my.2.2.2.1 (ini (16 * 4 + k)) 0 my.1 = true := by
  intro k hk my h
  match k, hk with
  | 0, _ => cases h; exact qX6_days
  | 1, _ => cases h; exact qX6_means
  | 2, _ => cases h; exact qX6_forget
  | 3, _ => cases h; exact qX6_number
  | 4, _ => cases h; exact qX6_read
  | 5, _ => cases h; exact qX6_apart
  | 6, _ => cases h; exact qX6_worth
  | 7, _ => cases h; exact qX6_worthIn
  | 8, _ => cases h; exact qX6_says
  | 9, _ => cases h; exact qX6_winds
  | 10, _ => cases h; exact qX6_lost
  | 11, _ => cases h; exact qX6_fewest
  | 12, _ => cases h; exact qX6_which
  | 13, _ => cases h; exact qX6_more
  | 14, _ => cases h; exact qX6_orders
  | 15, _ => cases h; exact qX6_most
  | k + 16, hk => omega
theorem allC_5 : ∀ k, k < 16 → ∀ my, mT (16 * 5 + k) = some my → okC (mN (16 * 5 + k)).2 my.2.2.2.1 (ini (16 * 5 + k)) 0 my.1 = true := by
  intro k hk my h
  match k, hk with
  | 0, _ => cases h; exact qX6_least
  | 1, _ => cases h; exact qX6_order
  | 2, _ => cases h; exact qX6_worths
  | 3, _ => cases h; exact qX6_can
  | 4, _ => cases h; exact qX6_join
  | 5, _ => cases h; exact qX6_same
  | 6, _ => cases h; exact qX6_best
  | 7, _ => cases h; exact qX6_feed
  | 8, _ => cases h; exact qX6_wipe
  | 9, _ => cases h; exact qX6_town
  | 10, _ => cases h; exact qX6_sheet
  | 11, _ => cases h; exact qX6_write
  | 12, _ => cases h; exact qX6_copy
  | 13, _ => cases h; exact qX6_lays
  | 14, _ => cases h; exact qX6_show
  | 15, _ => cases h; exact qX6_check
  | k + 16, hk => omega
theorem allC_6 : ∀ k, k < 16 → ∀ my, mT (16 * 6 + k) = some my → okC (mN (16 * 6 + k)).2 my.2.2.2.1 (ini (16 * 6 + k)) 0 my.1 = true := by
  intro k hk my h
  match k, hk with
  | 0, _ => cases h; exact qX6_image
  | 1, _ => cases h; exact qX6_undo
  | 2, _ => cases h; exact qX6_tear
  | 3, _ => cases h; exact qX6_count
  | 4, _ => cases h; exact qX6_status
  | 5, _ => cases h; exact qX6_finding
  | 6, _ => cases h; exact qX6_isGarment
  | 7, _ => cases h; exact qX6_sheetFinding
  | 8, _ => cases h; exact qX6_sheetAndLineFinding
  | 9, _ => cases h; exact qX6_isWithin
  | 10, _ => cases h; exact qX6_isLine
  | 11, _ => cases h; exact qX6_isKind
  | 12, _ => cases h; exact qX6_isSize
  | 13, _ => cases h; exact qX6_isWind
  | 14, _ => cases h; exact qX6_isMeaning
  | 15, _ => cases h; exact qX6_isWorth
  | k + 16, hk => omega
theorem allC_7 : ∀ k, k < 16 → ∀ my, mT (16 * 7 + k) = some my → okC (mN (16 * 7 + k)).2 my.2.2.2.1 (ini (16 * 7 + k)) 0 my.1 = true := by
  intro k hk my h
  match k, hk with
  | 0, _ => cases h; exact qX6_isSheet
  | 1, _ => cases h; exact qX6_isBits
  | 2, _ => cases h; exact qX6_isGarmentCode
  | 3, _ => cases h; exact qX6_isOfKind
  | 4, _ => cases h; exact qX6_isSeen
  | 5, _ => cases h; exact qX6_worthAfter
  | 6, _ => cases h; exact qX6_stockingsAfter
  | 7, _ => cases h; exact qX6_held
  | 8, _ => cases h; exact qX6_worthOf
  | 9, _ => cases h; exact qX6_worthBehind
  | 10, _ => cases h; exact qX6_worthJoined
  | 11, _ => cases h; exact qX6_readNow
  | 12, _ => cases h; exact qX6_readWithout
  | 13, _ => cases h; exact qX6_readWithOneMore
  | 14, _ => cases h; exact qX6_windsReadAs
  | 15, _ => cases h; exact qX6_fewestOff
  | k + 16, hk => omega
theorem allC_8 : ∀ k, k < 16 → ∀ my, mT (16 * 8 + k) = some my → okC (mN (16 * 8 + k)).2 my.2.2.2.1 (ini (16 * 8 + k)) 0 my.1 = true := by
  intro k hk my h
  match k, hk with
  | 0, _ => cases h; exact qX7_init
  | 1, _ => cases h; exact qX7_isIn
  | 2, _ => cases h; exact qX7_finds
  | 3, _ => cases h; exact qX7_becomes
  | 4, _ => cases h; exact qX7_isLine
  | 5, _ => cases h; exact qX7_isPeg
  | 6, _ => cases h; exact qX7_isMeaning
  | 7, _ => cases h; exact qX7_placeOf
  | 8, _ => cases h; exact qX7_copyRow
  | 9, _ => cases h; exact qX7_apartBy
  | 10, _ => cases h; exact qX7_hangs
  | 11, _ => cases h; exact qX7_isGarment
  | 12, _ => cases h; exact qX7_hang
  | 13, _ => cases h; exact qX7_off
  | 14, _ => cases h; exact qX7_lays
  | 15, _ => cases h; exact qX7_isSeen
  | k + 16, hk => omega
theorem allC_9 : ∀ k, k < 16 → ∀ my, mT (16 * 9 + k) = some my → okC (mN (16 * 9 + k)).2 my.2.2.2.1 (ini (16 * 9 + k)) 0 my.1 = true := by
  intro k hk my h
  match k, hk with
  | 0, _ => cases h; exact qX7_kept
  | 1, _ => cases h; exact qX7_isStocking
  | 2, _ => cases h; exact qX7_becomesBy
  | 3, _ => cases h; exact qX7_worthOfFirst
  | 4, _ => cases h; exact qX7_worthBy
  | 5, _ => cases h; exact qX7_worthAside
  | 6, _ => cases h; exact qX7_readAs
  | 7, _ => cases h; exact qX7_of
  | 8, _ => cases h; exact qX7_set
  | 9, _ => cases h; exact qX7_turn
  | 10, _ => cases h; exact qX7_isUnder
  | 11, _ => cases h; exact qX7_as
  | 12, _ => cases h; exact qX7_swap
  | 13, _ => cases h; exact qX7_take
  | 14, _ => cases h; exact qX7_hangsAside
  | 15, _ => cases h; exact qX7_like
  | k + 16, hk => omega
theorem allC_10 : ∀ k, k < 16 → ∀ my, mT (16 * 10 + k) = some my → okC (mN (16 * 10 + k)).2 my.2.2.2.1 (ini (16 * 10 + k)) 0 my.1 = true := by
  intro k hk my h
  match k, hk with
  | 0, _ => cases h; exact qX7_wind
  | 1, _ => cases h; exact qX7_garments
  | 2, _ => cases h; exact qX7_days
  | 3, _ => cases h; exact qX7_means
  | 4, _ => cases h; exact qX7_forget
  | 5, _ => cases h; exact qX7_number
  | 6, _ => cases h; exact qX7_orNone
  | 7, _ => cases h; exact qX7_read
  | 8, _ => cases h; exact qX7_apart
  | 9, _ => cases h; exact qX7_worth
  | 10, _ => cases h; exact qX7_worthIn
  | 11, _ => cases h; exact qX7_says
  | 12, _ => cases h; exact qX7_windsOf
  | 13, _ => cases h; exact qX7_winds
  | 14, _ => cases h; exact qX7_laysBut
  | 15, _ => cases h; exact qX7_lost
  | k + 16, hk => omega
theorem allC_11 : ∀ k, k < 16 → ∀ my, mT (16 * 11 + k) = some my → okC (mN (16 * 11 + k)).2 my.2.2.2.1 (ini (16 * 11 + k)) 0 my.1 = true := by
  intro k hk my h
  match k, hk with
  | 0, _ => cases h; exact qX7_manyIn
  | 1, _ => cases h; exact qX7_fewestSet
  | 2, _ => cases h; exact qX7_fewest
  | 3, _ => cases h; exact qX7_which
  | 4, _ => cases h; exact qX7_more
  | 5, _ => cases h; exact qX7_beginsOrders
  | 6, _ => cases h; exact qX7_hasNext
  | 7, _ => cases h; exact qX7_swapsOrder
  | 8, _ => cases h; exact qX7_laysOrder
  | 9, _ => cases h; exact qX7_orders
  | 10, _ => cases h; exact qX7_furthest
  | 11, _ => cases h; exact qX7_most
  | 12, _ => cases h; exact qX7_least
  | 13, _ => cases h; exact qX7_notesOrder
  | 14, _ => cases h; exact qX7_order
  | 15, _ => cases h; exact qX7_worths
  | k + 16, hk => omega
theorem allC_12 : ∀ k, k < 16 → ∀ my, mT (16 * 12 + k) = some my → okC (mN (16 * 12 + k)).2 my.2.2.2.1 (ini (16 * 12 + k)) 0 my.1 = true := by
  intro k hk my h
  match k, hk with
  | 0, _ => cases h; exact qX7_can
  | 1, _ => cases h; exact qX7_join
  | 2, _ => cases h; exact qX7_same
  | 3, _ => cases h; exact qX7_best
  | 4, _ => cases h; exact qX7_feed
  | 5, _ => cases h; exact qX7_wipe
  | 6, _ => cases h; exact qX7_isLetter
  | 7, _ => cases h; exact qX7_isDigit
  | 8, _ => cases h; exact qX7_byteAt
  | 9, _ => cases h; exact qX7_nextToken
  | 10, _ => cases h; exact qX7_has3
  | 11, _ => cases h; exact qX7_isWord
  | 12, _ => cases h; exact qX7_fails
  | 13, _ => cases h; exact qX7_isFour
  | 14, _ => cases h; exact qX7_isFive
  | 15, _ => cases h; exact qX7_isSix
  | k + 16, hk => omega
theorem allC_13 : ∀ k, k < 16 → ∀ my, mT (16 * 13 + k) = some my → okC (mN (16 * 13 + k)).2 my.2.2.2.1 (ini (16 * 13 + k)) 0 my.1 = true := by
  intro k hk my h
  match k, hk with
  | 0, _ => cases h; exact qX7_kindHere
  | 1, _ => cases h; exact qX7_isNumber
  | 2, _ => cases h; exact qX7_garmentHere
  | 3, _ => cases h; exact qX7_lineHere
  | 4, _ => cases h; exact qX7_windHere
  | 5, _ => cases h; exact qX7_meaningHere
  | 6, _ => cases h; exact qX7_forgetHere
  | 7, _ => cases h; exact qX7_itemHere
  | 8, _ => cases h; exact qX7_town
  | 9, _ => cases h; exact qX7_isSheet
  | 10, _ => cases h; exact qX7_narrow
  | 11, _ => cases h; exact qX7_sheet
  | 12, _ => cases h; exact qX7_write
  | 13, _ => cases h; exact qX7_copy
  | 14, _ => cases h; exact qX7_wants
  | 15, _ => cases h; exact qX7_lays_
  | k + 16, hk => omega
theorem allC_14 : ∀ k, k < 16 → ∀ my, mT (16 * 14 + k) = some my → okC (mN (16 * 14 + k)).2 my.2.2.2.1 (ini (16 * 14 + k)) 0 my.1 = true := by
  intro k hk my h
  match k, hk with
  | 0, _ => cases h; exact qX7_show
  | 1, _ => cases h; exact qX7_check
  | 2, _ => cases h; exact qX7_image
  | 3, _ => cases h; exact qX7_undo
  | 4, _ => cases h; exact qX7_tear
  | 5, _ => cases h; exact qX7_count
  | 6, _ => cases h; exact qX7_status
  | 7, _ => cases h; exact qJ6_bitCount_0f7a4
  | 8, _ => cases h; exact qJ13_bitCount_95d88
  | 9, _ => cases h; exact qJ0_length_8abf5
  | 10, _ => cases h; exact qJ0_charAt_5068e
  | 11, _ => cases h; exact qJ0_coder_7d493
  | 12, _ => cases h; exact qJ0_isLatin1_aae02
  | 13, _ => cases h; exact qJ0_checkIndex_df160
  | 14, _ => cases h; exact qJ1_charAt_3b067
  | 15, _ => cases h; exact qJ7_fill_d0a16
  | k + 16, hk => omega
theorem allC_15 : ∀ k, k < 2 → ∀ my, mT (16 * 15 + k) = some my → okC (mN (16 * 15 + k)).2 my.2.2.2.1 (ini (16 * 15 + k)) 0 my.1 = true := by
  intro k hk my h
  match k, hk with
  | 0, _ => cases h; exact qJ7_fill_53178
  | 1, _ => cases h; exact qJ3_checkIndex_8e157
  | k + 2, hk => omega
theorem allC : ∀ i my, mT i = some my → okC (mN i).2 my.2.2.2.1 (ini i) 0 my.1 = true := by
  intro i my h
  have hi : i < 242 := mT_lt h
  obtain ⟨j, k, hk, rfl⟩ : ∃ j k, k < 16 ∧ i = 16 * j + k := ⟨i / 16, i % 16, Nat.mod_lt _ (by omega), by omega⟩
  match j with
  | 0 => exact allC_0 k (by omega) my h
  | 1 => exact allC_1 k (by omega) my h
  | 2 => exact allC_2 k (by omega) my h
  | 3 => exact allC_3 k (by omega) my h
  | 4 => exact allC_4 k (by omega) my h
  | 5 => exact allC_5 k (by omega) my h
  | 6 => exact allC_6 k (by omega) my h
  | 7 => exact allC_7 k (by omega) my h
  | 8 => exact allC_8 k (by omega) my h
  | 9 => exact allC_9 k (by omega) my h
  | 10 => exact allC_10 k (by omega) my h
  | 11 => exact allC_11 k (by omega) my h
  | 12 => exact allC_12 k (by omega) my h
  | 13 => exact allC_13 k (by omega) my h
  | 14 => exact allC_14 k (by omega) my h
  | 15 => exact allC_15 k (by omega) my h
  | j + 16 => omega
end
section
set_option maxRecDepth 100000 in
theorem pwX0_init : lw_tbl[181]? = some (.code yX0_init cX0_init 2 none) := rfl
set_option maxRecDepth 100000 in
theorem pwX0_walk : lw_tbl[583]? = some (.code yX0_walk cX0_walk 4 none) := rfl
set_option maxRecDepth 100000 in
theorem pwX0_findTwins : lw_tbl[591]? = some (.code yX0_findTwins cX0_findTwins 4 none) := rfl
set_option maxRecDepth 100000 in
theorem pwX0_saying : lw_tbl[595]? = some (.code yX0_saying cX0_saying 4 (some .int)) := rfl
set_option maxRecDepth 100000 in
theorem pwX0_hangNext : lw_tbl[600]? = some (.code yX0_hangNext cX0_hangNext 7 none) := rfl
set_option maxRecDepth 100000 in
theorem pwX0_mayHang : lw_tbl[615]? = some (.code yX0_mayHang cX0_mayHang 2 (some .boolean)) := rfl
set_option maxRecDepth 100000 in
theorem pwX0_isHanging : lw_tbl[619]? = some (.code yX0_isHanging cX0_isHanging 2 (some .boolean)) := rfl
set_option maxRecDepth 100000 in
theorem pwX0_arrive : lw_tbl[604]? = some (.code yX0_arrive cX0_arrive 3 none) := rfl
set_option maxRecDepth 100000 in
theorem pwX0_arrangeNearest : lw_tbl[637]? = some (.code yX0_arrangeNearest cX0_arrangeNearest 4 none) := rfl
set_option maxRecDepth 100000 in
theorem pwX0_unlikeWorths : lw_tbl[647]? = some (.code yX0_unlikeWorths cX0_unlikeWorths 3 (some .int)) := rfl
set_option maxRecDepth 100000 in
theorem pwX0_meaningsMet : lw_tbl[661]? = some (.code yX0_meaningsMet cX0_meaningsMet 4 (some .int)) := rfl
set_option maxRecDepth 100000 in
theorem pwX0_meaningBit : lw_tbl[665]? = some (.code yX0_meaningBit cX0_meaningBit 3 (some .int)) := rfl
set_option maxRecDepth 100000 in
theorem pwX1_init : lw_tbl[107]? = some (.code yX1_init cX1_init 1 none) := rfl
set_option maxRecDepth 100000 in
theorem pwX1_clear : lw_tbl[428]? = some (.code yX1_clear cX1_clear 1 none) := rfl
set_option maxRecDepth 100000 in
theorem pwX1_add : lw_tbl[338]? = some (.code yX1_add cX1_add 4 none) := rfl
set_option maxRecDepth 100000 in
theorem pwX1_put : lw_tbl[342]? = some (.code yX1_put cX1_put 5 none) := rfl
set_option maxRecDepth 100000 in
theorem pwX1_remove : lw_tbl[354]? = some (.code yX1_remove cX1_remove 3 none) := rfl
set_option maxRecDepth 100000 in
theorem pwX1_exchange : lw_tbl[417]? = some (.code yX1_exchange cX1_exchange 6 none) := rfl
set_option maxRecDepth 100000 in
theorem pwX1_become : lw_tbl[436]? = some (.code yX1_become cX1_become 3 none) := rfl
set_option maxRecDepth 100000 in
theorem pwX1_isSeenAt : lw_tbl[362]? = some (.code yX1_isSeenAt cX1_isSeenAt 3 (some .boolean)) := rfl
set_option maxRecDepth 100000 in
theorem pwX1_pegsLike : lw_tbl[681]? = some (.code yX1_pegsLike cX1_pegsLike 5 (some .int)) := rfl
set_option maxRecDepth 100000 in
theorem pwX1_dry : lw_tbl[456]? = some (.code yX1_dry cX1_dry 4 (some .int)) := rfl
set_option maxRecDepth 100000 in
theorem pwX2_init : lw_tbl[270]? = some (.code yX2_init cX2_init 1 none) := rfl
set_option maxRecDepth 100000 in
theorem pwX2_begin : lw_tbl[836]? = some (.code yX2_begin cX2_begin 3 none) := rfl
set_option maxRecDepth 100000 in
theorem pwX2_put : lw_tbl[850]? = some (.code yX2_put cX2_put 4 none) := rfl
set_option maxRecDepth 100000 in
theorem pwX2_hasRange : lw_tbl[858]? = some (.code yX2_hasRange cX2_hasRange 3 (some .boolean)) := rfl
set_option maxRecDepth 100000 in
theorem pwX3_init : lw_tbl[243]? = some (.code yX3_init cX3_init 1 none) := rfl
set_option maxRecDepth 100000 in
theorem pwX3_add : lw_tbl[694]? = some (.code yX3_add cX3_add 2 none) := rfl
set_option maxRecDepth 100000 in
theorem pwX3_tell : lw_tbl[712]? = some (.code yX3_tell cX3_tell 4 (some .int)) := rfl
set_option maxRecDepth 100000 in
theorem pwX3_lineItem : lw_tbl[776]? = some (.code yX3_lineItem cX3_lineItem 4 (some .boolean)) := rfl
set_option maxRecDepth 100000 in
theorem pwX3_garment : lw_tbl[790]? = some (.code yX3_garment cX3_garment 5 (some .boolean)) := rfl
set_option maxRecDepth 100000 in
theorem pwX3_windItem : lw_tbl[810]? = some (.code yX3_windItem cX3_windItem 2 (some .boolean)) := rfl
set_option maxRecDepth 100000 in
theorem pwX3_meaningItem : lw_tbl[815]? = some (.code yX3_meaningItem cX3_meaningItem 4 (some .boolean)) := rfl
set_option maxRecDepth 100000 in
theorem pwX3_forgetItem : lw_tbl[820]? = some (.code yX3_forgetItem cX3_forgetItem 2 (some .boolean)) := rfl
set_option maxRecDepth 100000 in
theorem pwX3_takeNumber : lw_tbl[780]? = some (.code yX3_takeNumber cX3_takeNumber 4 (some .boolean)) := rfl
set_option maxRecDepth 100000 in
theorem pwX3_kindTold : lw_tbl[794]? = some (.code yX3_kindTold cX3_kindTold 2 (some .int)) := rfl
set_option maxRecDepth 100000 in
theorem pwX3_kindName : lw_tbl[797]? = some (.code yX3_kindName cX3_kindName 1 (some (.object "java/lang/String"))) := rfl
set_option maxRecDepth 100000 in
theorem pwX3_isWord : lw_tbl[724]? = some (.code yX3_isWord cX3_isWord 3 (some .boolean)) := rfl
set_option maxRecDepth 100000 in
theorem pwX3_step : lw_tbl[716]? = some (.code yX3_step cX3_step 2 none) := rfl
set_option maxRecDepth 100000 in
theorem pwX3_numberHere : lw_tbl[784]? = some (.code yX3_numberHere cX3_numberHere 3 (some .int)) := rfl
set_option maxRecDepth 100000 in
theorem pwX3_sortOf : lw_tbl[719]? = some (.code yX3_sortOf cX3_sortOf 1 (some .int)) := rfl
set_option maxRecDepth 100000 in
theorem pwX4_init : lw_tbl[100]? = some (.code yX4_init cX4_init 2 none) := rfl
set_option maxRecDepth 100000 in
theorem pwX4_become : lw_tbl[706]? = some (.code yX4_become cX4_become 3 none) := rfl
set_option maxRecDepth 100000 in
theorem pwX4_garments : lw_tbl[888]? = some (.code yX4_garments cX4_garments 3 (some .int)) := rfl
set_option maxRecDepth 100000 in
theorem pwX4_letDaysGo : lw_tbl[452]? = some (.code yX4_letDaysGo cX4_letDaysGo 4 (some .int)) := rfl
set_option maxRecDepth 100000 in
theorem pwX4_hasNumber : lw_tbl[474]? = some (.code yX4_hasNumber cX4_hasNumber 2 (some .boolean)) := rfl
set_option maxRecDepth 100000 in
theorem pwX4_meaningsTold : lw_tbl[500]? = some (.code yX4_meaningsTold cX4_meaningsTold 3 (some .int)) := rfl
set_option maxRecDepth 100000 in
theorem pwX4_readAs : lw_tbl[490]? = some (.code yX4_readAs cX4_readAs 6 (some .int)) := rfl
set_option maxRecDepth 100000 in
theorem pwX4_leastDifference : lw_tbl[504]? = some (.code yX4_leastDifference cX4_leastDifference 4 (some .int)) := rfl
set_option maxRecDepth 100000 in
theorem pwX5_init : lw_tbl[164]? = some (.code yX5_init cX5_init 1 none) := rfl
set_option maxRecDepth 100000 in
theorem pwX5_begin : lw_tbl[373]? = some (.code yX5_begin cX5_begin 2 none) := rfl
set_option maxRecDepth 100000 in
theorem pwX5_hear : lw_tbl[377]? = some (.code yX5_hear cX5_hear 6 none) := rfl
set_option maxRecDepth 100000 in
theorem pwX5_hearGarment : lw_tbl[381]? = some (.code yX5_hearGarment cX5_hearGarment 4 none) := rfl
set_option maxRecDepth 100000 in
theorem pwX6_init : lw_tbl[92]? = some (.code yX6_init cX6_init 2 none) := rfl
set_option maxRecDepth 100000 in
theorem pwX6_hang : lw_tbl[316]? = some (.code yX6_hang cX6_hang 5 (some .int)) := rfl
set_option maxRecDepth 100000 in
theorem pwX6_off : lw_tbl[346]? = some (.code yX6_off cX6_off 5 (some .int)) := rfl
set_option maxRecDepth 100000 in
theorem pwX6_of : lw_tbl[358]? = some (.code yX6_of cX6_of 5 (some .int)) := rfl
set_option maxRecDepth 100000 in
theorem pwX6_set : lw_tbl[395]? = some (.code yX6_set cX6_set 7 (some .int)) := rfl
set_option maxRecDepth 100000 in
theorem pwX6_turn : lw_tbl[399]? = some (.code yX6_turn cX6_turn 6 (some .int)) := rfl
set_option maxRecDepth 100000 in
theorem pwX6_as : lw_tbl[403]? = some (.code yX6_as cX6_as 5 (some .int)) := rfl
set_option maxRecDepth 100000 in
theorem pwX6_swap : lw_tbl[413]? = some (.code yX6_swap cX6_swap 4 (some .int)) := rfl
set_option maxRecDepth 100000 in
theorem pwX6_take : lw_tbl[424]? = some (.code yX6_take cX6_take 4 (some .int)) := rfl
set_option maxRecDepth 100000 in
theorem pwX6_like : lw_tbl[432]? = some (.code yX6_like cX6_like 3 (some .int)) := rfl
set_option maxRecDepth 100000 in
theorem pwX6_wind : lw_tbl[440]? = some (.code yX6_wind cX6_wind 3 (some .int)) := rfl
set_option maxRecDepth 100000 in
theorem pwX6_days : lw_tbl[447]? = some (.code yX6_days cX6_days 2 (some .int)) := rfl
set_option maxRecDepth 100000 in
theorem pwX6_means : lw_tbl[463]? = some (.code yX6_means cX6_means 4 (some .int)) := rfl
set_option maxRecDepth 100000 in
theorem pwX6_forget : lw_tbl[470]? = some (.code yX6_forget cX6_forget 3 (some .int)) := rfl
set_option maxRecDepth 100000 in
theorem pwX6_number : lw_tbl[478]? = some (.code yX6_number cX6_number 2 (some .int)) := rfl
set_option maxRecDepth 100000 in
theorem pwX6_read : lw_tbl[483]? = some (.code yX6_read cX6_read 3 (some .int)) := rfl
set_option maxRecDepth 100000 in
theorem pwX6_apart : lw_tbl[496]? = some (.code yX6_apart cX6_apart 1 (some .int)) := rfl
set_option maxRecDepth 100000 in
theorem pwX6_worth : lw_tbl[511]? = some (.code yX6_worth cX6_worth 2 (some .int)) := rfl
set_option maxRecDepth 100000 in
theorem pwX6_worthIn : lw_tbl[519]? = some (.code yX6_worthIn cX6_worthIn 3 (some .int)) := rfl
set_option maxRecDepth 100000 in
theorem pwX6_says : lw_tbl[523]? = some (.code yX6_says cX6_says 3 (some .int)) := rfl
set_option maxRecDepth 100000 in
theorem pwX6_winds : lw_tbl[531]? = some (.code yX6_winds cX6_winds 4 (some .int)) := rfl
set_option maxRecDepth 100000 in
theorem pwX6_lost : lw_tbl[539]? = some (.code yX6_lost cX6_lost 6 (some .int)) := rfl
set_option maxRecDepth 100000 in
theorem pwX6_fewest : lw_tbl[547]? = some (.code yX6_fewest cX6_fewest 4 (some .int)) := rfl
set_option maxRecDepth 100000 in
theorem pwX6_which : lw_tbl[561]? = some (.code yX6_which cX6_which 4 (some .int)) := rfl
set_option maxRecDepth 100000 in
theorem pwX6_more : lw_tbl[565]? = some (.code yX6_more cX6_more 5 (some .int)) := rfl
set_option maxRecDepth 100000 in
theorem pwX6_orders : lw_tbl[579]? = some (.code yX6_orders cX6_orders 3 (some .int)) := rfl
set_option maxRecDepth 100000 in
theorem pwX6_most : lw_tbl[625]? = some (.code yX6_most cX6_most 2 (some .int)) := rfl
set_option maxRecDepth 100000 in
theorem pwX6_least : lw_tbl[629]? = some (.code yX6_least cX6_least 2 (some .int)) := rfl
set_option maxRecDepth 100000 in
theorem pwX6_order : lw_tbl[633]? = some (.code yX6_order cX6_order 4 (some .int)) := rfl
set_option maxRecDepth 100000 in
theorem pwX6_worths : lw_tbl[643]? = some (.code yX6_worths cX6_worths 2 (some .int)) := rfl
set_option maxRecDepth 100000 in
theorem pwX6_can : lw_tbl[657]? = some (.code yX6_can cX6_can 2 (some .int)) := rfl
set_option maxRecDepth 100000 in
theorem pwX6_join : lw_tbl[669]? = some (.code yX6_join cX6_join 8 (some .int)) := rfl
set_option maxRecDepth 100000 in
theorem pwX6_same : lw_tbl[677]? = some (.code yX6_same cX6_same 3 (some .int)) := rfl
set_option maxRecDepth 100000 in
theorem pwX6_best : lw_tbl[686]? = some (.code yX6_best cX6_best 6 (some .int)) := rfl
set_option maxRecDepth 100000 in
theorem pwX6_feed : lw_tbl[690]? = some (.code yX6_feed cX6_feed 4 (some .int)) := rfl
set_option maxRecDepth 100000 in
theorem pwX6_wipe : lw_tbl[698]? = some (.code yX6_wipe cX6_wipe 2 (some .int)) := rfl
set_option maxRecDepth 100000 in
theorem pwX6_town : lw_tbl[702]? = some (.code yX6_town cX6_town 2 (some .int)) := rfl
set_option maxRecDepth 100000 in
theorem pwX6_sheet : lw_tbl[825]? = some (.code yX6_sheet cX6_sheet 4 (some .int)) := rfl
set_option maxRecDepth 100000 in
theorem pwX6_write : lw_tbl[841]? = some (.code yX6_write cX6_write 9 (some .long)) := rfl
set_option maxRecDepth 100000 in
theorem pwX6_copy : lw_tbl[854]? = some (.code yX6_copy cX6_copy 8 (some .int)) := rfl
set_option maxRecDepth 100000 in
theorem pwX6_lays : lw_tbl[863]? = some (.code yX6_lays cX6_lays 9 (some .int)) := rfl
set_option maxRecDepth 100000 in
theorem pwX6_show : lw_tbl[872]? = some (.code yX6_show cX6_show 7 (some .int)) := rfl
set_option maxRecDepth 100000 in
theorem pwX6_check : lw_tbl[876]? = some (.code yX6_check cX6_check 8 (some .int)) := rfl
set_option maxRecDepth 100000 in
theorem pwX6_image : lw_tbl[880]? = some (.code yX6_image cX6_image 1 (some .int)) := rfl
set_option maxRecDepth 100000 in
theorem pwX6_undo : lw_tbl[884]? = some (.code yX6_undo cX6_undo 1 (some .int)) := rfl
set_option maxRecDepth 100000 in
theorem pwX6_tear : lw_tbl[892]? = some (.code yX6_tear cX6_tear 2 (some .int)) := rfl
set_option maxRecDepth 100000 in
theorem pwX6_count : lw_tbl[896]? = some (.code yX6_count cX6_count 2 (some .int)) := rfl
set_option maxRecDepth 100000 in
theorem pwX6_status : lw_tbl[900]? = some (.code yX6_status cX6_status 4 (some .int)) := rfl
set_option maxRecDepth 100000 in
theorem pwX6_finding : lw_tbl[333]? = some (.code yX6_finding cX6_finding 3 (some .int)) := rfl
set_option maxRecDepth 100000 in
theorem pwX6_isGarment : lw_tbl[350]? = some (.code yX6_isGarment cX6_isGarment 3 (some .boolean)) := rfl
set_option maxRecDepth 100000 in
theorem pwX6_sheetFinding : lw_tbl[845]? = some (.code yX6_sheetFinding cX6_sheetFinding 2 (some .int)) := rfl
set_option maxRecDepth 100000 in
theorem pwX6_sheetAndLineFinding : lw_tbl[867]? = some (.code yX6_sheetAndLineFinding cX6_sheetAndLineFinding 4 (some .int)) := rfl
set_option maxRecDepth 100000 in
theorem pwX6_isWithin : lw_tbl[322]? = some (.code yX6_isWithin cX6_isWithin 3 (some .boolean)) := rfl
set_option maxRecDepth 100000 in
theorem pwX6_isLine : lw_tbl[319]? = some (.code yX6_isLine cX6_isLine 1 (some .boolean)) := rfl
set_option maxRecDepth 100000 in
theorem pwX6_isKind : lw_tbl[325]? = some (.code yX6_isKind cX6_isKind 1 (some .boolean)) := rfl
set_option maxRecDepth 100000 in
theorem pwX6_isSize : lw_tbl[328]? = some (.code yX6_isSize cX6_isSize 1 (some .boolean)) := rfl
set_option maxRecDepth 100000 in
theorem pwX6_isWind : lw_tbl[443]? = some (.code yX6_isWind cX6_isWind 1 (some .boolean)) := rfl
set_option maxRecDepth 100000 in
theorem pwX6_isMeaning : lw_tbl[466]? = some (.code yX6_isMeaning cX6_isMeaning 1 (some .boolean)) := rfl
set_option maxRecDepth 100000 in
theorem pwX6_isWorth : lw_tbl[486]? = some (.code yX6_isWorth cX6_isWorth 1 (some .boolean)) := rfl
set_option maxRecDepth 100000 in
theorem pwX6_isSheet : lw_tbl[828]? = some (.code yX6_isSheet cX6_isSheet 1 (some .boolean)) := rfl
set_option maxRecDepth 100000 in
theorem pwX6_isBits : lw_tbl[831]? = some (.code yX6_isBits cX6_isBits 1 (some .boolean)) := rfl
set_option maxRecDepth 100000 in
theorem pwX6_isGarmentCode : lw_tbl[568]? = some (.code yX6_isGarmentCode cX6_isGarmentCode 2 (some .boolean)) := rfl
set_option maxRecDepth 100000 in
theorem pwX6_isOfKind : lw_tbl[406]? = some (.code yX6_isOfKind cX6_isOfKind 4 (some .boolean)) := rfl
set_option maxRecDepth 100000 in
theorem pwX6_isSeen : lw_tbl[365]? = some (.code yX6_isSeen cX6_isSeen 5 (some .boolean)) := rfl
set_option maxRecDepth 100000 in
theorem pwX6_worthAfter : lw_tbl[385]? = some (.code yX6_worthAfter cX6_worthAfter 4 (some .int)) := rfl
set_option maxRecDepth 100000 in
theorem pwX6_stockingsAfter : lw_tbl[391]? = some (.code yX6_stockingsAfter cX6_stockingsAfter 2 (some .int)) := rfl
set_option maxRecDepth 100000 in
theorem pwX6_held : lw_tbl[388]? = some (.code yX6_held cX6_held 1 (some .int)) := rfl
set_option maxRecDepth 100000 in
theorem pwX6_worthOf : lw_tbl[515]? = some (.code yX6_worthOf cX6_worthOf 3 (some .int)) := rfl
set_option maxRecDepth 100000 in
theorem pwX6_worthBehind : lw_tbl[369]? = some (.code yX6_worthBehind cX6_worthBehind 3 (some .int)) := rfl
set_option maxRecDepth 100000 in
theorem pwX6_worthJoined : lw_tbl[673]? = some (.code yX6_worthJoined cX6_worthJoined 4 (some .int)) := rfl
set_option maxRecDepth 100000 in
theorem pwX6_readNow : lw_tbl[527]? = some (.code yX6_readNow cX6_readNow 2 (some .int)) := rfl
set_option maxRecDepth 100000 in
theorem pwX6_readWithout : lw_tbl[543]? = some (.code yX6_readWithout cX6_readWithout 3 (some .int)) := rfl
set_option maxRecDepth 100000 in
theorem pwX6_readWithOneMore : lw_tbl[574]? = some (.code yX6_readWithOneMore cX6_readWithOneMore 3 (some .int)) := rfl
set_option maxRecDepth 100000 in
theorem pwX6_windsReadAs : lw_tbl[535]? = some (.code yX6_windsReadAs cX6_windsReadAs 5 (some .int)) := rfl
set_option maxRecDepth 100000 in
theorem pwX6_fewestOff : lw_tbl[551]? = some (.code yX6_fewestOff cX6_fewestOff 8 (some .int)) := rfl
set_option maxRecDepth 100000 in
theorem pwX7_init : lw_tbl[905]? = some (.code yX7_init cX7_init 1 none) := rfl
set_option maxRecDepth 100000 in
theorem pwX7_isIn : lw_tbl[984]? = some (.code yX7_isIn cX7_isIn 6 (some .boolean)) := rfl
set_option maxRecDepth 100000 in
theorem pwX7_finds : lw_tbl[990]? = some (.code yX7_finds cX7_finds 2 (some .int)) := rfl
set_option maxRecDepth 100000 in
theorem pwX7_becomes : lw_tbl[1042]? = some (.code yX7_becomes cX7_becomes 4 (some .int)) := rfl
set_option maxRecDepth 100000 in
theorem pwX7_isLine : lw_tbl[977]? = some (.code yX7_isLine cX7_isLine 1 (some .boolean)) := rfl
set_option maxRecDepth 100000 in
theorem pwX7_isPeg : lw_tbl[1006]? = some (.code yX7_isPeg cX7_isPeg 3 (some .boolean)) := rfl
set_option maxRecDepth 100000 in
theorem pwX7_isMeaning : lw_tbl[1091]? = some (.code yX7_isMeaning cX7_isMeaning 1 (some .boolean)) := rfl
set_option maxRecDepth 100000 in
theorem pwX7_placeOf : lw_tbl[998]? = some (.code yX7_placeOf cX7_placeOf 2 (some .int)) := rfl
set_option maxRecDepth 100000 in
theorem pwX7_copyRow : lw_tbl[1249]? = some (.code yX7_copyRow cX7_copyRow 3 none) := rfl
set_option maxRecDepth 100000 in
theorem pwX7_apartBy : lw_tbl[1061]? = some (.code yX7_apartBy cX7_apartBy 2 (some .int)) := rfl
set_option maxRecDepth 100000 in
theorem pwX7_hangs : lw_tbl[995]? = some (.code yX7_hangs cX7_hangs 6 none) := rfl
set_option maxRecDepth 100000 in
theorem pwX7_isGarment : lw_tbl[980]? = some (.code yX7_isGarment cX7_isGarment 2 (some .boolean)) := rfl
set_option maxRecDepth 100000 in
theorem pwX7_hang : lw_tbl[974]? = some (.code yX7_hang cX7_hang 4 (some .int)) := rfl
set_option maxRecDepth 100000 in
theorem pwX7_off : lw_tbl[1002]? = some (.code yX7_off cX7_off 5 (some .int)) := rfl
set_option maxRecDepth 100000 in
theorem pwX7_lays : lw_tbl[1015]? = some (.code yX7_lays cX7_lays 3 none) := rfl
set_option maxRecDepth 100000 in
theorem pwX7_isSeen : lw_tbl[1019]? = some (.code yX7_isSeen cX7_isSeen 4 (some .boolean)) := rfl
set_option maxRecDepth 100000 in
theorem pwX7_kept : lw_tbl[1030]? = some (.code yX7_kept cX7_kept 1 (some .int)) := rfl
set_option maxRecDepth 100000 in
theorem pwX7_isStocking : lw_tbl[1033]? = some (.code yX7_isStocking cX7_isStocking 1 (some .boolean)) := rfl
set_option maxRecDepth 100000 in
theorem pwX7_becomesBy : lw_tbl[1027]? = some (.code yX7_becomesBy cX7_becomesBy 5 (some .int)) := rfl
set_option maxRecDepth 100000 in
theorem pwX7_worthOfFirst : lw_tbl[1023]? = some (.code yX7_worthOfFirst cX7_worthOfFirst 6 (some .int)) := rfl
set_option maxRecDepth 100000 in
theorem pwX7_worthBy : lw_tbl[1127]? = some (.code yX7_worthBy cX7_worthBy 3 (some .int)) := rfl
set_option maxRecDepth 100000 in
theorem pwX7_worthAside : lw_tbl[1155]? = some (.code yX7_worthAside cX7_worthAside 1 (some .int)) := rfl
set_option maxRecDepth 100000 in
theorem pwX7_readAs : lw_tbl[1111]? = some (.code yX7_readAs cX7_readAs 5 (some .int)) := rfl
set_option maxRecDepth 100000 in
theorem pwX7_of : lw_tbl[1010]? = some (.code yX7_of cX7_of 4 (some .int)) := rfl
set_option maxRecDepth 100000 in
theorem pwX7_set : lw_tbl[1037]? = some (.code yX7_set cX7_set 5 (some .int)) := rfl
set_option maxRecDepth 100000 in
theorem pwX7_turn : lw_tbl[1046]? = some (.code yX7_turn cX7_turn 4 (some .int)) := rfl
set_option maxRecDepth 100000 in
theorem pwX7_isUnder : lw_tbl[1053]? = some (.code yX7_isUnder cX7_isUnder 2 (some .boolean)) := rfl
set_option maxRecDepth 100000 in
theorem pwX7_as : lw_tbl[1050]? = some (.code yX7_as cX7_as 4 (some .int)) := rfl
set_option maxRecDepth 100000 in
theorem pwX7_swap : lw_tbl[1058]? = some (.code yX7_swap cX7_swap 5 (some .int)) := rfl
set_option maxRecDepth 100000 in
theorem pwX7_take : lw_tbl[1065]? = some (.code yX7_take cX7_take 2 (some .int)) := rfl
set_option maxRecDepth 100000 in
theorem pwX7_hangsAside : lw_tbl[1073]? = some (.code yX7_hangsAside cX7_hangsAside 3 none) := rfl
set_option maxRecDepth 100000 in
theorem pwX7_like : lw_tbl[1069]? = some (.code yX7_like cX7_like 3 (some .int)) := rfl
set_option maxRecDepth 100000 in
theorem pwX7_wind : lw_tbl[1077]? = some (.code yX7_wind cX7_wind 2 (some .int)) := rfl
set_option maxRecDepth 100000 in
theorem pwX7_garments : lw_tbl[1368]? = some (.code yX7_garments cX7_garments 1 (some .int)) := rfl
set_option maxRecDepth 100000 in
theorem pwX7_days : lw_tbl[1082]? = some (.code yX7_days cX7_days 6 (some .int)) := rfl
set_option maxRecDepth 100000 in
theorem pwX7_means : lw_tbl[1088]? = some (.code yX7_means cX7_means 4 (some .int)) := rfl
set_option maxRecDepth 100000 in
theorem pwX7_forget : lw_tbl[1097]? = some (.code yX7_forget cX7_forget 2 (some .int)) := rfl
set_option maxRecDepth 100000 in
theorem pwX7_number : lw_tbl[1101]? = some (.code yX7_number cX7_number 2 (some .int)) := rfl
set_option maxRecDepth 100000 in
theorem pwX7_orNone : lw_tbl[1115]? = some (.code yX7_orNone cX7_orNone 2 (some .int)) := rfl
set_option maxRecDepth 100000 in
theorem pwX7_read : lw_tbl[1106]? = some (.code yX7_read cX7_read 2 (some .int)) := rfl
set_option maxRecDepth 100000 in
theorem pwX7_apart : lw_tbl[1119]? = some (.code yX7_apart cX7_apart 5 (some .int)) := rfl
set_option maxRecDepth 100000 in
theorem pwX7_worth : lw_tbl[1123]? = some (.code yX7_worth cX7_worth 2 (some .int)) := rfl
set_option maxRecDepth 100000 in
theorem pwX7_worthIn : lw_tbl[1131]? = some (.code yX7_worthIn cX7_worthIn 3 (some .int)) := rfl
set_option maxRecDepth 100000 in
theorem pwX7_says : lw_tbl[1135]? = some (.code yX7_says cX7_says 2 (some .int)) := rfl
set_option maxRecDepth 100000 in
theorem pwX7_windsOf : lw_tbl[1143]? = some (.code yX7_windsOf cX7_windsOf 5 (some .int)) := rfl
set_option maxRecDepth 100000 in
theorem pwX7_winds : lw_tbl[1139]? = some (.code yX7_winds cX7_winds 3 (some .int)) := rfl
set_option maxRecDepth 100000 in
theorem pwX7_laysBut : lw_tbl[1151]? = some (.code yX7_laysBut cX7_laysBut 5 none) := rfl
set_option maxRecDepth 100000 in
theorem pwX7_lost : lw_tbl[1147]? = some (.code yX7_lost cX7_lost 5 (some .int)) := rfl
set_option maxRecDepth 100000 in
theorem pwX7_manyIn : lw_tbl[1166]? = some (.code yX7_manyIn cX7_manyIn 3 (some .int)) := rfl
set_option maxRecDepth 100000 in
theorem pwX7_fewestSet : lw_tbl[1163]? = some (.code yX7_fewestSet cX7_fewestSet 6 (some .int)) := rfl
set_option maxRecDepth 100000 in
theorem pwX7_fewest : lw_tbl[1159]? = some (.code yX7_fewest cX7_fewest 4 (some .int)) := rfl
set_option maxRecDepth 100000 in
theorem pwX7_which : lw_tbl[1170]? = some (.code yX7_which cX7_which 3 (some .int)) := rfl
set_option maxRecDepth 100000 in
theorem pwX7_more : lw_tbl[1174]? = some (.code yX7_more cX7_more 5 (some .int)) := rfl
set_option maxRecDepth 100000 in
theorem pwX7_beginsOrders : lw_tbl[1182]? = some (.code yX7_beginsOrders cX7_beginsOrders 3 none) := rfl
set_option maxRecDepth 100000 in
theorem pwX7_hasNext : lw_tbl[1186]? = some (.code yX7_hasNext cX7_hasNext 7 (some .boolean)) := rfl
set_option maxRecDepth 100000 in
theorem pwX7_swapsOrder : lw_tbl[1190]? = some (.code yX7_swapsOrder cX7_swapsOrder 4 none) := rfl
set_option maxRecDepth 100000 in
theorem pwX7_laysOrder : lw_tbl[1194]? = some (.code yX7_laysOrder cX7_laysOrder 4 none) := rfl
set_option maxRecDepth 100000 in
theorem pwX7_orders : lw_tbl[1178]? = some (.code yX7_orders cX7_orders 5 (some .int)) := rfl
set_option maxRecDepth 100000 in
theorem pwX7_furthest : lw_tbl[1202]? = some (.code yX7_furthest cX7_furthest 4 (some .int)) := rfl
set_option maxRecDepth 100000 in
theorem pwX7_most : lw_tbl[1198]? = some (.code yX7_most cX7_most 2 (some .int)) := rfl
set_option maxRecDepth 100000 in
theorem pwX7_least : lw_tbl[1206]? = some (.code yX7_least cX7_least 2 (some .int)) := rfl
set_option maxRecDepth 100000 in
theorem pwX7_notesOrder : lw_tbl[1214]? = some (.code yX7_notesOrder cX7_notesOrder 2 none) := rfl
set_option maxRecDepth 100000 in
theorem pwX7_order : lw_tbl[1210]? = some (.code yX7_order cX7_order 5 (some .int)) := rfl
set_option maxRecDepth 100000 in
theorem pwX7_worths : lw_tbl[1218]? = some (.code yX7_worths cX7_worths 5 (some .int)) := rfl
set_option maxRecDepth 100000 in
theorem pwX7_can : lw_tbl[1222]? = some (.code yX7_can cX7_can 4 (some .int)) := rfl
set_option maxRecDepth 100000 in
theorem pwX7_join : lw_tbl[1226]? = some (.code yX7_join cX7_join 8 (some .int)) := rfl
set_option maxRecDepth 100000 in
theorem pwX7_same : lw_tbl[1230]? = some (.code yX7_same cX7_same 7 (some .int)) := rfl
set_option maxRecDepth 100000 in
theorem pwX7_best : lw_tbl[1234]? = some (.code yX7_best cX7_best 6 (some .int)) := rfl
set_option maxRecDepth 100000 in
theorem pwX7_feed : lw_tbl[1238]? = some (.code yX7_feed cX7_feed 4 (some .int)) := rfl
set_option maxRecDepth 100000 in
theorem pwX7_wipe : lw_tbl[1242]? = some (.code yX7_wipe cX7_wipe 2 (some .int)) := rfl
set_option maxRecDepth 100000 in
theorem pwX7_isLetter : lw_tbl[1260]? = some (.code yX7_isLetter cX7_isLetter 1 (some .boolean)) := rfl
set_option maxRecDepth 100000 in
theorem pwX7_isDigit : lw_tbl[1263]? = some (.code yX7_isDigit cX7_isDigit 1 (some .boolean)) := rfl
set_option maxRecDepth 100000 in
theorem pwX7_byteAt : lw_tbl[1257]? = some (.code yX7_byteAt cX7_byteAt 2 (some .int)) := rfl
set_option maxRecDepth 100000 in
theorem pwX7_nextToken : lw_tbl[1253]? = some (.code yX7_nextToken cX7_nextToken 2 none) := rfl
set_option maxRecDepth 100000 in
theorem pwX7_has3 : lw_tbl[1279]? = some (.code yX7_has3 cX7_has3 5 (some .boolean)) := rfl
set_option maxRecDepth 100000 in
theorem pwX7_isWord : lw_tbl[1275]? = some (.code yX7_isWord cX7_isWord 2 (some .boolean)) := rfl
set_option maxRecDepth 100000 in
theorem pwX7_fails : lw_tbl[1291]? = some (.code yX7_fails cX7_fails 1 (some .boolean)) := rfl
set_option maxRecDepth 100000 in
theorem pwX7_isFour : lw_tbl[1271]? = some (.code yX7_isFour cX7_isFour 5 (some .boolean)) := rfl
set_option maxRecDepth 100000 in
theorem pwX7_isFive : lw_tbl[1303]? = some (.code yX7_isFive cX7_isFive 6 (some .boolean)) := rfl
set_option maxRecDepth 100000 in
theorem pwX7_isSix : lw_tbl[1315]? = some (.code yX7_isSix cX7_isSix 7 (some .boolean)) := rfl
set_option maxRecDepth 100000 in
theorem pwX7_kindHere : lw_tbl[1299]? = some (.code yX7_kindHere cX7_kindHere 1 (some .int)) := rfl
set_option maxRecDepth 100000 in
theorem pwX7_isNumber : lw_tbl[1287]? = some (.code yX7_isNumber cX7_isNumber 3 (some .boolean)) := rfl
set_option maxRecDepth 100000 in
theorem pwX7_garmentHere : lw_tbl[1295]? = some (.code yX7_garmentHere cX7_garmentHere 3 (some .boolean)) := rfl
set_option maxRecDepth 100000 in
theorem pwX7_lineHere : lw_tbl[1283]? = some (.code yX7_lineHere cX7_lineHere 3 (some .boolean)) := rfl
set_option maxRecDepth 100000 in
theorem pwX7_windHere : lw_tbl[1307]? = some (.code yX7_windHere cX7_windHere 1 (some .boolean)) := rfl
set_option maxRecDepth 100000 in
theorem pwX7_meaningHere : lw_tbl[1311]? = some (.code yX7_meaningHere cX7_meaningHere 3 (some .boolean)) := rfl
set_option maxRecDepth 100000 in
theorem pwX7_forgetHere : lw_tbl[1319]? = some (.code yX7_forgetHere cX7_forgetHere 1 (some .boolean)) := rfl
set_option maxRecDepth 100000 in
theorem pwX7_itemHere : lw_tbl[1267]? = some (.code yX7_itemHere cX7_itemHere 1 (some .boolean)) := rfl
set_option maxRecDepth 100000 in
theorem pwX7_town : lw_tbl[1246]? = some (.code yX7_town cX7_town 3 (some .int)) := rfl
set_option maxRecDepth 100000 in
theorem pwX7_isSheet : lw_tbl[1326]? = some (.code yX7_isSheet cX7_isSheet 1 (some .boolean)) := rfl
set_option maxRecDepth 100000 in
theorem pwX7_narrow : lw_tbl[1335]? = some (.code yX7_narrow cX7_narrow 3 (some .long)) := rfl
set_option maxRecDepth 100000 in
theorem pwX7_sheet : lw_tbl[1323]? = some (.code yX7_sheet cX7_sheet 5 (some .int)) := rfl
set_option maxRecDepth 100000 in
theorem pwX7_write : lw_tbl[1331]? = some (.code yX7_write cX7_write 7 (some .long)) := rfl
set_option maxRecDepth 100000 in
theorem pwX7_copy : lw_tbl[1339]? = some (.code yX7_copy cX7_copy 10 (some .int)) := rfl
set_option maxRecDepth 100000 in
theorem pwX7_wants : lw_tbl[1347]? = some (.code yX7_wants cX7_wants 2 (some .int)) := rfl
set_option maxRecDepth 100000 in
theorem pwX7_lays_ : lw_tbl[1343]? = some (.code yX7_lays_ cX7_lays_ 7 (some .int)) := rfl
set_option maxRecDepth 100000 in
theorem pwX7_show : lw_tbl[1352]? = some (.code yX7_show cX7_show 6 (some .int)) := rfl
set_option maxRecDepth 100000 in
theorem pwX7_check : lw_tbl[1356]? = some (.code yX7_check cX7_check 5 (some .int)) := rfl
set_option maxRecDepth 100000 in
theorem pwX7_image : lw_tbl[1360]? = some (.code yX7_image cX7_image 1 (some .int)) := rfl
set_option maxRecDepth 100000 in
theorem pwX7_undo : lw_tbl[1364]? = some (.code yX7_undo cX7_undo 1 (some .int)) := rfl
set_option maxRecDepth 100000 in
theorem pwX7_tear : lw_tbl[1372]? = some (.code yX7_tear cX7_tear 2 (some .int)) := rfl
set_option maxRecDepth 100000 in
theorem pwX7_count : lw_tbl[1376]? = some (.code yX7_count cX7_count 4 (some .int)) := rfl
set_option maxRecDepth 100000 in
theorem pwX7_status : lw_tbl[1380]? = some (.code yX7_status cX7_status 2 (some .int)) := rfl
set_option maxRecDepth 100000 in
theorem pwJ6_bitCount_0f7a4 : lw_tbl[554]? = some (.code yJ6_bitCount_0f7a4 cJ6_bitCount_0f7a4 1 (some .int)) := rfl
set_option maxRecDepth 100000 in
theorem pwJ13_bitCount_95d88 : lw_tbl[650]? = some (.code yJ13_bitCount_95d88 cJ13_bitCount_95d88 2 (some .int)) := rfl
set_option maxRecDepth 100000 in
theorem pwJ0_length_8abf5 : lw_tbl[728]? = some (.code yJ0_length_8abf5 cJ0_length_8abf5 1 (some .int)) := rfl
set_option maxRecDepth 100000 in
theorem pwJ0_charAt_5068e : lw_tbl[738]? = some (.code yJ0_charAt_5068e cJ0_charAt_5068e 2 (some .char)) := rfl
set_option maxRecDepth 100000 in
theorem pwJ0_coder_7d493 : lw_tbl[732]? = some (.code yJ0_coder_7d493 cJ0_coder_7d493 1 (some .byte)) := rfl
set_option maxRecDepth 100000 in
theorem pwJ0_isLatin1_aae02 : lw_tbl[742]? = some (.code yJ0_isLatin1_aae02 cJ0_isLatin1_aae02 1 (some .boolean)) := rfl
set_option maxRecDepth 100000 in
theorem pwJ0_checkIndex_df160 : lw_tbl[748]? = some (.code yJ0_checkIndex_df160 cJ0_checkIndex_df160 2 none) := rfl
set_option maxRecDepth 100000 in
theorem pwJ1_charAt_3b067 : lw_tbl[745]? = some (.code yJ1_charAt_3b067 cJ1_charAt_3b067 2 (some .char)) := rfl
set_option maxRecDepth 100000 in
theorem pwJ7_fill_d0a16 : lw_tbl[587]? = some (.code yJ7_fill_d0a16 cJ7_fill_d0a16 5 none) := rfl
set_option maxRecDepth 100000 in
theorem pwJ7_fill_53178 : lw_tbl[138]? = some (.code yJ7_fill_53178 cJ7_fill_53178 4 none) := rfl
set_option maxRecDepth 100000 in
theorem pwJ3_checkIndex_8e157 : lw_tbl[753]? = some (.code yJ3_checkIndex_8e157 cJ3_checkIndex_8e157 3 (some .int)) := rfl
theorem allW_0 : ∀ k, k < 16 → ∀ my, mT (16 * 0 + k) = some my → lw_tbl[(mP (16 * 0 + k)).1]? = some (.code (mN (16 * 0 + k)).1 (mN (16 * 0 + k)).2 my.2.1 my.2.2.1) := by
  intro k hk my h
  match k, hk with
  | 0, _ => cases h; exact pwX0_init
  | 1, _ => cases h; exact pwX0_walk
  | 2, _ => cases h; exact pwX0_findTwins
  | 3, _ => cases h; exact pwX0_saying
  | 4, _ => cases h; exact pwX0_hangNext
  | 5, _ => cases h; exact pwX0_mayHang
  | 6, _ => cases h; exact pwX0_isHanging
  | 7, _ => cases h; exact pwX0_arrive
  | 8, _ => cases h; exact pwX0_arrangeNearest
  | 9, _ => cases h; exact pwX0_unlikeWorths
  | 10, _ => cases h; exact pwX0_meaningsMet
  | 11, _ => cases h; exact pwX0_meaningBit
  | 12, _ => cases h; exact pwX1_init
  | 13, _ => cases h; exact pwX1_clear
  | 14, _ => cases h; exact pwX1_add
  | 15, _ => cases h; exact pwX1_put
  | k + 16, hk => omega
theorem allW_1 : ∀ k, k < 16 → ∀ my, mT (16 * 1 + k) = some my → lw_tbl[(mP (16 * 1 + k)).1]? = some (.code (mN (16 * 1 + k)).1 (mN (16 * 1 + k)).2 my.2.1 my.2.2.1) := by
  intro k hk my h
  match k, hk with
  | 0, _ => cases h; exact pwX1_remove
  | 1, _ => cases h; exact pwX1_exchange
  | 2, _ => cases h; exact pwX1_become
  | 3, _ => cases h; exact pwX1_isSeenAt
  | 4, _ => cases h; exact pwX1_pegsLike
  | 5, _ => cases h; exact pwX1_dry
  | 6, _ => cases h; exact pwX2_init
  | 7, _ => cases h; exact pwX2_begin
  | 8, _ => cases h; exact pwX2_put
  | 9, _ => cases h; exact pwX2_hasRange
  | 10, _ => cases h; exact pwX3_init
  | 11, _ => cases h; exact pwX3_add
  | 12, _ => cases h; exact pwX3_tell
  | 13, _ => cases h; exact pwX3_lineItem
  | 14, _ => cases h; exact pwX3_garment
  | 15, _ => cases h; exact pwX3_windItem
  | k + 16, hk => omega
theorem allW_2 : ∀ k, k < 16 → ∀ my, mT (16 * 2 + k) = some my → lw_tbl[(mP (16 * 2 + k)).1]? = some (.code (mN (16 * 2 + k)).1 (mN (16 * 2 + k)).2 my.2.1 my.2.2.1) := by
  intro k hk my h
  match k, hk with
  | 0, _ => cases h; exact pwX3_meaningItem
  | 1, _ => cases h; exact pwX3_forgetItem
  | 2, _ => cases h; exact pwX3_takeNumber
  | 3, _ => cases h; exact pwX3_kindTold
  | 4, _ => cases h; exact pwX3_kindName
  | 5, _ => cases h; exact pwX3_isWord
  | 6, _ => cases h; exact pwX3_step
  | 7, _ => cases h; exact pwX3_numberHere
  | 8, _ => cases h; exact pwX3_sortOf
  | 9, _ => cases h; exact pwX4_init
  | 10, _ => cases h; exact pwX4_become
  | 11, _ => cases h; exact pwX4_garments
  | 12, _ => cases h; exact pwX4_letDaysGo
  | 13, _ => cases h; exact pwX4_hasNumber
  | 14, _ => cases h; exact pwX4_meaningsTold
  | 15, _ => cases h; exact pwX4_readAs
  | k + 16, hk => omega
theorem allW_3 : ∀ k, k < 16 → ∀ my, mT (16 * 3 + k) = some my → lw_tbl[(mP (16 * 3 + k)).1]? = some (.code (mN (16 * 3 + k)).1 (mN (16 * 3 + k)).2 my.2.1 my.2.2.1) := by
  intro k hk my h
  match k, hk with
  | 0, _ => cases h; exact pwX4_leastDifference
  | 1, _ => cases h; exact pwX5_init
  | 2, _ => cases h; exact pwX5_begin
  | 3, _ => cases h; exact pwX5_hear
  | 4, _ => cases h; exact pwX5_hearGarment
  | 5, _ => cases h; exact pwX6_init
  | 6, _ => cases h; exact pwX6_hang
  | 7, _ => cases h; exact pwX6_off
  | 8, _ => cases h; exact pwX6_of
  | 9, _ => cases h; exact pwX6_set
  | 10, _ => cases h; exact pwX6_turn
  | 11, _ => cases h; exact pwX6_as
  | 12, _ => cases h; exact pwX6_swap
  | 13, _ => cases h; exact pwX6_take
  | 14, _ => cases h; exact pwX6_like
  | 15, _ => cases h; exact pwX6_wind
  | k + 16, hk => omega
theorem allW_4 : ∀ k, k < 16 → ∀ my, mT (16 * 4 + k) = some my → lw_tbl[(mP (16 * 4 + k)).1]? = some (.code (mN (16 * 4 + k)).1 (mN (16 * 4 + k)).2 my.2.1 my.2.2.1) := by
  intro k hk my h
  match k, hk with
  | 0, _ => cases h; exact pwX6_days
  | 1, _ => cases h; exact pwX6_means
  | 2, _ => cases h; exact pwX6_forget
  | 3, _ => cases h; exact pwX6_number
  | 4, _ => cases h; exact pwX6_read
  | 5, _ => cases h; exact pwX6_apart
  | 6, _ => cases h; exact pwX6_worth
  | 7, _ => cases h; exact pwX6_worthIn
  | 8, _ => cases h; exact pwX6_says
  | 9, _ => cases h; exact pwX6_winds
  | 10, _ => cases h; exact pwX6_lost
  | 11, _ => cases h; exact pwX6_fewest
  | 12, _ => cases h; exact pwX6_which
  | 13, _ => cases h; exact pwX6_more
  | 14, _ => cases h; exact pwX6_orders
  | 15, _ => cases h; exact pwX6_most
  | k + 16, hk => omega
theorem allW_5 : ∀ k, k < 16 → ∀ my, mT (16 * 5 + k) = some my → lw_tbl[(mP (16 * 5 + k)).1]? = some (.code (mN (16 * 5 + k)).1 (mN (16 * 5 + k)).2 my.2.1 my.2.2.1) := by
  intro k hk my h
  match k, hk with
  | 0, _ => cases h; exact pwX6_least
  | 1, _ => cases h; exact pwX6_order
  | 2, _ => cases h; exact pwX6_worths
  | 3, _ => cases h; exact pwX6_can
  | 4, _ => cases h; exact pwX6_join
  | 5, _ => cases h; exact pwX6_same
  | 6, _ => cases h; exact pwX6_best
  | 7, _ => cases h; exact pwX6_feed
  | 8, _ => cases h; exact pwX6_wipe
  | 9, _ => cases h; exact pwX6_town
  | 10, _ => cases h; exact pwX6_sheet
  | 11, _ => cases h; exact pwX6_write
  | 12, _ => cases h; exact pwX6_copy
  | 13, _ => cases h; exact pwX6_lays
  | 14, _ => cases h; exact pwX6_show
  | 15, _ => cases h; exact pwX6_check
  | k + 16, hk => omega
theorem allW_6 : ∀ k, k < 16 → ∀ my, mT (16 * 6 + k) = some my → lw_tbl[(mP (16 * 6 + k)).1]? = some (.code (mN (16 * 6 + k)).1 (mN (16 * 6 + k)).2 my.2.1 my.2.2.1) := by
  intro k hk my h
  match k, hk with
  | 0, _ => cases h; exact pwX6_image
  | 1, _ => cases h; exact pwX6_undo
  | 2, _ => cases h; exact pwX6_tear
  | 3, _ => cases h; exact pwX6_count
  | 4, _ => cases h; exact pwX6_status
  | 5, _ => cases h; exact pwX6_finding
  | 6, _ => cases h; exact pwX6_isGarment
  | 7, _ => cases h; exact pwX6_sheetFinding
  | 8, _ => cases h; exact pwX6_sheetAndLineFinding
  | 9, _ => cases h; exact pwX6_isWithin
  | 10, _ => cases h; exact pwX6_isLine
  | 11, _ => cases h; exact pwX6_isKind
  | 12, _ => cases h; exact pwX6_isSize
  | 13, _ => cases h; exact pwX6_isWind
  | 14, _ => cases h; exact pwX6_isMeaning
  | 15, _ => cases h; exact pwX6_isWorth
  | k + 16, hk => omega
theorem allW_7 : ∀ k, k < 16 → ∀ my, mT (16 * 7 + k) = some my → lw_tbl[(mP (16 * 7 + k)).1]? = some (.code (mN (16 * 7 + k)).1 (mN (16 * 7 + k)).2 my.2.1 my.2.2.1) := by
  intro k hk my h
  match k, hk with
  | 0, _ => cases h; exact pwX6_isSheet
  | 1, _ => cases h; exact pwX6_isBits
  | 2, _ => cases h; exact pwX6_isGarmentCode
  | 3, _ => cases h; exact pwX6_isOfKind
  | 4, _ => cases h; exact pwX6_isSeen
  | 5, _ => cases h; exact pwX6_worthAfter
  | 6, _ => cases h; exact pwX6_stockingsAfter
  | 7, _ => cases h; exact pwX6_held
  | 8, _ => cases h; exact pwX6_worthOf
  | 9, _ => cases h; exact pwX6_worthBehind
  | 10, _ => cases h; exact pwX6_worthJoined
  | 11, _ => cases h; exact pwX6_readNow
  | 12, _ => cases h; exact pwX6_readWithout
  | 13, _ => cases h; exact pwX6_readWithOneMore
  | 14, _ => cases h; exact pwX6_windsReadAs
  | 15, _ => cases h; exact pwX6_fewestOff
  | k + 16, hk => omega
theorem allW_8 : ∀ k, k < 16 → ∀ my, mT (16 * 8 + k) = some my → lw_tbl[(mP (16 * 8 + k)).1]? = some (.code (mN (16 * 8 + k)).1 (mN (16 * 8 + k)).2 my.2.1 my.2.2.1) := by
  intro k hk my h
  match k, hk with
  | 0, _ => cases h; exact pwX7_init
  | 1, _ => cases h; exact pwX7_isIn
  | 2, _ => cases h; exact pwX7_finds
  | 3, _ => cases h; exact pwX7_becomes
  | 4, _ => cases h; exact pwX7_isLine
  | 5, _ => cases h; exact pwX7_isPeg
  | 6, _ => cases h; exact pwX7_isMeaning
  | 7, _ => cases h; exact pwX7_placeOf
  | 8, _ => cases h; exact pwX7_copyRow
  | 9, _ => cases h; exact pwX7_apartBy
  | 10, _ => cases h; exact pwX7_hangs
  | 11, _ => cases h; exact pwX7_isGarment
  | 12, _ => cases h; exact pwX7_hang
  | 13, _ => cases h; exact pwX7_off
  | 14, _ => cases h; exact pwX7_lays
  | 15, _ => cases h; exact pwX7_isSeen
  | k + 16, hk => omega
theorem allW_9 : ∀ k, k < 16 → ∀ my, mT (16 * 9 + k) = some my → lw_tbl[(mP (16 * 9 + k)).1]? = some (.code (mN (16 * 9 + k)).1 (mN (16 * 9 + k)).2 my.2.1 my.2.2.1) := by
  intro k hk my h
  match k, hk with
  | 0, _ => cases h; exact pwX7_kept
  | 1, _ => cases h; exact pwX7_isStocking
  | 2, _ => cases h; exact pwX7_becomesBy
  | 3, _ => cases h; exact pwX7_worthOfFirst
  | 4, _ => cases h; exact pwX7_worthBy
  | 5, _ => cases h; exact pwX7_worthAside
  | 6, _ => cases h; exact pwX7_readAs
  | 7, _ => cases h; exact pwX7_of
  | 8, _ => cases h; exact pwX7_set
  | 9, _ => cases h; exact pwX7_turn
  | 10, _ => cases h; exact pwX7_isUnder
  | 11, _ => cases h; exact pwX7_as
  | 12, _ => cases h; exact pwX7_swap
  | 13, _ => cases h; exact pwX7_take
  | 14, _ => cases h; exact pwX7_hangsAside
  | 15, _ => cases h; exact pwX7_like
  | k + 16, hk => omega
theorem allW_10 : ∀ k, k < 16 → ∀ my, mT (16 * 10 + k) = some my → lw_tbl[(mP (16 * 10 + k)).1]? = some (.code (mN (16 * 10 + k)).1 (mN (16 * 10 + k)).2 my.2.1 my.2.2.1) := by
  intro k hk my h
  match k, hk with
  | 0, _ => cases h; exact pwX7_wind
  | 1, _ => cases h; exact pwX7_garments
  | 2, _ => cases h; exact pwX7_days
  | 3, _ => cases h; exact pwX7_means
  | 4, _ => cases h; exact pwX7_forget
  | 5, _ => cases h; exact pwX7_number
  | 6, _ => cases h; exact pwX7_orNone
  | 7, _ => cases h; exact pwX7_read
  | 8, _ => cases h; exact pwX7_apart
  | 9, _ => cases h; exact pwX7_worth
  | 10, _ => cases h; exact pwX7_worthIn
  | 11, _ => cases h; exact pwX7_says
  | 12, _ => cases h; exact pwX7_windsOf
  | 13, _ => cases h; exact pwX7_winds
  | 14, _ => cases h; exact pwX7_laysBut
  | 15, _ => cases h; exact pwX7_lost
  | k + 16, hk => omega
theorem allW_11 : ∀ k, k < 16 → ∀ my, mT (16 * 11 + k) = some my → lw_tbl[(mP (16 * 11 + k)).1]? = some (.code (mN (16 * 11 + k)).1 (mN (16 * 11 + k)).2 my.2.1 my.2.2.1) := by
  intro k hk my h
  match k, hk with
  | 0, _ => cases h; exact pwX7_manyIn
  | 1, _ => cases h; exact pwX7_fewestSet
  | 2, _ => cases h; exact pwX7_fewest
  | 3, _ => cases h; exact pwX7_which
  | 4, _ => cases h; exact pwX7_more
  | 5, _ => cases h; exact pwX7_beginsOrders
  | 6, _ => cases h; exact pwX7_hasNext
  | 7, _ => cases h; exact pwX7_swapsOrder
  | 8, _ => cases h; exact pwX7_laysOrder
  | 9, _ => cases h; exact pwX7_orders
  | 10, _ => cases h; exact pwX7_furthest
  | 11, _ => cases h; exact pwX7_most
  | 12, _ => cases h; exact pwX7_least
  | 13, _ => cases h; exact pwX7_notesOrder
  | 14, _ => cases h; exact pwX7_order
  | 15, _ => cases h; exact pwX7_worths
  | k + 16, hk => omega
theorem allW_12 : ∀ k, k < 16 → ∀ my, mT (16 * 12 + k) = some my → lw_tbl[(mP (16 * 12 + k)).1]? = some (.code (mN (16 * 12 + k)).1 (mN (16 * 12 + k)).2 my.2.1 my.2.2.1) := by
  intro k hk my h
  match k, hk with
  | 0, _ => cases h; exact pwX7_can
  | 1, _ => cases h; exact pwX7_join
  | 2, _ => cases h; exact pwX7_same
  | 3, _ => cases h; exact pwX7_best
  | 4, _ => cases h; exact pwX7_feed
  | 5, _ => cases h; exact pwX7_wipe
  | 6, _ => cases h; exact pwX7_isLetter
  | 7, _ => cases h; exact pwX7_isDigit
  | 8, _ => cases h; exact pwX7_byteAt
  | 9, _ => cases h; exact pwX7_nextToken
  | 10, _ => cases h; exact pwX7_has3
  | 11, _ => cases h; exact pwX7_isWord
  | 12, _ => cases h; exact pwX7_fails
  | 13, _ => cases h; exact pwX7_isFour
  | 14, _ => cases h; exact pwX7_isFive
  | 15, _ => cases h; exact pwX7_isSix
  | k + 16, hk => omega
theorem allW_13 : ∀ k, k < 16 → ∀ my, mT (16 * 13 + k) = some my → lw_tbl[(mP (16 * 13 + k)).1]? = some (.code (mN (16 * 13 + k)).1 (mN (16 * 13 + k)).2 my.2.1 my.2.2.1) := by
  intro k hk my h
  match k, hk with
  | 0, _ => cases h; exact pwX7_kindHere
  | 1, _ => cases h; exact pwX7_isNumber
  | 2, _ => cases h; exact pwX7_garmentHere
  | 3, _ => cases h; exact pwX7_lineHere
  | 4, _ => cases h; exact pwX7_windHere
  | 5, _ => cases h; exact pwX7_meaningHere
  | 6, _ => cases h; exact pwX7_forgetHere
  | 7, _ => cases h; exact pwX7_itemHere
  | 8, _ => cases h; exact pwX7_town
  | 9, _ => cases h; exact pwX7_isSheet
  | 10, _ => cases h; exact pwX7_narrow
  | 11, _ => cases h; exact pwX7_sheet
  | 12, _ => cases h; exact pwX7_write
  | 13, _ => cases h; exact pwX7_copy
  | 14, _ => cases h; exact pwX7_wants
  | 15, _ => cases h; exact pwX7_lays_
  | k + 16, hk => omega
theorem allW_14 : ∀ k, k < 16 → ∀ my, mT (16 * 14 + k) = some my → lw_tbl[(mP (16 * 14 + k)).1]? = some (.code (mN (16 * 14 + k)).1 (mN (16 * 14 + k)).2 my.2.1 my.2.2.1) := by
  intro k hk my h
  match k, hk with
  | 0, _ => cases h; exact pwX7_show
  | 1, _ => cases h; exact pwX7_check
  | 2, _ => cases h; exact pwX7_image
  | 3, _ => cases h; exact pwX7_undo
  | 4, _ => cases h; exact pwX7_tear
  | 5, _ => cases h; exact pwX7_count
  | 6, _ => cases h; exact pwX7_status
  | 7, _ => cases h; exact pwJ6_bitCount_0f7a4
  | 8, _ => cases h; exact pwJ13_bitCount_95d88
  | 9, _ => cases h; exact pwJ0_length_8abf5
  | 10, _ => cases h; exact pwJ0_charAt_5068e
  | 11, _ => cases h; exact pwJ0_coder_7d493
  | 12, _ => cases h; exact pwJ0_isLatin1_aae02
  | 13, _ => cases h; exact pwJ0_checkIndex_df160
  | 14, _ => cases h; exact pwJ1_charAt_3b067
  | 15, _ => cases h; exact pwJ7_fill_d0a16
  | k + 16, hk => omega
theorem allW_15 : ∀ k, k < 2 → ∀ my, mT (16 * 15 + k) = some my → lw_tbl[(mP (16 * 15 + k)).1]? = some (.code (mN (16 * 15 + k)).1 (mN (16 * 15 + k)).2 my.2.1 my.2.2.1) := by
  intro k hk my h
  match k, hk with
  | 0, _ => cases h; exact pwJ7_fill_53178
  | 1, _ => cases h; exact pwJ3_checkIndex_8e157
  | k + 2, hk => omega
theorem allW : ∀ i my, mT i = some my → lw_tbl[(mP i).1]? = some (.code (mN i).1 (mN i).2 my.2.1 my.2.2.1) := by
  intro i my h
  have hi : i < 242 := mT_lt h
  obtain ⟨j, k, hk, rfl⟩ : ∃ j k, k < 16 ∧ i = 16 * j + k := ⟨i / 16, i % 16, Nat.mod_lt _ (by omega), by omega⟩
  match j with
  | 0 => exact allW_0 k (by omega) my h
  | 1 => exact allW_1 k (by omega) my h
  | 2 => exact allW_2 k (by omega) my h
  | 3 => exact allW_3 k (by omega) my h
  | 4 => exact allW_4 k (by omega) my h
  | 5 => exact allW_5 k (by omega) my h
  | 6 => exact allW_6 k (by omega) my h
  | 7 => exact allW_7 k (by omega) my h
  | 8 => exact allW_8 k (by omega) my h
  | 9 => exact allW_9 k (by omega) my h
  | 10 => exact allW_10 k (by omega) my h
  | 11 => exact allW_11 k (by omega) my h
  | 12 => exact allW_12 k (by omega) my h
  | 13 => exact allW_13 k (by omega) my h
  | 14 => exact allW_14 k (by omega) my h
  | 15 => exact allW_15 k (by omega) my h
  | j + 16 => omega
theorem okW_0 : (List.range 16).all (fun k => okW (16 * 0 + k)) = true := by decide +kernel
theorem okW_1 : (List.range 16).all (fun k => okW (16 * 1 + k)) = true := by decide +kernel
theorem okW_2 : (List.range 16).all (fun k => okW (16 * 2 + k)) = true := by decide +kernel
theorem okW_3 : (List.range 16).all (fun k => okW (16 * 3 + k)) = true := by decide +kernel
theorem okW_4 : (List.range 16).all (fun k => okW (16 * 4 + k)) = true := by decide +kernel
theorem okW_5 : (List.range 16).all (fun k => okW (16 * 5 + k)) = true := by decide +kernel
theorem okW_6 : (List.range 16).all (fun k => okW (16 * 6 + k)) = true := by decide +kernel
theorem okW_7 : (List.range 16).all (fun k => okW (16 * 7 + k)) = true := by decide +kernel
theorem okW_8 : (List.range 16).all (fun k => okW (16 * 8 + k)) = true := by decide +kernel
theorem okW_9 : (List.range 16).all (fun k => okW (16 * 9 + k)) = true := by decide +kernel
theorem okW_10 : (List.range 16).all (fun k => okW (16 * 10 + k)) = true := by decide +kernel
theorem okW_11 : (List.range 16).all (fun k => okW (16 * 11 + k)) = true := by decide +kernel
theorem okW_12 : (List.range 16).all (fun k => okW (16 * 12 + k)) = true := by decide +kernel
theorem okW_13 : (List.range 16).all (fun k => okW (16 * 13 + k)) = true := by decide +kernel
theorem okW_14 : (List.range 16).all (fun k => okW (16 * 14 + k)) = true := by decide +kernel
theorem okW_15 : (List.range 2).all (fun k => okW (16 * 15 + k)) = true := by decide +kernel
theorem okW_all : ∀ i, i < 242 → okW i = true := by
  intro i hi
  obtain ⟨j, k, hk, rfl⟩ : ∃ j k, k < 16 ∧ i = 16 * j + k := ⟨i / 16, i % 16, Nat.mod_lt _ (by omega), by omega⟩
  match j with
  | 0 => exact List.all_eq_true.mp okW_0 k (List.mem_range.mpr (by omega))
  | 1 => exact List.all_eq_true.mp okW_1 k (List.mem_range.mpr (by omega))
  | 2 => exact List.all_eq_true.mp okW_2 k (List.mem_range.mpr (by omega))
  | 3 => exact List.all_eq_true.mp okW_3 k (List.mem_range.mpr (by omega))
  | 4 => exact List.all_eq_true.mp okW_4 k (List.mem_range.mpr (by omega))
  | 5 => exact List.all_eq_true.mp okW_5 k (List.mem_range.mpr (by omega))
  | 6 => exact List.all_eq_true.mp okW_6 k (List.mem_range.mpr (by omega))
  | 7 => exact List.all_eq_true.mp okW_7 k (List.mem_range.mpr (by omega))
  | 8 => exact List.all_eq_true.mp okW_8 k (List.mem_range.mpr (by omega))
  | 9 => exact List.all_eq_true.mp okW_9 k (List.mem_range.mpr (by omega))
  | 10 => exact List.all_eq_true.mp okW_10 k (List.mem_range.mpr (by omega))
  | 11 => exact List.all_eq_true.mp okW_11 k (List.mem_range.mpr (by omega))
  | 12 => exact List.all_eq_true.mp okW_12 k (List.mem_range.mpr (by omega))
  | 13 => exact List.all_eq_true.mp okW_13 k (List.mem_range.mpr (by omega))
  | 14 => exact List.all_eq_true.mp okW_14 k (List.mem_range.mpr (by omega))
  | 15 => exact List.all_eq_true.mp okW_15 k (List.mem_range.mpr (by omega))
  | j + 16 => omega
theorem all_td {α : Type} {p : α → Bool} {l : List α} (n : Nat) (h1 : (l.take n).all p = true) (h2 : (l.drop n).all p = true) : l.all p = true := by
  rw [← List.take_append_drop n l, List.all_append, h1, h2]
  rfl
def mlk (q : Nat × Nat × Nat × Nat × Nat) : Bool := match q with
  | (o, i, y, k, ps) => if k = 0 then decide (lw_tbl[ps]? = some (.methodLink (oN o) i (mN y).1)) && decide (lw_tbl[(mP y).2.1]? = some (.instanceMethod (mN y).1)) && decide (lw_tbl[(mP y).2.2.1]? = some (.selects (mN y).1.cls (mN y).1 (mN y).1))
    else if k = 1 then decide (lw_tbl[ps]? = some (.methodLink (oN o) i (mN y).1)) && decide (lw_tbl[(mP y).2.1]? = some (.static (mN y).1))
    else if k = 2 then decide (lw_tbl[ps]? = some (.methodLink (oN o) i (mN y).1)) && decide (lw_tbl[(mP y).2.1]? = some (.instanceMethod (mN y).1)) && decide ((mN y).1.name = "<init>") && (match mT y with | some my => decide (my.2.2.1 = none) | none => true)
    else if k = 3 then decide (lw_tbl[(mP y).2.1]? = some (.static (mN y).1))
    else decide (lw_tbl[(mP y).2.1]? = some (.instanceMethod (mN y).1)) && decide ((mN y).1.name = "<init>") && (match mT y with | some my => decide (my.2.2.1 = none) | none => true)
theorem mlk_0 : ((mL.drop 0).take 32).all mlk = true := by decide +kernel
theorem mlk_32 : ((mL.drop 32).take 32).all mlk = true := by decide +kernel
theorem mlk_64 : ((mL.drop 64).take 32).all mlk = true := by decide +kernel
theorem mlk_96 : ((mL.drop 96).take 32).all mlk = true := by decide +kernel
theorem mlk_128 : ((mL.drop 128).take 32).all mlk = true := by decide +kernel
theorem mlk_160 : ((mL.drop 160).take 32).all mlk = true := by decide +kernel
theorem mlk_192 : ((mL.drop 192).take 32).all mlk = true := by decide +kernel
theorem mlk_224 : ((mL.drop 224).take 32).all mlk = true := by decide +kernel
theorem mlk_256 : ((mL.drop 256).take 32).all mlk = true := by decide +kernel
theorem mle_288 : (mL.drop 288).all mlk = true := by decide +kernel
theorem mle_256 : (mL.drop 256).all mlk = true := all_td 32 mlk_256 (by rw [List.drop_drop]; exact mle_288)
theorem mle_224 : (mL.drop 224).all mlk = true := all_td 32 mlk_224 (by rw [List.drop_drop]; exact mle_256)
theorem mle_192 : (mL.drop 192).all mlk = true := all_td 32 mlk_192 (by rw [List.drop_drop]; exact mle_224)
theorem mle_160 : (mL.drop 160).all mlk = true := all_td 32 mlk_160 (by rw [List.drop_drop]; exact mle_192)
theorem mle_128 : (mL.drop 128).all mlk = true := all_td 32 mlk_128 (by rw [List.drop_drop]; exact mle_160)
theorem mle_96 : (mL.drop 96).all mlk = true := all_td 32 mlk_96 (by rw [List.drop_drop]; exact mle_128)
theorem mle_64 : (mL.drop 64).all mlk = true := all_td 32 mlk_64 (by rw [List.drop_drop]; exact mle_96)
theorem mle_32 : (mL.drop 32).all mlk = true := all_td 32 mlk_32 (by rw [List.drop_drop]; exact mle_64)
theorem mle_0 : (mL.drop 0).all mlk = true := all_td 32 mlk_0 (by rw [List.drop_drop]; exact mle_32)
theorem mlk_ok : mL.all mlk = true := mle_0
end
section
/-! THE SMALL MACHINE AND THE MACHINE -/
def cv (z : Nat) (E : Nat → Value) : Value → Value
  | .ref a => .ref (z + a)
  | .retAddr k => E k
  | v => v
def cC (z : Nat) (E : Nat → Value) (kA : Nat → ClassId) : aC → va_E
  | .inl (ci, fs) => .inr (ci, fs.map (cv z E))
  | .inr (.inl (n, f)) => .inl (kA 0, n, .inl f)
  | .inr (.inr (.inl (n, f))) => .inl (kA 1, n, .inr (.inl f))
  | .inr (.inr (.inr (t, n, f))) => .inl (kA (2 + t), n, .inr (.inr (.inr (.inr (fun j => (f j).map (fun a => z + a))))))
def wl (z : Nat) (E : Nat → Value) (kA : Nat → ClassId) (h : aH) : va_W := h.mapIdx (fun i c => (z + i, cC z E kA c))
theorem wl_at {z : Nat} {E : Nat → Value} {kA : Nat → ClassId} {h : aH} {x : Nat} {c : aC} (hx : h[x]? = some c) : (wl z E kA h)[x]? = some (z + x, cC z E kA c) := by
  simp [wl, List.getElem?_mapIdx, hx]
theorem wl_set {z : Nat} {E : Nat → Value} {kA : Nat → ClassId} {h : aH} {x : Nat} {c : aC} : wl z E kA (h.set x c) = (wl z E kA h).set x (z + x, cC z E kA c) := by
  simp [wl, List.mapIdx_set]
theorem wl_app {z : Nat} {E : Nat → Value} {kA : Nat → ClassId} {h : aH} {c : aC} : wl z E kA (h ++ [c]) = wl z E kA h ++ [(z + h.length, cC z E kA c)] := by
  simp [wl, List.mapIdx_append]
theorem wl_D {z : Nat} {E : Nat → Value} {kA : Nat → ClassId} {h : aH} : va_D (fun q => z ≤ q) (wl z E kA h) := by
  have key : ∀ (i : Nat) (p : Nat × va_E), (wl z E kA h)[i]? = some p → p.1 = z + i := by
    intro i p hi
    rw [wl, List.getElem?_mapIdx] at hi
    cases hc : h[i]? with
    | none => rw [hc] at hi; cases hi
    | some c => rw [hc] at hi; cases hi; rfl
  refine ⟨fun i j p q hi hj e => ?_, fun k q hk => ?_⟩
  · have h1 := key i p hi
    have h2 := key j q hj
    omega
  · have h1 := key k q hk
    show z ≤ q.1
    omega
def tyl (kA : Nat → ClassId) : List (ClassId × FieldType) := [(kA 0, .int), (kA 1, .long), (kA 2, .object RX1), (kA 3, .object RX2)]
/-- what lies outside -/
def Ex (z : Nat) (E : Nat → Value) (X : aX) (U : State) (H : Heap) : Prop :=
  (∃ t, E 0 = .ref t ∧ va_Z "LinenSigns" "UNDER" "[I" (.ref t) (fun q => z ≤ q) U H ∧ va_T .int t 6 (fun j => .int (([-1, 0, 0, 0, 1, 2] : List Int32).getD j 0)) (fun q => z ≤ q) U H) ∧
  va_Z "java/lang/String" "COMPACT_STRINGS" "Z" (.int 1) (fun q => z ≤ q) U H ∧
  va_Z "jdk/internal/util/Preconditions" "SIOOBE_FORMATTER" "Ljava/util/function/BiFunction;" (E 1) (fun q => z ≤ q) U H ∧
  (∃ b, E 2 = .ref b ∧ b < z ∧ va_X b X.1 X.2 U H) ∧
  (∃ adK adV : Nat → Nat, (∀ i, i < 11 → E (10 + i) = .ref (adK i) ∧ E (30 + i) = .ref (adV i) ∧ vk_R "LinenSigns$Tape" (sT.getD i (0, [])).1 (sX.getD i "") (adK i) U) ∧ vk_S 11 (sT.map (fun q => q.2.length)) (sT.map (fun q => q.2)) adK adV (fun q => z ≤ q) U H) ∧
  (∀ q ∈ mL, 3 ≤ q.2.2.2.1 → va_Nw (.methodLinkNest (oN q.1) q.2.1 (mN q.2.2.1).1 RX6) U) ∧ va_AO RX1 U ∧ va_AO RX2 U ∧ ∀ k, E k = .null ∨ ∃ t, E k = .ref t
theorem Ex.to {z : Nat} {E : Nat → Value} {X : aX} {s U : State} {H H1 : Heap} (h : Ex z E X s H) (hW : s.WarmedH U.vm) (hk : ∀ a : Nat, a < H.size → ¬ z ≤ a → H1[a]? = H[a]?) : Ex z E X U H1 := by
  obtain ⟨⟨t, e0, hZ, hT⟩, h1, h2, ⟨b, eb, hb, hX⟩, ⟨adK, adV, hs, hS⟩, hn, ho1, ho2, hE⟩ := h
  have ha := hW.alike
  refine ⟨⟨t, e0, (va_Z.moved ha hZ).kept hk, (va_T.moved ha hT).kept hk⟩, (va_Z.moved ha h1).kept hk, (va_Z.moved ha h2).kept hk, ⟨b, eb, hb, ?_⟩, ⟨adK, adV, fun i hi => ⟨(hs i hi).1, (hs i hi).2.1, (hs i hi).2.2.warm hW⟩, (vk_S.moved ha hS).kept hk⟩, fun q hq h3 => (hn q hq h3).warmM hW, ho1.moved ha, ho2.moved ha, hE⟩
  obtain ⟨scr, g1, -⟩ := id hX
  exact (va_X.moved ha hX).kept (hk b (Array.getElem?_eq_some_iff.mp g1).1 (Nat.not_le.mpr hb))
/-- a method's run, at its start s: what it may count on -/
def Cx (z : Nat) (D : va_G) (kA : Nat → ClassId) (E : Nat → Value) (X : aX) (p : Program) (s : State) (m : MethodId) (args : Array Value) (meth : Method) (c : Code) (cc : ByteArray) (mi : aM) (ii : Bool) : Prop :=
  p.tables.exec = Jvm.exec ∧ c.code = cc ∧ c.maxLocals = mi.2.1 ∧ s.vm.findClass (oN mi.2.2.2.1) = some m.cls ∧ (∀ w ∈ gT, w.before args s = true) ∧ okC cc mi.2.2.2.1 ii 0 mi.1 = true ∧ (ii = true → meth.name = "<init>") ∧ va_K D vwCl (tyl kA) s ∧ Ex z E X s s.heap ∧ z ≤ s.heap.size
def Rl (z : Nat) (D : va_G) (kA : Nat → ClassId) (E : Nat → Value) (s : State) (H : Heap) (locs : List Loc) (h : aH) : Prop := va_P D vwCl (wl z E kA h) H ∧ va_S (fun q => z ≤ q) s.heap H locs
def Lo (z : Nat) (E : Nat → Value) (nL : Nat) (ls : Array Slot) (lo : List Value) : Prop := ls.size = nL ∧ lo.length = nL ∧ lv_wf ls ∧ ∀ (i : Nat) (v : Value), lo[i]? = some v → (∀ b, v ≠ .double b) → ls[i]? = some (.val (cv z E v))
theorem sz_set {h : aH} {x : Nat} {c c' : aC} (hx : h[x]? = some c) (hc : szc c' = szc c) : sz (h.set x c') = sz h := by
  unfold sz
  have : (h.set x c').map szc = h.map szc := by
    rw [List.map_set, hc]
    apply List.ext_getElem?
    intro i
    by_cases hi : i = x
    · subst hi
      rw [List.getElem?_set_self (by rw [List.length_map]; exact (List.getElem?_eq_some_iff.mp hx).1)]
      simp [hx]
    · rw [List.getElem?_set_ne (Ne.symm hi)]
  rw [this]
theorem sz_app {h : aH} {c : aC} : sz (h ++ [c]) = sz h + szc c := by simp [sz]
/-- the locals, as the rows want them -/
def lvs (z : Nat) (E : Nat → Value) (lo : List Value) : List (Nat × Value) := (lo.zipIdx.filter (fun q => match q.1 with | .double _ => false | _ => true)).map (fun q => (q.2, cv z E q.1))
theorem lvs_mem {z : Nat} {E : Nat → Value} {lo : List Value} {i : Nat} {w : Value} : (i, w) ∈ lvs z E lo ↔ ∃ v, lo[i]? = some v ∧ (∀ b, v ≠ .double b) ∧ w = cv z E v := by
  unfold lvs
  constructor
  · intro h
    obtain ⟨⟨v, k⟩, h1, h2⟩ := List.mem_map.mp h
    obtain ⟨h3, h4⟩ := List.mem_filter.mp h1
    have h5 : lo[k]? = some v := by
      have := List.mem_zipIdx_iff_getElem?.mp h3
      simpa using this
    cases h2
    exact ⟨v, h5, fun b e => by subst e; simp at h4, rfl⟩
  · rintro ⟨v, h1, h2, rfl⟩
    refine List.mem_map.mpr ⟨(v, i), List.mem_filter.mpr ⟨List.mem_zipIdx_iff_getElem?.mpr (by simpa using h1), ?_⟩, rfl⟩
    cases v <;> first | rfl | exact absurd rfl (h2 _)
theorem Lo.has {z : Nat} {E : Nat → Value} {nL : Nat} {ls : Array Slot} {lo : List Value} (h : Lo z E nL ls lo) : lv_has ls nL (lvs z E lo) := by
  refine ⟨h.1, h.2.2.1, fun q hq => ?_⟩
  obtain ⟨i, w⟩ := q
  obtain ⟨v, h1, h2, rfl⟩ := lvs_mem.mp hq
  exact h.2.2.2 i v h1 h2
theorem cv_cat {z : Nat} {E : Nat → Value} (hE : ∀ k, E k = .null ∨ ∃ t, E k = .ref t) (v : Value) (h2 : ∀ b, v ≠ .double b) (hl : ∀ x, v ≠ .long x) : (cv z E v).category = 1 := by
  cases v with
  | double b => exact absurd rfl (h2 b)
  | long x => exact absurd rfl (hl x)
  | retAddr k => rcases hE k with e | ⟨t, e⟩ <;> simp [cv, e, Value.category]
  | _ => rfl
theorem sto_at {lo : List Value} {a i : Nat} {v w : Value} (hno : noL lo a = true) (h : (lo.set a v)[i]? = some w) : (i = a ∧ w = v) ∨ (i ≠ a ∧ lo[i]? = some w ∧ (i + 1 = a → ∀ x, w ≠ .long x)) := by
  by_cases e : i = a
  · subst e
    rw [List.getElem?_set] at h
    simp at h
    exact Or.inl ⟨rfl, h.2.symm⟩
  · rw [List.getElem?_set_ne (Ne.symm e)] at h
    refine Or.inr ⟨e, h, fun e2 x hx => ?_⟩
    subst e2
    subst hx
    simp only [noL, h] at hno
    cases hno
theorem Lo.store {z : Nat} {E : Nat → Value} {nL : Nat} {ls ls' : Array Slot} {lo : List Value} {a : Nat} {v : Value} (hE : ∀ k, E k = .null ∨ ∃ t, E k = .ref t) (h : Lo z E nL ls lo) (hno : noL lo a = true) (h' : lv_has ls' nL ((a, cv z E v) :: (lvs z E lo).filter (fun q => !(q.1 == a) && !(q.1 + 1 == a && q.2.category == 2)))) : Lo z E nL ls' (lo.set a v) := by
  refine ⟨h'.1, by rw [List.length_set]; exact h.2.1, h'.2.1, fun i w hi hd => ?_⟩
  rcases sto_at hno hi with ⟨rfl, rfl⟩ | ⟨h1, h2, h3⟩
  · exact h'.2.2 (i, cv z E w) List.mem_cons_self
  · refine h'.2.2 (i, cv z E w) (List.mem_cons_of_mem _ (List.mem_filter.mpr ⟨lvs_mem.mpr ⟨w, h2, hd, rfl⟩, ?_⟩))
    by_cases e : i + 1 = a
    · have := cv_cat hE w hd (h3 e) (z := z)
      simp [h1, this]
    · simp [h1, e]
theorem Lo.store2 {z : Nat} {E : Nat → Value} {nL : Nat} {ls ls' : Array Slot} {lo : List Value} {a : Nat} {v : Value} (hE : ∀ k, E k = .null ∨ ∃ t, E k = .ref t) (h : Lo z E nL ls lo) (hno : noL lo a = true) (h' : lv_has ls' nL ((a, cv z E v) :: (lvs z E lo).filter (fun q => !(q.1 == a) && (!(q.1 == a + 1) && !(q.1 + 1 == a && q.2.category == 2))))) : Lo z E nL ls' ((lo.set a v).set (a + 1) (.double 0)) := by
  refine ⟨h'.1, by rw [List.length_set, List.length_set]; exact h.2.1, h'.2.1, fun i w hi hd => ?_⟩
  have hne : i ≠ a + 1 := by
    intro e
    subst e
    rw [List.getElem?_set] at hi
    simp at hi
    exact hd 0 hi.2.symm
  rw [List.getElem?_set_ne (Ne.symm hne)] at hi
  rcases sto_at hno hi with ⟨rfl, rfl⟩ | ⟨h1, h2, h3⟩
  · exact h'.2.2 (i, cv z E w) List.mem_cons_self
  · refine h'.2.2 (i, cv z E w) (List.mem_cons_of_mem _ (List.mem_filter.mpr ⟨lvs_mem.mpr ⟨w, h2, hd, rfl⟩, ?_⟩))
    by_cases e : i + 1 = a
    · have := cv_cat hE w hd (h3 e) (z := z)
      simp [h1, hne, this]
    · simp [h1, hne, e]
/-! ===== what the tables say ===== -/
def clk (i : Nat) : Bool := decide (vwCl.length = 8) && (match vwCl[i]? with
  | none => false
  | some (C, _, N) => decide (C = oN i ∧ N = nF i ∧ (dF i).length = N) && ((u_ws C (tF i) N).all (fun w => decide (w ∈ lw_tbl) && goodWord w)) && decide (Cond.instantiable C N ∈ lw_tbl) && decide (Cond.initialized C ∈ lw_tbl))
theorem clk_ok : (List.range 8).all clk = true := by decide +kernel
theorem cls_at : ∀ i, i < 8 → vwCl[i]? = some (oN i, tF i, nF i) := by
  intro i hi
  rcases (show i = 0 ∨ i = 1 ∨ i = 2 ∨ i = 3 ∨ i = 4 ∨ i = 5 ∨ i = 6 ∨ i = 7 by omega) with rfl | rfl | rfl | rfl | rfl | rfl | rfl | rfl <;> rfl
theorem cls_ws {i : Nat} (hi : i < 8) : (∀ w ∈ u_ws (oN i) (tF i) (nF i), w ∈ gT) ∧ Cond.instantiable (oN i) (nF i) ∈ gT ∧ Cond.initialized (oN i) ∈ gT ∧ (dF i).length = nF i := by
  have h := List.all_eq_true.mp clk_ok i (List.mem_range.mpr hi)
  unfold clk at h
  rw [cls_at i hi] at h
  simp only [Bool.and_eq_true, decide_eq_true_eq, List.all_eq_true] at h
  obtain ⟨-, ⟨⟨h1, h2⟩, h3⟩, h4⟩ := h
  exact ⟨fun w hw => List.mem_filter.mpr ⟨(h2 w hw).1, (h2 w hw).2⟩, List.mem_filter.mpr ⟨h3, rfl⟩, List.mem_filter.mpr ⟨h4, rfl⟩, h1.2.2⟩
theorem cls_ty {i : Nat} (hi : i < 8) : (∀ k, k < nF i → parseFieldDescriptor (tF i k).2.2.1 = some (tY i k)) ∧ (∀ a, a < nF i → ∀ b, b < nF i → a ≠ b → (tF i a).2.1 ≠ (tF i b).2.1) := by
  rcases (show i = 0 ∨ i = 1 ∨ i = 2 ∨ i = 3 ∨ i = 4 ∨ i = 5 ∨ i = 6 ∨ i = 7 by omega) with rfl | rfl | rfl | rfl | rfl | rfl | rfl | rfl
  · exact ⟨tyX0_ok, nmX0⟩
  · exact ⟨tyX1_ok, nmX1⟩
  · exact ⟨tyX2_ok, nmX2⟩
  · exact ⟨tyX3_ok, nmX3⟩
  · exact ⟨tyX4_ok, nmX4⟩
  · exact ⟨tyX5_ok, nmX5⟩
  · exact ⟨tyX6_ok, nmX6⟩
  · exact ⟨tyX7_ok, nmX7⟩
def flk (q : Nat × Nat × Nat × Nat × Nat) : Bool := decide (q.2.2.1 < 8) && decide (q.2.2.2.1 < nF q.2.2.1) && decide (lw_tbl[q.2.2.2.2]? = some (.fieldLink (oN q.1) q.2.1 (tF q.2.2.1 q.2.2.2.1).1 (tF q.2.2.1 q.2.2.2.1).2.1 (tF q.2.2.1 q.2.2.2.1).2.2.1))
theorem flk_ok : fL.all flk = true := by decide +kernel
theorem fL_at {o i a b : Nat} (h : fL.any (fun q => decide (q.1 = o ∧ q.2.1 = i ∧ q.2.2.1 = a ∧ q.2.2.2.1 = b)) = true) : a < 8 ∧ b < nF a ∧ Cond.fieldLink (oN o) i (tF a b).1 (tF a b).2.1 (tF a b).2.2.1 ∈ gT := by
  obtain ⟨q, hq, h1⟩ := List.any_eq_true.mp h
  obtain ⟨rfl, rfl, rfl, rfl⟩ := of_decide_eq_true h1
  have h2 := List.all_eq_true.mp flk_ok q hq
  unfold flk at h2
  simp only [Bool.and_eq_true, decide_eq_true_eq] at h2
  exact ⟨h2.1.1, h2.1.2, gT_in _ h2.2 rfl⟩
def klk (q : Nat × Nat × Value × Nat) : Bool := match q.2.2.1 with
  | .int x => decide (lw_tbl[q.2.2.2]? = some (.constant (oN q.1) q.2.1 x))
  | .long x => decide (lw_tbl[q.2.2.2]? = some (.constantLong (oN q.1) q.2.1 x))
  | _ => false
theorem klk_ok : kL.all klk = true := by decide +kernel
def nlk (q : Nat × Nat × Nat × Nat) : Bool := decide (q.2.2.1 < 8) && decide (lw_tbl[q.2.2.2]? = some (.classLink (oN q.1) q.2.1 (oN q.2.2.1)))
theorem nlk_ok : nL.all nlk = true := by decide +kernel
theorem nL_at {o i a : Nat} (h : nL.any (fun q => decide (q.1 = o ∧ q.2.1 = i ∧ q.2.2.1 = a)) = true) : a < 8 ∧ Cond.classLink (oN o) i (oN a) ∈ gT := by
  obtain ⟨q, hq, h1⟩ := List.any_eq_true.mp h
  obtain ⟨rfl, rfl, rfl⟩ := of_decide_eq_true h1
  have h2 := List.all_eq_true.mp nlk_ok q hq
  unfold nlk at h2
  simp only [Bool.and_eq_true, decide_eq_true_eq] at h2
  exact ⟨h2.1, gT_in _ h2.2 rfl⟩
end
section
section STEP
variable {z : Nat} {D : va_G} {kA : Nat → ClassId} {E : Nat → Value} {X : aX} {p : Program} {l : Launch} {e : Env} {R : Room} {s : State} {m : MethodId} {args : Array Value} {below : List Frame} {meth : Method} {c : Code} {cc : ByteArray} {mi : aM} {ii : Bool} {H : Heap} {locs : List Loc} {cells slots : Nat} {Q : State → Prop} {ls : Array Slot}
/-- a new array of ints or longs, at the heap's end -/
theorem my_newa (hexec : p.tables.exec = Jvm.exec) (hb : c.code = cc) {pc : Nat} {rest : List Value} {ws : va_W} {H0 : Heap} {A : Nat → Prop} {atype : ArrayType} (harr : (Cond.arrayClass (newarray.typeOf atype)).before args s = true) {ty : FieldType} (hty : newarray.typeOf atype = ty) (hP : va_P D vwCl ws H) (hS : va_S A H0 H locs) {cA : ClassId} (hcA : s.vm.findClass ("[" ++ ty.toString) = some cA)
    {n : Int32} {N' : Nat} {a0 : vp_A} (ha : ∀ cA : ClassId, vp_cell cA a0 = arrV cA N' (fun _ => defaultValue ty)) (hn : ¬ n < 0) (hN : n.toNatClampNeg = N') (hbytes : N' * componentBytes ty ≤ 536870912) (hcells : cells + 1 ≤ R.cells) (hslots : slots + N' ≤ R.slots) (hdg : decode cc pc = .ok (.newarray atype, 2))
    (kk : ∀ (H1 : Heap), H1.size = H.size + 1 → va_P D vwCl (ws ++ [(H.size, .inl (cA, a0))]) H1 → va_S A H0 H1 locs → W p l e R s m args below meth c H1 locs (cells + 1) (slots + N') Q (F0 m (pc + 2) ls (.ref H.size :: rest))) : W p l e R s m args below meth c H locs cells slots Q (F0 m pc ls (.int n :: rest)) := by
  subst hty
  refine va_newaK hexec hb harr rfl hdg rfl hn hN hbytes hcells hslots rfl fun H1 cA' e1 z1 o1 hAr hNm => ?_
  have hcc : cA' = cA := Option.some.inj (hNm.symm.trans hcA)
  subst hcc
  have hk : ∀ (k : Nat) (x : Nat × va_E), ws[k]? = some x → H1[x.1]? = H[x.1]? := fun k x hx => o1 x.1 ((hP k x hx).lt)
  refine kk H1 z1 ((hP.kept hk).app (fun k x hx => ?_)) ⟨Nat.le_trans hS.1 (by omega), fun x h1 h2 => (o1 x (Nat.lt_of_lt_of_le h1 hS.1)).trans (hS.2.1 x h1 h2), hS.2.2⟩
  have hz : k < 1 := (List.getElem?_eq_some_iff.mp hx).1
  rw [show k = 0 by omega] at hx
  cases hx
  show H1[H.size]? = some (vp_cell _ _)
  rw [ha]
  exact e1
theorem my_newq (hexec : p.tables.exec = Jvm.exec) (hb : c.code = cc) {pc : Nat} {rest : List Value} {ws : va_W} {H0 : Heap} {A : Nat → Prop} {own C : String} {index : Nat} (hown : s.vm.findClass own = some m.cls) (hclink : (Cond.classLink own index C).before args s = true) (hover : va_AO C s) (hP : va_P D vwCl ws H) (hS : va_S A H0 H locs) {cA : ClassId} (hcA : s.vm.findClass ("[" ++ (FieldType.object C).toString) = some cA)
    {n : Int32} (hn : ¬ n < 0) (hbytes : n.toNatClampNeg * 4 ≤ 536870912) (hcells : cells + 1 ≤ R.cells) (hslots : slots + n.toNatClampNeg ≤ R.slots) (hdg : decode cc pc = .ok (.anewarray index, 3))
    (kk : ∀ (H1 : Heap), H1.size = H.size + 1 → va_P D vwCl (ws ++ [(H.size, .inl (cA, n.toNatClampNeg, .inr (.inr (.inr (.inr (fun _ => none))))))]) H1 → va_S A H0 H1 locs → W p l e R s m args below meth c H1 locs (cells + 1) (slots + n.toNatClampNeg) Q (F0 m (pc + 3) ls (.ref H.size :: rest))) : W p l e R s m args below meth c H locs cells slots Q (F0 m pc ls (.int n :: rest)) := by
  refine W.anew hexec hb hown hclink (va_AO.use hover) rfl hdg rfl hn hbytes hcells hslots fun cA' kA' comp f1 f2 f3 f4 => ?_
  have hcc : cA' = cA := Option.some.inj (f1.symm.trans hcA)
  subst hcc
  generalize hH1 : H.push ({ cls := cA', slots := Array.replicate n.toNatClampNeg .null, vm := .none } : Cell) = H1
  have z1 : H1.size = H.size + 1 := by rw [← hH1, Array.size_push]
  have e1 : H1[H.size]? = some (arrV cA' n.toNatClampNeg (fun _ => .null)) := by rw [← hH1, Array.getElem?_push_size, ← arrV_new]
  have o1 : ∀ q : Nat, q < H.size → H1[q]? = H[q]? := fun q hq => by rw [← hH1, Array.getElem?_push, if_neg (Nat.ne_of_lt hq)]
  have hk : ∀ (k : Nat) (x : Nat × va_E), ws[k]? = some x → H1[x.1]? = H[x.1]? := fun k x hx => o1 x.1 ((hP k x hx).lt)
  refine kk H1 z1 ((hP.kept hk).app (fun k x hx => ?_)) ⟨Nat.le_trans hS.1 (by omega), fun x h1 h2 => (o1 x (Nat.lt_of_lt_of_le h1 hS.1)).trans (hS.2.1 x h1 h2), hS.2.2⟩
  have hz : k < 1 := (List.getElem?_eq_some_iff.mp hx).1
  rw [show k = 0 by omega] at hx
  cases hx
  exact e1
theorem my_new (hexec : p.tables.exec = Jvm.exec) (hb : c.code = cc) {pc : Nat} {rest : List Value} {ws : va_W} {H0 : Heap} {A : Nat → Prop} {own C : String} {T : u_T} {N ci index : Nat} {Ts : List Cond} (hts : ∀ w ∈ Ts, w.before args s = true) (hin : ∀ w ∈ u_ws C T N, w ∈ Ts) (ty : Nat → FieldType) (hty : ∀ k, k < N → parseFieldDescriptor (T k).2.2.1 = some (ty k)) (hown : s.vm.findClass own = some m.cls) (hcl : (Cond.classLink own index C).before args s = true) (hinst : (Cond.instantiable C N).before args s = true) (hini : (Cond.initialized C).before args s = true) {tys : List (ClassId × FieldType)}
    (hK : va_K D vwCl tys s) (hP : va_P D vwCl ws H) (hS : va_S A H0 H locs) (hc : vwCl[ci]? = some (C, T, N)) {fs : List Value} (hfs : ∀ j, j < N → defaultValue (ty j) = vp_V fs j) (hcells : cells + 1 ≤ R.cells) (hslots : slots + N ≤ R.slots) (hdg : decode cc pc = .ok (.new index, 3))
    (kk : ∀ (H1 : Heap), H1.size = H.size + 1 → va_P D vwCl (ws ++ [(H.size, .inr (ci, fs))]) H1 → va_S A H0 H1 locs → W p l e R s m args below meth c H1 locs (cells + 1) (slots + N) Q (F0 m (pc + 3) ls (.ref H.size :: rest))) : W p l e R s m args below meth c H locs cells slots Q (F0 m pc ls rest) := by
  have hKn := hK.1 ci _ hc
  refine W.newcK hexec hb hown hcl hinst hini rfl hdg hcells hslots hKn.2.1 rfl fun H1 kC hkC e1 z1 o1 => ?_
  have hk : ∀ (k : Nat) (x : Nat × va_E), ws[k]? = some x → H1[x.1]? = H[x.1]? := fun k x hx => o1 x.1 ((hP k x hx).lt)
  refine kk H1 z1 ((hP.kept hk).app (fun k x hx => ?_)) ⟨Nat.le_trans hS.1 (by omega), fun x h1 h2 => (o1 x (Nat.lt_of_lt_of_le h1 hS.1)).trans (hS.2.1 x h1 h2), hS.2.2⟩
  have hz : k < 1 := (List.getElem?_eq_some_iff.mp hx).1
  rw [show k = 0 by omega] at hx
  cases hx
  exact ⟨_, hc, (u_born ty hts hin hKn hkC e1 hty).to hfs⟩
/-- what a step's continuation is -/
abbrev KK (z : Nat) (D : va_G) (kA : Nat → ClassId) (E : Nat → Value) (p : Program) (l : Launch) (e : Env) (R : Room) (s : State) (m : MethodId) (args : Array Value) (below : List Frame) (meth : Method) (c : Code) (nL cells slots : Nat) (Q : State → Prop) (h : aH) (pc' : Nat) (lo' st' : List Value) (h' : aH) : Prop :=
  ∀ (ls' : Array Slot) (H' : Heap) (locs' : List Loc), Lo z E nL ls' lo' → Rl z D kA E s H' locs' h' → W p l e R s m args below meth c H' locs' (cells + (h'.length - h.length)) (slots + (sz h' - sz h)) Q (F0 m pc' ls' (st'.map (cv z E)))
variable {pc nx a b : Nat} {v : Value} {lo st : List Value} {h : aH} {pc' : Nat} {lo' st' : List Value} {h' : aH}
theorem KK.same (kk : KK z D kA E p l e R s m args below meth c mi.2.1 cells slots Q h pc' lo' st' h) (hL : Lo z E mi.2.1 ls lo') (hR : Rl z D kA E s H locs h) : W p l e R s m args below meth c H locs cells slots Q (F0 m pc' ls (st'.map (cv z E))) := by
  have := kk ls H locs hL hR
  rwa [Nat.sub_self, Nat.sub_self, Nat.add_zero, Nat.add_zero] at this
theorem KK.sets {x : Nat} {c0 c1 : aC} (kk : KK z D kA E p l e R s m args below meth c mi.2.1 cells slots Q h pc' lo' st' (h.set x c1)) (hx : h[x]? = some c0) (hc : szc c1 = szc c0) (hL : Lo z E mi.2.1 ls lo') {H1 : Heap} {locs1 : List Loc} (hR : Rl z D kA E s H1 locs1 (h.set x c1)) : W p l e R s m args below meth c H1 locs1 cells slots Q (F0 m pc' ls (st'.map (cv z E))) := by
  have := kk ls H1 locs1 hL hR
  rwa [sz_set hx hc, List.length_set, Nat.sub_self, Nat.sub_self, Nat.add_zero, Nat.add_zero] at this
theorem KK.grow {c1 : aC} (kk : KK z D kA E p l e R s m args below meth c mi.2.1 cells slots Q h pc' lo' st' (h ++ [c1])) (hL : Lo z E mi.2.1 ls lo') {H1 : Heap} {locs1 : List Loc} (hR : Rl z D kA E s H1 locs1 (h ++ [c1])) : W p l e R s m args below meth c H1 locs1 (cells + 1) (slots + szc c1) Q (F0 m pc' ls (st'.map (cv z E))) := by
  have := kk ls H1 locs1 hL hR
  rw [sz_app, List.length_append] at this
  rwa [show h.length + [c1].length - h.length = 1 by simp, show sz h + szc c1 - sz h = szc c1 by omega] at this
/-- a cell is set -/
theorem Rl.sets {x : Nat} {c1 : aC} {H1 : Heap} {locs1 : List Loc} (hP : va_P D vwCl ((wl z E kA h).set x (z + x, cC z E kA c1)) H1) (hS : va_S (fun q => z ≤ q) s.heap H1 locs1) : Rl z D kA E s H1 locs1 (h.set x c1) :=
  ⟨by rw [wl_set]; exact hP, hS⟩
theorem Rl.grow {c1 : aC} {H1 : Heap} {locs1 : List Loc} (hz : H.size = z + h.length) (hP : va_P D vwCl (wl z E kA h ++ [(H.size, cC z E kA c1)]) H1) (hS : va_S (fun q => z ≤ q) s.heap H1 locs1) : Rl z D kA E s H1 locs1 (h ++ [c1]) :=
  ⟨by rw [wl_app, ← hz]; exact hP, hS⟩
/-- the heap's size, by the cells that were made -/
theorem W.hsz (hz : z ≤ s.heap.size) (hn : s.heap.size + cells = z + h.length) (hR : Rl z D kA E s H locs h) {g : JFrame} (k : H.size = z + h.length → W p l e R s m args below meth c H locs cells slots Q g) : W p l e R s m args below meth c H locs cells slots Q g := by
  intro T hT X0
  have h1 := X0.heapSize
  rw [hT] at h1
  refine k ?_ T hT X0
  have h2 : z + h.length ≤ H.size := by
    cases hh : h.length with
    | zero => exact Nat.le_trans hz hR.2.1
    | succ n =>
      obtain ⟨c0, hc0⟩ : ∃ c0, h[n]? = some c0 := ⟨_, List.getElem?_eq_getElem (by omega)⟩
      have := (hR.1 n _ (wl_at (z := z) (E := E) (kA := kA) hc0)).lt
      simp only at this
      omega
  omega
end STEP
end
section
theorem kL_int {o i : Nat} {v : Value} (h : kL.any (fun q => decide (q.1 = o ∧ q.2.1 = i ∧ q.2.2.1 = v ∧ (∃ x ∈ (match v with | .int x => some x | _ => none), v = .int x))) = true) : ∃ x, v = .int x ∧ Cond.constant (oN o) i x ∈ gT := by
  obtain ⟨q, hq, h1⟩ := List.any_eq_true.mp h
  obtain ⟨rfl, rfl, h3, x, -, rfl⟩ := of_decide_eq_true h1
  have h2 := List.all_eq_true.mp klk_ok q hq
  unfold klk at h2
  rw [h3] at h2
  exact ⟨x, rfl, gT_in _ (of_decide_eq_true h2) rfl⟩
theorem kL_long {o i : Nat} {v : Value} (h : kL.any (fun q => decide (q.1 = o ∧ q.2.1 = i ∧ q.2.2.1 = v ∧ (∃ x ∈ (match v with | .long x => some x | _ => none), v = .long x))) = true) : ∃ x, v = .long x ∧ Cond.constantLong (oN o) i x ∈ gT := by
  obtain ⟨q, hq, h1⟩ := List.any_eq_true.mp h
  obtain ⟨rfl, rfl, h3, x, -, rfl⟩ := of_decide_eq_true h1
  have h2 := List.all_eq_true.mp klk_ok q hq
  unfold klk at h2
  rw [h3] at h2
  exact ⟨x, rfl, gT_in _ (of_decide_eq_true h2) rfl⟩
def glk (q : Nat × Nat × Value × String × String × String × Nat) : Bool := decide (lw_tbl[q.2.2.2.2.2.2]? = some (.fieldLink (oN q.1) q.2.1 q.2.2.2.1 q.2.2.2.2.1 q.2.2.2.2.2.1))
theorem glk_ok : gS.all glk = true := by decide +kernel
def slk (q : Nat × Nat × Nat × Nat) : Bool := decide (lw_tbl[q.2.2.2]? = some (.fieldLink (oN q.1) q.2.1 "java/lang/String" (if q.2.2.1 = 0 then "value" else "coder") (if q.2.2.1 = 0 then "[B" else "B")))
theorem slk_ok : sL.all slk = true := by decide +kernel
def m9k (q : Nat × Nat × Nat) : Bool := decide (lw_tbl[q.2.2]? = some (.methodLink (oN q.1) q.2.1 objectInit))
theorem m9k_ok : m9.all m9k = true := by decide +kernel
def m1k (q : Nat × Nat × Nat) : Bool := decide (lw_tbl[q.2.2]? = some (.methodLink (oN q.1) q.2.1 arraycopyName))
theorem m1k_ok : m1.all m1k = true := by decide +kernel
theorem objw : Cond.instanceMethod objectInit ∈ lw_tbl ∧ Cond.code objectInit ⟨#[0xb1]⟩ 1 none ∈ lw_tbl := by decide +kernel
theorem acpw : Cond.native arraycopyName ∈ lw_tbl ∧ Cond.static arraycopyName ∈ lw_tbl ∧ Cond.initialized "java/lang/System" ∈ lw_tbl := by decide +kernel
theorem arrw : Cond.arrayClass .int ∈ lw_tbl ∧ Cond.arrayClass .long ∈ lw_tbl := by decide +kernel
def mmk (q : Nat × Nat × Nat × Nat) : Bool := decide (lw_tbl[q.2.2.2]? = some (.methodLink (oN q.1) q.2.1 (if q.2.2.1 = 902 then Lib.Math.abs.name else if q.2.2.1 = 903 then Lib.Math.max.name else Lib.Math.min.name)))
theorem mmk_ok : mm.all mmk = true := by decide +kernel
theorem mthw : Cond.initialized "java/lang/Math" ∈ lw_tbl ∧ (Cond.static Lib.Math.abs.name ∈ lw_tbl ∧ Cond.code Lib.Math.abs.name Lib.Math.abs.code 1 (some .int) ∈ lw_tbl) ∧ (Cond.static Lib.Math.max.name ∈ lw_tbl ∧ Cond.code Lib.Math.max.name Lib.Math.max.code 2 (some .int) ∈ lw_tbl) ∧ (Cond.static Lib.Math.min.name ∈ lw_tbl ∧ Cond.code Lib.Math.min.name Lib.Math.min.code 2 (some .int) ∈ lw_tbl) := by decide +kernel
theorem mm_of {o i : Nat} (n : Nat) (h : mm.any (fun q => decide (q.1 = o ∧ q.2.1 = i ∧ q.2.2.1 = n)) = true) : Cond.methodLink (oN o) i (if n = 902 then Lib.Math.abs.name else if n = 903 then Lib.Math.max.name else Lib.Math.min.name) ∈ gT := by
  obtain ⟨q, hq, h1⟩ := List.any_eq_true.mp h
  obtain ⟨rfl, rfl, rfl⟩ := of_decide_eq_true h1
  have h2 := List.all_eq_true.mp mmk_ok q hq
  unfold mmk at h2
  exact gT_in _ (of_decide_eq_true h2) rfl
theorem mm_no : mm.all (fun q => decide (q.2.2.1 ≠ 901)) = true := by decide +kernel
theorem m1_of {o i : Nat} (h : m1.any (fun q => decide (q.1 = o ∧ q.2.1 = i)) = true ∨ mm.any (fun q => decide (q.1 = o ∧ q.2.1 = i ∧ q.2.2.1 = 901)) = true) : m1.any (fun q => decide (q.1 = o ∧ q.2.1 = i)) = true := by
  rcases h with h | h
  · exact h
  · obtain ⟨q, hq, h1⟩ := List.any_eq_true.mp h
    exact absurd (of_decide_eq_true h1).2.2 (of_decide_eq_true (List.all_eq_true.mp mm_no q hq))
theorem g_of {w : Cond} (h : w ∈ lw_tbl) (hg : goodWord w = true) : w ∈ gT := List.mem_filter.mpr ⟨h, hg⟩
theorem put_ok {z : Nat} {E : Nat → Value} {T : FieldType} {v w : Value} (hk : (match T, v with | .int, .int x => decide (x = 0) | .boolean, .int x => decide (x = 1) | .object _, .null => true | .array _, .null => true | _, _ => false) = true) (hf : fok v w = true) : narrow T (cv z E w) = cv z E w ∧ fits T (cv z E w) = true := by
  split at hk
  · cases w <;> first | exact ⟨rfl, rfl⟩ | (simp [fok] at hf; done)
  · rename_i x
    have hx1 : x = 1 := of_decide_eq_true hk
    subst hx1
    cases w <;> try (simp [fok] at hf; done)
    rename_i y
    have : y = 0 ∨ y = 1 := by simpa [fok] using hf
    rcases this with rfl | rfl <;> exact ⟨rfl, rfl⟩
  · cases w <;> first | exact ⟨rfl, rfl⟩ | (simp [fok] at hf; done)
  · cases w <;> first | exact ⟨rfl, rfl⟩ | (simp [fok] at hf; done)
  · cases hk
theorem cv_cateq {z : Nat} {E : Nat → Value} (hE : ∀ k, E k = .null ∨ ∃ t, E k = .ref t) (v : Value) : (cv z E v).category = v.category := by
  cases v with
  | retAddr k => rcases hE k with e | ⟨t, e⟩ <;> simp [cv, e, Value.category]
  | _ => rfl
theorem cv_sum {z : Nat} {E : Nat → Value} (hE : ∀ k, E k = .null ∨ ∃ t, E k = .ref t) (l : List Value) : ((l.map (cv z E)).map fun v => v.category).sum = (l.map Value.category).sum := by
  rw [List.map_map]
  congr 1
  exact List.map_congr_left (fun v _ => cv_cateq hE v)
theorem dF_cv {z : Nat} {E : Nat → Value} {a : Nat} (h8 : a < 8) : (dF a).map (cv z E) = dF a := by
  rcases (show a = 0 ∨ a = 1 ∨ a = 2 ∨ a = 3 ∨ a = 4 ∨ a = 5 ∨ a = 6 ∨ a = 7 by omega) with rfl | rfl | rfl | rfl | rfl | rfl | rfl | rfl <;> rfl
theorem dF_ok0 : ∀ a, a < 8 → ∀ j, j < nF a → defaultValue (tY a j) = vp_V (dF a) j := by decide +kernel
theorem dF_ok {a : Nat} (h8 : a < 8) : ∀ j, j < nF a → defaultValue (tY a j) = vp_V (dF a) j := dF_ok0 a h8
section STEPW
variable {z : Nat} {D : va_G} {kA : Nat → ClassId} {E : Nat → Value} {X : aX} {p : Program} {l : Launch} {e : Env} {R : Room} {s : State} {m : MethodId} {args : Array Value} {below : List Frame} {meth : Method} {c : Code} {cc : ByteArray} {mi : aM} {ii : Bool} {H : Heap} {locs : List Loc} {cells slots : Nat} {Q : State → Prop} {ls : Array Slot}
variable {ins : Instr} {pc nx a b : Nat} {v : Value} {lo st : List Value} {h : aH} {pc' : Nat} {lo' st' : List Value} {h' : aH}
set_option maxHeartbeats 40000000 in
set_option maxRecDepth 100000 in
theorem stp_W (hC : Cx z D kA E X p s m args meth c cc mi ii) (he : ent mi pc = some (ins, nx, a, b, v)) (hs : stp X pc (ins, nx, a, b, v) lo st h = some (.inl (pc', lo', st', h'))) (hL : Lo z E mi.2.1 ls lo) (hR : Rl z D kA E s H locs h) (hn : s.heap.size + cells = z + h.length) (hcap : cells + (h'.length - h.length) ≤ R.cells ∧ slots + (sz h' - sz h) ≤ R.slots) (hroom : 1 ≤ R.frames ∧ 64 ≤ R.locals) (kk : KK z D kA E p l e R s m args below meth c mi.2.1 cells slots Q h pc' lo' st' h') : W p l e R s m args below meth c H locs cells slots Q (F0 m pc ls (st.map (cv z E))) := by
  obtain ⟨hx, hb, hml, hown, hts, hok, hini, hK, hEx, hz⟩ := hC
  have ho := ent_ok hok he
  unfold okE at ho
  rw [Bool.and_eq_true] at ho
  obtain ⟨hd, ho⟩ := ho
  have hE : ∀ k, E k = .null ∨ ∃ t, E k = .ref t := hEx.2.2.2.2.2.2.2.2
  cases ins
  all_goals try (simp only [stp, reduceCtorEq] at hs; done)
  case iconst n =>
    simp only [okD, Bool.and_eq_true, decide_eq_true_eq] at hd
    obtain ⟨rfl, hd⟩ := hd
    simp only [okO, Bool.and_eq_true, Bool.or_eq_true, decide_eq_true_eq] at ho
    simp only [stp] at hs
    subst ho
    cases hs
    exact lv_iconst hx hb hd rfl (KK.same kk hL hR)
  case bipush n =>
    simp only [okD, Bool.and_eq_true, decide_eq_true_eq] at hd
    obtain ⟨rfl, hd⟩ := hd
    simp only [okO, Bool.and_eq_true, Bool.or_eq_true, decide_eq_true_eq] at ho
    simp only [stp] at hs
    subst ho
    cases hs
    exact lv_bipush hx hb hd rfl (KK.same kk hL hR)
  case sipush n =>
    simp only [okD, Bool.and_eq_true, decide_eq_true_eq] at hd
    obtain ⟨rfl, hd⟩ := hd
    simp only [okO, Bool.and_eq_true, Bool.or_eq_true, decide_eq_true_eq] at ho
    simp only [stp] at hs
    subst ho
    cases hs
    exact lv_sipush hx hb hd rfl (KK.same kk hL hR)
  case lconst n =>
    simp only [okD, Bool.and_eq_true, decide_eq_true_eq] at hd
    obtain ⟨rfl, hd⟩ := hd
    simp only [okO, Bool.and_eq_true, Bool.or_eq_true, decide_eq_true_eq] at ho
    simp only [stp] at hs
    subst ho
    cases hs
    exact lv_lconst hx hb hd rfl (KK.same kk hL hR)
  case ldc i =>
    simp only [okD, Bool.and_eq_true, decide_eq_true_eq] at hd
    obtain ⟨rfl, hd⟩ := hd
    simp only [okO, Bool.and_eq_true, Bool.or_eq_true, decide_eq_true_eq] at ho
    simp only [stp] at hs
    rcases ho with ho | ⟨ho3, ho⟩
    · obtain ⟨x, rfl, hw⟩ := kL_int ho
      cases hs
      exact lv_ldc hx hb hown (hts _ hw) hd (KK.same kk hL hR)
    · obtain ⟨j, hj, ho⟩ := List.any_eq_true.mp ho
      obtain ⟨rfl, rfl⟩ := of_decide_eq_true ho
      obtain ⟨adK, adV, hsx, -⟩ := hEx.2.2.2.2.1
      obtain ⟨e1, e2, e3⟩ := hsx j (List.mem_range.mp hj)
      cases hs
      have ho3 : mi.2.2.2.1 = 3 := by simpa using ho3
      have hown3 : s.vm.findClass "LinenSigns$Tape" = some m.cls := by rw [ho3] at hown; exact hown
      refine va_ldcS hx hb hown3 e3 hd ?_
      have := KK.same kk hL hR
      simp only [List.map_cons, cv] at this
      rw [e1] at this
      exact this
  case ldc_w i =>
    simp only [okD, Bool.and_eq_true, decide_eq_true_eq] at hd
    obtain ⟨rfl, hd⟩ := hd
    simp only [okO, Bool.and_eq_true, Bool.or_eq_true, decide_eq_true_eq] at ho
    simp only [stp] at hs
    obtain ⟨x, rfl, hw⟩ := kL_int ho
    cases hs
    exact lv_ldcw hx hb hown (hts _ hw) hd (KK.same kk hL hR)
  case ldc2_w i =>
    simp only [okD, Bool.and_eq_true, decide_eq_true_eq] at hd
    obtain ⟨rfl, hd⟩ := hd
    simp only [okO, Bool.and_eq_true, Bool.or_eq_true, decide_eq_true_eq] at ho
    simp only [stp] at hs
    obtain ⟨x, rfl, hw⟩ := kL_long ho
    cases hs
    exact lv_ldc2 hx hb hown (hts _ hw) hd (KK.same kk hL hR)
  case getstatic i =>
    simp only [okD, Bool.and_eq_true, decide_eq_true_eq] at hd
    obtain ⟨rfl, hd⟩ := hd
    simp only [okO, Bool.and_eq_true, Bool.or_eq_true, decide_eq_true_eq] at ho
    simp only [stp] at hs
    obtain ⟨q, hq, ho⟩ := List.any_eq_true.mp ho
    have hg := List.all_eq_true.mp glk_ok q hq
    unfold glk at hg
    have hg := gT_in _ (of_decide_eq_true hg) rfl
    have hg := hts _ hg
    obtain ⟨e1, rfl, rfl⟩ := of_decide_eq_true ho
    rw [e1] at hg
    cases hs
    have K := KK.same kk hL hR
    obtain ⟨⟨t, t0, tZ, -⟩, cZ, fZ, -⟩ := hEx
    have hq : q ∈ [_, _, _] := hq
    rcases List.mem_cons.mp hq with rfl | hq
    · refine va_gets hx hb tZ hR.2 hown hg (fun _ h => h) hd ?_
      simp only [List.map_cons, cv] at K
      rw [t0] at K
      exact K
    · rcases List.mem_cons.mp hq with rfl | hq
      · exact va_gets hx hb cZ hR.2 hown hg (fun _ h => h) hd K
      · rcases List.mem_cons.mp hq with rfl | hq
        · exact va_gets hx hb fZ hR.2 hown hg (fun _ h => h) hd K
        · cases hq
  case iload i =>
    simp only [okD, Bool.and_eq_true, decide_eq_true_eq] at hd
    obtain ⟨rfl, hd⟩ := hd
    simp only [okO, Bool.and_eq_true, Bool.or_eq_true, decide_eq_true_eq] at ho
    simp only [stp] at hs
    subst ho
    split at hs
    · rename_i heq
      cases hs
      exact lv_iload hx hb hd (hL.2.2.2 _ _ heq (fun _ q => by cases q)) (KK.same kk hL hR)
    · cases hs
  case iload_n i =>
    simp only [okD, Bool.and_eq_true, decide_eq_true_eq] at hd
    obtain ⟨rfl, hd⟩ := hd
    simp only [okO, Bool.and_eq_true, Bool.or_eq_true, decide_eq_true_eq] at ho
    simp only [stp] at hs
    subst ho
    split at hs
    · rename_i heq
      cases hs
      exact lv_iload_n hx hb hd rfl (hL.2.2.2 _ _ heq (fun _ q => by cases q)) (KK.same kk hL hR)
    · cases hs
  case lload i =>
    simp only [okD, Bool.and_eq_true, decide_eq_true_eq] at hd
    obtain ⟨rfl, hd⟩ := hd
    simp only [okO, Bool.and_eq_true, Bool.or_eq_true, decide_eq_true_eq] at ho
    simp only [stp] at hs
    subst ho
    split at hs
    · rename_i heq
      cases hs
      exact lv_lload hx hb hd (hL.2.2.2 _ _ heq (fun _ q => by cases q)) (KK.same kk hL hR)
    · cases hs
  case lload_n i =>
    simp only [okD, Bool.and_eq_true, decide_eq_true_eq] at hd
    obtain ⟨rfl, hd⟩ := hd
    simp only [okO, Bool.and_eq_true, Bool.or_eq_true, decide_eq_true_eq] at ho
    simp only [stp] at hs
    subst ho
    split at hs
    · rename_i heq
      cases hs
      exact lv_lload_n hx hb hd rfl (hL.2.2.2 _ _ heq (fun _ q => by cases q)) (KK.same kk hL hR)
    · cases hs
  case aload i =>
    simp only [okD, Bool.and_eq_true, decide_eq_true_eq] at hd
    obtain ⟨rfl, hd⟩ := hd
    simp only [okO, Bool.and_eq_true, Bool.or_eq_true, decide_eq_true_eq] at ho
    simp only [stp] at hs
    subst ho
    split at hs
    · rename_i heq
      cases hs
      exact lv_aload hx hb hd (hL.2.2.2 _ _ heq (fun _ q => by cases q)) (KK.same kk hL hR)
    · rename_i k heq
      cases hs
      have K := KK.same kk hL hR
      have hl := hL.2.2.2 _ _ heq (fun _ q => by cases q)
      simp only [List.map_cons, cv] at K hl
      rcases hE k with e1 | ⟨t, e1⟩
      · rw [e1] at K hl
        exact lv_aloadN hx hb hd hl K
      · rw [e1] at K hl
        exact lv_aload hx hb hd hl K
    · cases hs
  case aload_n i =>
    simp only [okD, Bool.and_eq_true, decide_eq_true_eq] at hd
    obtain ⟨rfl, hd⟩ := hd
    simp only [okO, Bool.and_eq_true, Bool.or_eq_true, decide_eq_true_eq] at ho
    simp only [stp] at hs
    subst ho
    split at hs
    · rename_i heq
      cases hs
      exact lv_aload_n hx hb hd rfl (hL.2.2.2 _ _ heq (fun _ q => by cases q)) (KK.same kk hL hR)
    · rename_i k heq
      cases hs
      have K := KK.same kk hL hR
      have hl := hL.2.2.2 _ _ heq (fun _ q => by cases q)
      simp only [List.map_cons, cv] at K hl
      rcases hE k with e1 | ⟨t, e1⟩
      · rw [e1] at K hl
        exact lv_aload_nN hx hb hd rfl hl K
      · rw [e1] at K hl
        exact lv_aload_n hx hb hd rfl hl K
    · cases hs
  case istore i =>
    simp only [okD, Bool.and_eq_true, decide_eq_true_eq] at hd
    obtain ⟨rfl, hd⟩ := hd
    simp only [okO, Bool.and_eq_true, Bool.or_eq_true, decide_eq_true_eq] at ho
    simp only [stp] at hs
    subst ho
    split at hs
    · split at hs
      · rename_i hlt
        cases hs
        exact lv_istore hx hb hd hL.has (by rw [← hL.2.1]; exact hlt.1) rfl (fun ls' hl' => KK.same kk (Lo.store hE hL hlt.2 hl') hR)
      · cases hs
    · cases hs
  case istore_n i =>
    simp only [okD, Bool.and_eq_true, decide_eq_true_eq] at hd
    obtain ⟨rfl, hd⟩ := hd
    simp only [okO, Bool.and_eq_true, Bool.or_eq_true, decide_eq_true_eq] at ho
    simp only [stp] at hs
    subst ho
    split at hs
    · split at hs
      · rename_i hlt
        cases hs
        exact lv_istore_n hx hb hd rfl hL.has (by rw [← hL.2.1]; exact hlt.1) rfl (fun ls' hl' => KK.same kk (Lo.store hE hL hlt.2 hl') hR)
      · cases hs
    · cases hs
  case astore i =>
    simp only [okD, Bool.and_eq_true, decide_eq_true_eq] at hd
    obtain ⟨rfl, hd⟩ := hd
    simp only [okO, Bool.and_eq_true, Bool.or_eq_true, decide_eq_true_eq] at ho
    simp only [stp] at hs
    subst ho
    split at hs
    · split at hs
      · rename_i hlt
        cases hs
        exact lv_astore hx hb hd hL.has (by rw [← hL.2.1]; exact hlt.1) rfl (fun ls' hl' => KK.same kk (Lo.store hE hL hlt.2 hl') hR)
      · cases hs
    · cases hs
  case astore_n i =>
    simp only [okD, Bool.and_eq_true, decide_eq_true_eq] at hd
    obtain ⟨rfl, hd⟩ := hd
    simp only [okO, Bool.and_eq_true, Bool.or_eq_true, decide_eq_true_eq] at ho
    simp only [stp] at hs
    subst ho
    split at hs
    · split at hs
      · rename_i hlt
        cases hs
        exact lv_astore_n hx hb hd rfl hL.has (by rw [← hL.2.1]; exact hlt.1) rfl (fun ls' hl' => KK.same kk (Lo.store hE hL hlt.2 hl') hR)
      · cases hs
    · cases hs
  case lstore i =>
    simp only [okD, Bool.and_eq_true, decide_eq_true_eq] at hd
    obtain ⟨rfl, hd⟩ := hd
    simp only [okO, Bool.and_eq_true, Bool.or_eq_true, decide_eq_true_eq] at ho
    simp only [stp] at hs
    subst ho
    split at hs
    · split at hs
      · rename_i hlt
        cases hs
        exact lv_lstore hx hb hd hL.has (by rw [← hL.2.1]; exact hlt.1) rfl (fun ls' hl' => KK.same kk (Lo.store2 hE hL hlt.2 hl') hR)
      · cases hs
    · cases hs
  case lstore_n i =>
    simp only [okD, Bool.and_eq_true, decide_eq_true_eq] at hd
    obtain ⟨rfl, hd⟩ := hd
    simp only [okO, Bool.and_eq_true, Bool.or_eq_true, decide_eq_true_eq] at ho
    simp only [stp] at hs
    subst ho
    split at hs
    · split at hs
      · rename_i hlt
        cases hs
        exact lv_lstore_n hx hb hd rfl hL.has (by rw [← hL.2.1]; exact hlt.1) rfl (fun ls' hl' => KK.same kk (Lo.store2 hE hL hlt.2 hl') hR)
      · cases hs
    · cases hs
  case iinc i n =>
    simp only [okD, Bool.and_eq_true, decide_eq_true_eq] at hd
    obtain ⟨rfl, hd⟩ := hd
    simp only [okO, Bool.and_eq_true, Bool.or_eq_true, decide_eq_true_eq] at ho
    simp only [stp] at hs
    obtain ⟨rfl, rfl⟩ := ho
    split at hs
    · rename_i x cst heq hv
      cases hv
      split at hs
      case isFalse => cases hs
      rename_i hno
      cases hs
      obtain ⟨k, hk⟩ := List.getElem?_of_mem (lvs_mem.mpr ⟨_, heq, (fun _ q => by cases q), rfl⟩ : (a, cv z E (.int x)) ∈ lvs z E lo)
      exact lv_iinc hx hb hd hL.has hk rfl (by rw [← hL.2.1]; exact (List.getElem?_eq_some_iff.mp heq).1) rfl (fun ls' hl' => KK.same kk (Lo.store hE hL hno hl') hR)
    · cases hs
  case iadd =>
    simp only [okD, Bool.and_eq_true, decide_eq_true_eq] at hd
    obtain ⟨rfl, hd⟩ := hd
    simp only [stp] at hs
    split at hs
    · cases hs
      exact lv_iadd hx hb hd (KK.same kk hL hR)
    · cases hs
  case isub =>
    simp only [okD, Bool.and_eq_true, decide_eq_true_eq] at hd
    obtain ⟨rfl, hd⟩ := hd
    simp only [stp] at hs
    split at hs
    · cases hs
      exact lv_isub hx hb hd (KK.same kk hL hR)
    · cases hs
  case imul =>
    simp only [okD, Bool.and_eq_true, decide_eq_true_eq] at hd
    obtain ⟨rfl, hd⟩ := hd
    simp only [stp] at hs
    split at hs
    · cases hs
      exact lv_imul hx hb hd (KK.same kk hL hR)
    · cases hs
  case iand =>
    simp only [okD, Bool.and_eq_true, decide_eq_true_eq] at hd
    obtain ⟨rfl, hd⟩ := hd
    simp only [stp] at hs
    split at hs
    · cases hs
      exact lv_iand hx hb hd (KK.same kk hL hR)
    · cases hs
  case ior =>
    simp only [okD, Bool.and_eq_true, decide_eq_true_eq] at hd
    obtain ⟨rfl, hd⟩ := hd
    simp only [stp] at hs
    split at hs
    · cases hs
      exact lv_ior hx hb hd (KK.same kk hL hR)
    · cases hs
  case ixor =>
    simp only [okD, Bool.and_eq_true, decide_eq_true_eq] at hd
    obtain ⟨rfl, hd⟩ := hd
    simp only [stp] at hs
    split at hs
    · cases hs
      exact lv_ixor hx hb hd (KK.same kk hL hR)
    · cases hs
  case ishl =>
    simp only [okD, Bool.and_eq_true, decide_eq_true_eq] at hd
    obtain ⟨rfl, hd⟩ := hd
    simp only [stp] at hs
    split at hs
    · cases hs
      exact lv_ishl hx hb hd (KK.same kk hL hR)
    · cases hs
  case ishr =>
    simp only [okD, Bool.and_eq_true, decide_eq_true_eq] at hd
    obtain ⟨rfl, hd⟩ := hd
    simp only [stp] at hs
    split at hs
    · cases hs
      exact lv_ishr hx hb hd (KK.same kk hL hR)
    · cases hs
  case ladd =>
    simp only [okD, Bool.and_eq_true, decide_eq_true_eq] at hd
    obtain ⟨rfl, hd⟩ := hd
    simp only [stp] at hs
    split at hs
    · cases hs
      exact lv_ladd hx hb hd (KK.same kk hL hR)
    · cases hs
  case lsub =>
    simp only [okD, Bool.and_eq_true, decide_eq_true_eq] at hd
    obtain ⟨rfl, hd⟩ := hd
    simp only [stp] at hs
    split at hs
    · cases hs
      exact lv_lsub hx hb hd (KK.same kk hL hR)
    · cases hs
  case land =>
    simp only [okD, Bool.and_eq_true, decide_eq_true_eq] at hd
    obtain ⟨rfl, hd⟩ := hd
    simp only [stp] at hs
    split at hs
    · cases hs
      exact lv_land hx hb hd (KK.same kk hL hR)
    · cases hs
  case lor =>
    simp only [okD, Bool.and_eq_true, decide_eq_true_eq] at hd
    obtain ⟨rfl, hd⟩ := hd
    simp only [stp] at hs
    split at hs
    · cases hs
      exact lv_lor hx hb hd (KK.same kk hL hR)
    · cases hs
  case ineg =>
    simp only [okD, Bool.and_eq_true, decide_eq_true_eq] at hd
    obtain ⟨rfl, hd⟩ := hd
    simp only [stp] at hs
    split at hs
    · cases hs
      exact lv_ineg hx hb hd (KK.same kk hL hR)
    · cases hs
  case iushr =>
    simp only [okD, Bool.and_eq_true, decide_eq_true_eq] at hd
    obtain ⟨rfl, hd⟩ := hd
    simp only [stp] at hs
    split at hs
    · cases hs
      exact lv_iushr hx hb hd rfl (KK.same kk hL hR)
    · cases hs
  case lshl =>
    simp only [okD, Bool.and_eq_true, decide_eq_true_eq] at hd
    obtain ⟨rfl, hd⟩ := hd
    simp only [stp] at hs
    split at hs
    · cases hs
      exact lv_lshl hx hb hd rfl (KK.same kk hL hR)
    · cases hs
  case lushr =>
    simp only [okD, Bool.and_eq_true, decide_eq_true_eq] at hd
    obtain ⟨rfl, hd⟩ := hd
    simp only [stp] at hs
    split at hs
    · cases hs
      exact lv_lushr hx hb hd rfl (KK.same kk hL hR)
    · cases hs
  case i2l =>
    simp only [okD, Bool.and_eq_true, decide_eq_true_eq] at hd
    obtain ⟨rfl, hd⟩ := hd
    simp only [stp] at hs
    split at hs
    · cases hs
      exact lv_i2l hx hb hd rfl (KK.same kk hL hR)
    · cases hs
  case l2i =>
    simp only [okD, Bool.and_eq_true, decide_eq_true_eq] at hd
    obtain ⟨rfl, hd⟩ := hd
    simp only [stp] at hs
    split at hs
    · cases hs
      exact lv_l2i hx hb hd rfl (KK.same kk hL hR)
    · cases hs
  case i2b =>
    simp only [okD, Bool.and_eq_true, decide_eq_true_eq] at hd
    obtain ⟨rfl, hd⟩ := hd
    simp only [stp] at hs
    split at hs
    · cases hs
      exact lv_i2b hx hb hd rfl (KK.same kk hL hR)
    · cases hs
  case i2s =>
    simp only [okD, Bool.and_eq_true, decide_eq_true_eq] at hd
    obtain ⟨rfl, hd⟩ := hd
    simp only [stp] at hs
    split at hs
    · cases hs
      exact lv_i2s hx hb hd rfl (KK.same kk hL hR)
    · cases hs
  case i2c =>
    simp only [okD, Bool.and_eq_true, decide_eq_true_eq] at hd
    obtain ⟨rfl, hd⟩ := hd
    simp only [stp] at hs
    split at hs
    · cases hs
      exact lv_i2c hx hb hd rfl (KK.same kk hL hR)
    · cases hs
  case idiv =>
    simp only [okD, Bool.and_eq_true, decide_eq_true_eq] at hd
    obtain ⟨rfl, hd⟩ := hd
    simp only [stp] at hs
    split at hs
    · split at hs
      · cases hs
      · rename_i hne
        cases hs
        exact lv_idiv hx hb hd hne (KK.same kk hL hR)
    · cases hs
  case irem =>
    simp only [okD, Bool.and_eq_true, decide_eq_true_eq] at hd
    obtain ⟨rfl, hd⟩ := hd
    simp only [stp] at hs
    split at hs
    · split at hs
      · cases hs
      · rename_i hne
        cases hs
        exact lv_irem hx hb hd hne (KK.same kk hL hR)
    · cases hs
  case lrem =>
    simp only [okD, Bool.and_eq_true, decide_eq_true_eq] at hd
    obtain ⟨rfl, hd⟩ := hd
    simp only [stp] at hs
    split at hs
    · split at hs
      · cases hs
      · rename_i hne
        cases hs
        exact lv_lrem hx hb hd hne (KK.same kk hL hR)
    · cases hs
  case lcmp =>
    simp only [okD, Bool.and_eq_true, decide_eq_true_eq] at hd
    obtain ⟨rfl, hd⟩ := hd
    simp only [stp] at hs
    split at hs
    · cases hs
      exact W.lcmp hx hb hd (KK.same kk hL hR)
    · cases hs
  case dup =>
    simp only [okD, Bool.and_eq_true, decide_eq_true_eq] at hd
    obtain ⟨rfl, hd⟩ := hd
    simp only [stp] at hs
    split at hs
    · cases hs
      exact lv_dup hx hb hd rfl (KK.same kk hL hR)
    · cases hs
      exact lv_dup hx hb hd rfl (KK.same kk hL hR)
    · cases hs
  case dup2 =>
    simp only [okD, Bool.and_eq_true, decide_eq_true_eq] at hd
    obtain ⟨rfl, hd⟩ := hd
    simp only [stp] at hs
    split at hs
    · cases hs
      exact lv_dup2_11 hx hb hd rfl rfl (KK.same kk hL hR)
    · cases hs
  case pop =>
    simp only [okD, Bool.and_eq_true, decide_eq_true_eq] at hd
    obtain ⟨rfl, hd⟩ := hd
    simp only [stp] at hs
    split at hs
    · cases hs
      exact lv_pop hx hb hd rfl (KK.same kk hL hR)
    · cases hs
  case goto f =>
    simp only [okD, Bool.and_eq_true, decide_eq_true_eq] at hd
    obtain ⟨rfl, hd⟩ := hd
    simp only [okO, Bool.and_eq_true, Bool.or_eq_true, decide_eq_true_eq] at ho
    simp only [stp] at hs
    cases hs
    exact lv_goto hx hb hd ho (KK.same kk hL hR)
  case ifCond cnd f =>
    simp only [okD, Bool.and_eq_true, decide_eq_true_eq] at hd
    obtain ⟨rfl, hd⟩ := hd
    simp only [okO, Bool.and_eq_true, Bool.or_eq_true, decide_eq_true_eq] at ho
    cases cnd
    case eq =>
      simp only [stp] at hs
      split at hs
      · cases hs
        have K := KK.same kk hL hR
        exact lv_if_eq hx hb hd ho (fun hc => by rw [if_pos hc] at K; exact K) (fun hc => by rw [if_neg hc] at K; exact K)
      · cases hs
    case ne =>
      simp only [stp] at hs
      split at hs
      · cases hs
        have K := KK.same kk hL hR
        exact lv_if_ne hx hb hd ho (fun hc => by rw [if_neg hc] at K; exact K) (fun hc => by rw [if_pos hc] at K; exact K)
      · cases hs
    case lt =>
      simp only [stp] at hs
      split at hs
      · cases hs
        have K := KK.same kk hL hR
        exact lv_if_lt hx hb hd ho (fun hc => by rw [if_pos hc] at K; exact K) (fun hc => by rw [if_neg hc] at K; exact K)
      · cases hs
    case ge =>
      simp only [stp] at hs
      split at hs
      · cases hs
        have K := KK.same kk hL hR
        exact lv_if_ge hx hb hd ho (fun hc => by rw [if_pos hc] at K; exact K) (fun hc => by rw [if_neg hc] at K; exact K)
      · cases hs
    case gt =>
      simp only [stp] at hs
      split at hs
      · cases hs
        have K := KK.same kk hL hR
        exact lv_if_gt hx hb hd ho (fun hc => by rw [if_pos hc] at K; exact K) (fun hc => by rw [if_neg hc] at K; exact K)
      · cases hs
    case le =>
      simp only [stp] at hs
      split at hs
      · cases hs
        have K := KK.same kk hL hR
        exact lv_if_le hx hb hd ho (fun hc => by rw [if_pos hc] at K; exact K) (fun hc => by rw [if_neg hc] at K; exact K)
      · cases hs
  case if_icmp cnd f =>
    simp only [okD, Bool.and_eq_true, decide_eq_true_eq] at hd
    obtain ⟨rfl, hd⟩ := hd
    simp only [okO, Bool.and_eq_true, Bool.or_eq_true, decide_eq_true_eq] at ho
    cases cnd
    case eq =>
      simp only [stp] at hs
      split at hs
      · cases hs
        have K := KK.same kk hL hR
        exact lv_icmp_eq hx hb hd ho (fun hc => by rw [if_pos hc] at K; exact K) (fun hc => by rw [if_neg hc] at K; exact K)
      · cases hs
    case ne =>
      simp only [stp] at hs
      split at hs
      · cases hs
        have K := KK.same kk hL hR
        exact lv_icmp_ne hx hb hd ho (fun hc => by rw [if_neg hc] at K; exact K) (fun hc => by rw [if_pos hc] at K; exact K)
      · cases hs
    case lt =>
      simp only [stp] at hs
      split at hs
      · cases hs
        have K := KK.same kk hL hR
        exact lv_icmp_lt hx hb hd ho (fun hc => by rw [if_pos hc] at K; exact K) (fun hc => by rw [if_neg hc] at K; exact K)
      · cases hs
    case ge =>
      simp only [stp] at hs
      split at hs
      · cases hs
        have K := KK.same kk hL hR
        exact lv_icmp_ge hx hb hd ho (fun hc => by rw [if_pos hc] at K; exact K) (fun hc => by rw [if_neg hc] at K; exact K)
      · cases hs
    case gt =>
      simp only [stp] at hs
      split at hs
      · cases hs
        have K := KK.same kk hL hR
        exact lv_icmp_gt hx hb hd ho (fun hc => by rw [if_pos hc] at K; exact K) (fun hc => by rw [if_neg hc] at K; exact K)
      · cases hs
    case le =>
      simp only [stp] at hs
      split at hs
      · cases hs
        have K := KK.same kk hL hR
        exact lv_icmp_le hx hb hd ho (fun hc => by rw [if_pos hc] at K; exact K) (fun hc => by rw [if_neg hc] at K; exact K)
      · cases hs
  case tableswitch dd l u os =>
    simp only [okD, decide_eq_true_eq] at hd
    simp only [okO, Bool.and_eq_true, decide_eq_true_eq, List.all_eq_true] at ho
    simp only [stp] at hs
    split at hs
    · rename_i x r
      cases hs
      have K := KK.same kk hL hR
      unfold tsw at K
      by_cases hc : x.toInt < l ∨ u < x.toInt
      · rw [if_pos hc] at K
        exact lv_tableOut hx hb hd hc (by omega) K
      · rw [if_neg hc] at K
        cases hos : os[(x.toInt - l).toNat]? with
        | none =>
          exfalso
          have h1 := Array.getElem?_eq_none_iff.mp hos
          have h2 := ho.2
          omega
        | some off =>
          have e1 : os.getD (x.toInt - l).toNat 0 = off := by simp [Array.getD_eq_getD_getElem?, hos]
          rw [e1] at K
          have h0 := ho.1.2 off (by have := Array.mem_of_getElem? hos; simpa using this)
          exact lv_tableIn hx hb hd (fun q => hc (Or.inl q)) (fun q => hc (Or.inr q)) hos (by omega) K
    · cases hs
  case lookupswitch dd ps =>
    simp only [okD, decide_eq_true_eq] at hd
    simp only [okO, Bool.and_eq_true, decide_eq_true_eq, List.all_eq_true] at ho
    simp only [stp] at hs
    split at hs
    · rename_i x r
      cases hs
      have K := KK.same kk hL hR
      unfold lsw at K
      refine lv_lookup hx hb hd (List.all_eq_true.mpr (fun q hq => by simpa using ho.2 q hq)) rfl ?_ K
      have h0 : 0 ≤ (pc : Int) + Op.lookupswitch.offset ps.toList dd x.toInt := by
        have gen : ∀ (l : List (Int × Int)), (∀ f ∈ l, 0 ≤ (pc : Int) + f.2) → 0 ≤ (pc : Int) + Op.lookupswitch.offset l dd x.toInt := by
          intro l
          induction l with
          | nil => intro _; simpa [Op.lookupswitch.offset] using ho.1.1
          | cons q l ih =>
            intro hl
            obtain ⟨q1, q2⟩ := q
            rw [Op.lookupswitch.offset_cons]
            split
            · exact hl (q1, q2) List.mem_cons_self
            · exact ih (fun f hf => hl f (List.mem_cons_of_mem _ hf))
        exact gen _ ho.1.2
      omega
    · cases hs
  case getfield i =>
    simp only [okD, Bool.and_eq_true, decide_eq_true_eq] at hd
    obtain ⟨rfl, hd⟩ := hd
    simp only [okO, Bool.and_eq_true, Bool.or_eq_true, decide_eq_true_eq] at ho
    simp only [stp] at hs
    split at hs
    · rename_i x r
      split at hs
      · rename_i ci fs heq
        split at hs
        · rename_i hci
          subst hci
          split at hs
          · rename_i w hw
            cases hs
            rcases ho with ho | ⟨-, ho⟩
            · obtain ⟨h8, hbn, hlk⟩ := fL_at ho
              exact va_get (own := oN mi.2.2.2.1) hx hb hts (cls_ws h8).1 hown hK hR.1 x (wl_at heq) (cls_at ci h8) b hbn (hts _ hlk) (fun _ h => h) (v := cv z E w) (by simp [hw]) hd (KK.same kk hL hR)
            · exfalso
              obtain ⟨r0, hr0, -⟩ := hR.1 x _ (wl_at heq)
              subst ho
              cases hr0
          · cases hs
        · cases hs
      · cases hs
    · rename_i k r
      split at hs
      · rename_i hk
        rcases ho with ho | ⟨ho, -⟩
        · have := (fL_at ho).1
          omega
        · obtain ⟨q, hq, ho⟩ := List.any_eq_true.mp ho
          have hg := List.all_eq_true.mp slk_ok q hq
          unfold slk at hg
          have hg := hts _ (gT_in _ (of_decide_eq_true hg) rfl)
          obtain ⟨e1, rfl, rfl⟩ := of_decide_eq_true ho
          rw [e1] at hg
          obtain ⟨adK, adV, hsx, hsS, -⟩ := hEx.2.2.2.2.1
          have hk11 : k - 10 < 11 := by have : sT.length = 11 := rfl; omega
          obtain ⟨e2, e3, -⟩ := hsx (k - 10) hk11
          rw [show 10 + (k - 10) = k by omega] at e2
          rw [show 30 + (k - 10) = k + 20 by omega] at e3
          obtain ⟨-, sC, sV, -⟩ := hsS (k - 10) hk11
          split at hs
          · rename_i h0
            rw [if_pos h0, if_pos h0] at hg
            cases hs
            have K := KK.same kk hL hR
            simp only [List.map_cons, cv] at K ⊢
            rw [e3] at K
            rw [e2]
            exact vk_getf hx hb sV hR.2 hown hg (fun _ h => h) hd K
          · rename_i h0
            rw [if_neg h0, if_neg h0] at hg
            cases hs
            have K := KK.same kk hL hR
            simp only [List.map_cons, cv] at K ⊢
            rw [e2]
            exact vk_getf hx hb sC hR.2 hown hg (fun _ h => h) hd K
      · cases hs
    · cases hs
  case putfield i =>
    simp only [okD, Bool.and_eq_true, decide_eq_true_eq] at hd
    obtain ⟨rfl, hd⟩ := hd
    simp only [stp] at hs
    unfold okO at ho
    dsimp only at ho
    rw [Bool.and_eq_true, Bool.and_eq_true] at ho
    split at hs
    · rename_i w x r
      split at hs
      · rename_i ci fs heq
        split at hs
        · rename_i hci
          obtain ⟨rfl, hbl, hfk⟩ := hci
          cases hs
          obtain ⟨⟨ho, hfin⟩, hkind⟩ := ho
          obtain ⟨h8, hbn, hlk⟩ := fL_at ho
          have hty := (cls_ty h8).1 b hbn
          have hnf := put_ok (z := z) (E := E) hkind hfk
          have K : ∀ (H1 : Heap) (locs1 : List Loc), va_P D vwCl ((wl z E kA h).set x (z + x, .inr (ci, (fs.map (cv z E)).set b (cv z E w)))) H1 → va_D (fun q => z ≤ q) ((wl z E kA h).set x (z + x, .inr (ci, (fs.map (cv z E)).set b (cv z E w)))) → va_S (fun q => z ≤ q) s.heap H1 locs1 → W p l e R s m args below meth c H1 locs1 cells slots Q (F0 m (pc + 3) ls (st'.map (cv z E))) := by
            intro H1 locs1 hP1 _ hS1
            refine KK.sets kk heq rfl hL (Rl.sets ?_ hS1)
            simp only [cC, List.map_set]
            exact hP1
          have hlen : b < (fs.map (cv z E)).length := by rw [List.length_map]; exact hbl
          by_cases hf : (tF ci b).2.2.2 = true
          · rw [hf] at hfin
            have hfin : (ii && decide ((tF ci b).1 = oN mi.2.2.2.1)) = true := hfin
            rw [Bool.and_eq_true, decide_eq_true_eq] at hfin
            exact va_putF (own := oN mi.2.2.2.1) hx hb hts (cls_ws h8).1 (tY ci) (cls_ty h8).1 (cls_ty h8).2 hown hK hR.1 wl_D hR.2 x (wl_at heq) (cls_at ci h8) b hbn (hts _ hlk) (fun _ h => h) hf (hini hfin.1) hfin.2 hty hnf.1 hnf.2 hlen hd K
          · exact va_put (own := oN mi.2.2.2.1) hx hb hts (cls_ws h8).1 (tY ci) (cls_ty h8).1 (cls_ty h8).2 hown hK hR.1 wl_D hR.2 x (wl_at heq) (cls_at ci h8) b hbn (hts _ hlk) (fun _ h => h) (by simpa using hf) hty hnf.1 hnf.2 hlen hd K
        · cases hs
      · cases hs
    · cases hs
  case iaload =>
    simp only [okD, Bool.and_eq_true, decide_eq_true_eq] at hd
    obtain ⟨rfl, hd⟩ := hd
    simp only [stp] at hs
    split at hs
    · split at hs
      · rename_i heq
        split at hs
        · cases hs
        · rename_i hin
          cases hs
          exact va_iald hx hb hK hR.1 _ 0 (wl_at heq) rfl hin hd (KK.same kk hL hR)
      · cases hs
    · rename_i i k r
      split at hs
      · rename_i heq
        split at hs
        · cases hs
        · rename_i hin
          cases hs
          have K := KK.same kk hL hR
          simp only [List.map_cons, cv] at K ⊢
          unfold xI at heq
          split at heq
          · cases heq
            obtain ⟨⟨t, t0, -, tT⟩, -⟩ := hEx
            rw [t0]
            exact va_ti hx hb tT hR.2 hin rfl hd K
          · cases heq
            obtain ⟨-, -, -, ⟨bb, eb, hbz, hX⟩, -⟩ := hEx
            rw [eb]
            exact va_sld (A := fun q => z ≤ q) (H0 := s.heap) hx hb hX (show bb < s.heap.size from Nat.lt_of_lt_of_le hbz hz) (Nat.not_le.mpr hbz) hR.2 hin hd K
          · cases heq
      · cases hs
    · cases hs
  case baload =>
    simp only [okD, Bool.and_eq_true, decide_eq_true_eq] at hd
    obtain ⟨rfl, hd⟩ := hd
    simp only [stp] at hs
    split at hs
    · rename_i i k r
      split at hs
      · rename_i heq
        split at hs
        · cases hs
        · rename_i hin
          cases hs
          have K := KK.same kk hL hR
          simp only [List.map_cons, cv] at K ⊢
          unfold xB at heq
          split at heq
          · cases heq
          · rename_i hk
            cases hq : sT[k - 30]? with
            | none => rw [hq] at heq; cases heq
            | some q =>
              rw [hq] at heq
              cases heq
              have hk11 : k - 30 < 11 := (List.getElem?_eq_some_iff.mp hq).1
              obtain ⟨adK, adV, hsx, hsS, -⟩ := hEx.2.2.2.2.1
              obtain ⟨-, e3, -⟩ := hsx (k - 30) hk11
              rw [show 30 + (k - 30) = k by omega] at e3
              obtain ⟨-, -, -, sT1⟩ := hsS (k - 30) hk11
              rw [e3]
              have e4 : (sT.map (fun q => q.2.length)).getD (k - 30) 0 = q.2.length := by simp [hq]
              have e5 : (sT.map (fun q => q.2)).getD (k - 30) [] = q.2 := by simp [hq]
              rw [e4, e5] at sT1
              exact va_tb hx hb sT1 hR.2 hin rfl hd K
      · cases hs
    · cases hs
  case laload =>
    simp only [okD, Bool.and_eq_true, decide_eq_true_eq] at hd
    obtain ⟨rfl, hd⟩ := hd
    simp only [stp] at hs
    split at hs
    · split at hs
      · rename_i heq
        split at hs
        · cases hs
        · rename_i hin
          cases hs
          exact va_lald hx hb hK hR.1 _ 1 (wl_at heq) rfl hin hd (KK.same kk hL hR)
      · cases hs
    · cases hs
  case aaload =>
    simp only [okD, Bool.and_eq_true, decide_eq_true_eq] at hd
    obtain ⟨rfl, hd⟩ := hd
    simp only [stp] at hs
    split at hs
    · split at hs
      · rename_i t n f heq
        split at hs
        · cases hs
        · rename_i hin
          split at hs
          · rename_i y hy
            cases hs
            have K := KK.same kk hL hR
            have hin2 : vp_in _ n := fun q => hin (Or.inr q)
            have ht : t = 0 ∨ t = 1 := by have : ¬ 2 ≤ t := fun q => hin (Or.inl q); omega
            rcases ht with rfl | rfl
            · refine va_aldq hx hb hK hR.1 _ 2 (wl_at heq) rfl hin2 hd ?_
              rw [hy]
              exact K
            · refine va_aldq hx hb hK hR.1 _ 3 (wl_at heq) rfl hin2 hd ?_
              rw [hy]
              exact K
          · cases hs
      · cases hs
    · cases hs
  case iastore =>
    simp only [okD, Bool.and_eq_true, decide_eq_true_eq] at hd
    obtain ⟨rfl, hd⟩ := hd
    simp only [stp] at hs
    split at hs
    · split at hs
      · rename_i heq
        split at hs
        · cases hs
        · rename_i hin
          cases hs
          refine va_iast hx hb hK hR.1 wl_D hR.2 _ 0 (wl_at heq) rfl hin hd (fun H1 locs1 hP1 _ hS1 => ?_)
          exact KK.sets kk heq rfl hL (Rl.sets hP1 hS1)
      · cases hs
    · cases hs
  case lastore =>
    simp only [okD, Bool.and_eq_true, decide_eq_true_eq] at hd
    obtain ⟨rfl, hd⟩ := hd
    simp only [stp] at hs
    split at hs
    · split at hs
      · rename_i heq
        split at hs
        · cases hs
        · rename_i hin
          cases hs
          refine va_last hx hb hK hR.1 wl_D hR.2 _ 1 (wl_at heq) rfl hin hd (fun H1 locs1 hP1 _ hS1 => ?_)
          exact KK.sets kk heq rfl hL (Rl.sets hP1 hS1)
      · cases hs
    · cases hs
  case aastore =>
    simp only [okD, Bool.and_eq_true, decide_eq_true_eq] at hd
    obtain ⟨rfl, hd⟩ := hd
    simp only [stp] at hs
    split at hs
    · rename_i y i x r
      split at hs
      · rename_i t n f ci fs heq heqy
        split at hs
        · cases hs
        · rename_i hin
          split at hs
          · rename_i hci
            subst hci
            cases hs
            have hin2 : vp_in i n := fun q => hin (Or.inr q)
            have ht : t = 0 ∨ t = 1 := by have : ¬ 2 ≤ t := fun q => hin (Or.inl q); omega
            have key : ∀ (H1 : Heap) (locs1 : List Loc), va_P D vwCl ((wl z E kA h).set x (z + x, .inl (kA (2 + t), n, .inr (.inr (.inr (.inr (va_up (fun j => (f j).map (fun a => z + a)) i.toNatClampNeg (some (z + y))))))))) H1 → va_S (fun q => z ≤ q) s.heap H1 locs1 → W p l e R s m args below meth c H1 locs1 cells slots Q (F0 m (pc + 1) ls (st'.map (cv z E))) := by
              intro H1 locs1 hP1 hS1
              refine KK.sets kk heq rfl hL (Rl.sets ?_ hS1)
              simp only [cC]
              have e1 : (fun j => (va_up f i.toNatClampNeg (some y) j).map (fun a => z + a)) = va_up (fun j => (f j).map (fun a => z + a)) i.toNatClampNeg (some (z + y)) := by
                funext j
                unfold va_up
                split <;> rfl
              rw [e1]
              exact hP1
            rcases ht with rfl | rfl
            · exact va_astq (r := (RX1, TX1, 4)) hx hb hK hR.1 wl_D hR.2 x 2 y 1 (wl_at heq) rfl (wl_at heqy) rfl hin2 hd (fun H1 locs1 hP1 _ hS1 => key H1 locs1 hP1 hS1)
            · exact va_astq (r := (RX2, TX2, 3)) hx hb hK hR.1 wl_D hR.2 x 3 y 2 (wl_at heq) rfl (wl_at heqy) rfl hin2 hd (fun H1 locs1 hP1 _ hS1 => key H1 locs1 hP1 hS1)
          · cases hs
      · cases hs
    · cases hs
  case arraylength =>
    simp only [okD, Bool.and_eq_true, decide_eq_true_eq] at hd
    obtain ⟨rfl, hd⟩ := hd
    simp only [stp] at hs
    split at hs
    · split at hs
      · rename_i heq
        cases hs
        exact va_alen hx hb hK hR.1 _ 0 (wl_at heq) rfl rfl hd (KK.same kk hL hR)
      · rename_i heq
        cases hs
        exact va_alen hx hb hK hR.1 _ 1 (wl_at heq) rfl rfl hd (KK.same kk hL hR)
      · cases hs
    · rename_i k r
      split at hs
      · rename_i heq
        cases hs
        have K := KK.same kk hL hR
        simp only [List.map_cons, cv] at K ⊢
        unfold xI at heq
        split at heq
        · cases heq
          obtain ⟨⟨t, t0, -, tT⟩, -⟩ := hEx
          rw [t0]
          exact va_tlen hx hb tT hR.2 rfl hd K
        · cases heq
          obtain ⟨-, -, -, ⟨bb, eb, hbz, hX⟩, -⟩ := hEx
          rw [eb]
          exact va_slen (A := fun q => z ≤ q) (H0 := s.heap) hx hb hX (show bb < s.heap.size from Nat.lt_of_lt_of_le hbz hz) (Nat.not_le.mpr hbz) hR.2 hd K
        · cases heq
      · rename_i heqI heq
        cases hs
        have K := KK.same kk hL hR
        simp only [List.map_cons, cv] at K ⊢
        unfold xB at heq
        split at heq
        · cases heq
        · rename_i hk
          cases hq : sT[k - 30]? with
          | none => rw [hq] at heq; cases heq
          | some q =>
            rw [hq] at heq
            cases heq
            have hk11 : k - 30 < 11 := (List.getElem?_eq_some_iff.mp hq).1
            obtain ⟨adK, adV, hsx, hsS, -⟩ := hEx.2.2.2.2.1
            obtain ⟨-, e3, -⟩ := hsx (k - 30) hk11
            rw [show 30 + (k - 30) = k by omega] at e3
            obtain ⟨-, -, -, sT1⟩ := hsS (k - 30) hk11
            rw [e3]
            have e4 : (sT.map (fun q => q.2.length)).getD (k - 30) 0 = q.2.length := by simp [hq]
            rw [e4] at sT1
            exact va_tlen hx hb sT1 hR.2 rfl hd K
      · cases hs
    · cases hs
  case new i =>
    simp only [okD, Bool.and_eq_true, decide_eq_true_eq] at hd
    obtain ⟨rfl, hd⟩ := hd
    simp only [okO, Bool.and_eq_true, Bool.or_eq_true, decide_eq_true_eq] at ho
    simp only [stp] at hs
    obtain ⟨h8, hlk⟩ := nL_at ho
    cases hs
    refine W.hsz hz hn hR (fun hsz => ?_)
    have hc1 : h.length + 1 - h.length = 1 := by omega
    simp only [sz_app, List.length_append, List.length_singleton, hc1, szc, Nat.add_sub_cancel_left] at hcap
    obtain ⟨w1, w2, w3, w4⟩ := cls_ws h8
    refine my_new (own := oN mi.2.2.2.1) hx hb hts w1 (tY a) (cls_ty h8).1 hown (hts _ hlk) (hts _ w2) (hts _ w3) hK hR.1 hR.2 (cls_at a h8) (fs := (dF a).map (cv z E)) (by rw [dF_cv h8]; exact dF_ok h8) hcap.1 hcap.2 hd (fun H1 hz1 hP1 hS1 => ?_)
    have := KK.grow kk hL (Rl.grow (z := z) hsz hP1 hS1)
    simp only [List.map_cons, cv] at this
    rw [← hsz] at this
    exact this
  case newarray ty =>
    simp only [okD, Bool.and_eq_true, decide_eq_true_eq] at hd
    obtain ⟨rfl, hd⟩ := hd
    have hK2 := hK.2
    cases ty
    all_goals try (simp only [stp, reduceCtorEq] at hs; done)
    case int =>
      simp only [stp] at hs
      split at hs
      · rename_i n r
        split at hs
        · cases hs
        · rename_i hnn
          cases hs
          refine W.hsz hz hn hR (fun hsz => ?_)
          have hc1 : h.length + 1 - h.length = 1 := by omega
          simp only [sz_app, List.length_append, List.length_singleton, hc1, szc, Nat.add_sub_cancel_left] at hcap
          have hb1 : n.toNatClampNeg ≤ 100000 := by have := fun q => hnn (Or.inr q); omega
          refine my_newa (atype := .int) (ty := .int) (a0 := (n.toNatClampNeg, .inl (fun _ => 0))) hx hb (hts _ (g_of arrw.1 rfl)) rfl hR.1 hR.2 (cA := kA 0) (hK2 0 _ rfl).2 (fun cA => rfl) (fun q => hnn (Or.inl q)) rfl ?_ hcap.1 hcap.2 hd (fun H1 hz1 hP1 hS1 => ?_)
          · show n.toNatClampNeg * 4 ≤ 536870912
            omega
          · have := KK.grow kk hL (Rl.grow (z := z) hsz hP1 hS1)
            simp only [List.map_cons, cv] at this
            rw [← hsz] at this
            exact this
      · cases hs
    case long =>
      simp only [stp] at hs
      split at hs
      · rename_i n r
        split at hs
        · cases hs
        · rename_i hnn
          cases hs
          refine W.hsz hz hn hR (fun hsz => ?_)
          have hc1 : h.length + 1 - h.length = 1 := by omega
          simp only [sz_app, List.length_append, List.length_singleton, hc1, szc, Nat.add_sub_cancel_left] at hcap
          have hb1 : n.toNatClampNeg ≤ 100000 := by have := fun q => hnn (Or.inr q); omega
          refine my_newa (atype := .long) (ty := .long) (a0 := (n.toNatClampNeg, .inr (.inl (fun _ => 0)))) hx hb (hts _ (g_of arrw.2 rfl)) rfl hR.1 hR.2 (cA := kA 1) (hK2 1 _ rfl).2 (fun cA => rfl) (fun q => hnn (Or.inl q)) rfl ?_ hcap.1 hcap.2 hd (fun H1 hz1 hP1 hS1 => ?_)
          · show n.toNatClampNeg * 8 ≤ 536870912
            omega
          · have := KK.grow kk hL (Rl.grow (z := z) hsz hP1 hS1)
            simp only [List.map_cons, cv] at this
            rw [← hsz] at this
            exact this
      · cases hs
  case anewarray i =>
    simp only [okD, Bool.and_eq_true, decide_eq_true_eq] at hd
    obtain ⟨rfl, hd⟩ := hd
    simp only [okO, Bool.and_eq_true, Bool.or_eq_true, decide_eq_true_eq] at ho
    simp only [stp] at hs
    split at hs
    · rename_i n r
      split at hs
      · cases hs
      · rename_i hnn
        cases hs
        obtain ⟨ho, ha2⟩ := ho
        obtain ⟨h8, hlk⟩ := nL_at ho
        refine W.hsz hz hn hR (fun hsz => ?_)
        have hc1 : h.length + 1 - h.length = 1 := by omega
        simp only [sz_app, List.length_append, List.length_singleton, hc1, szc, Nat.add_sub_cancel_left] at hcap
        have hb1 : n.toNatClampNeg ≤ 100000 := by have := fun q => hnn (Or.inr q); omega
        have hb2 : n.toNatClampNeg * 4 ≤ 536870912 := by omega
        have hK2 := hK.2
        rcases (show a = 0 ∨ a = 1 by omega) with rfl | rfl
        · obtain ⟨kx, comp, q1, q2, q3, q4⟩ := (hK2 2 _ rfl).2
          refine my_newq (own := oN mi.2.2.2.1) (C := RX1) hx hb hown (hts _ hlk) hEx.2.2.2.2.2.2.1 hR.1 hR.2 q4 (fun q => hnn (Or.inl q)) hb2 hcap.1 hcap.2 hd (fun H1 hz1 hP1 hS1 => ?_)
          have := KK.grow kk hL (Rl.grow (z := z) hsz hP1 hS1)
          simp only [List.map_cons, cv] at this
          rw [← hsz] at this
          exact this
        · obtain ⟨kx, comp, q1, q2, q3, q4⟩ := (hK2 3 _ rfl).2
          refine my_newq (own := oN mi.2.2.2.1) (C := RX2) hx hb hown (hts _ hlk) hEx.2.2.2.2.2.2.2.1 hR.1 hR.2 q4 (fun q => hnn (Or.inl q)) hb2 hcap.1 hcap.2 hd (fun H1 hz1 hP1 hS1 => ?_)
          have := KK.grow kk hL (Rl.grow (z := z) hsz hP1 hS1)
          simp only [List.map_cons, cv] at this
          rw [← hsz] at this
          exact this
    · cases hs
  case invokevirtual i =>
    simp only [okD, Bool.and_eq_true, decide_eq_true_eq] at hd
    obtain ⟨rfl, hd⟩ := hd
    simp only [stp] at hs
    split at hs
    · split at hs
      · split at hs
        · cases hs
        · cases hs
      · cases hs
    · split at hs
      · cases hs
      · cases hs
    · cases hs
  case invokestatic i =>
    simp only [okD, Bool.and_eq_true, decide_eq_true_eq] at hd
    obtain ⟨rfl, hd⟩ := hd
    simp only [okO, Bool.and_eq_true, Bool.or_eq_true, decide_eq_true_eq] at ho
    simp only [stp] at hs
    split at hs
    · rename_i ha
      subst ha
      simp only [Nat.reduceLT, Nat.reduceEqDiff, false_and, or_false, false_or, true_and] at ho
      replace ho := m1_of ho
      split at hs
      · rename_i n dp x1 sp x0 r
        split at hs
        · rename_i hw
          split at hs
          · rename_i hh hcp
            cases hs
            obtain ⟨q, hq, ho⟩ := List.any_eq_true.mp ho
            have hg := List.all_eq_true.mp m1k_ok q hq
            unfold m1k at hg
            have hg := hts _ (gT_in _ (of_decide_eq_true hg) rfl)
            obtain ⟨e1, rfl⟩ := of_decide_eq_true ho
            rw [e1] at hg
            have hwc : ((st'.map (cv z E)).map fun v => v.category).sum ≤ 8 := by
              rw [cv_sum hE]; exact hw
            unfold cpy at hcp
            split at hcp
            · cases hcp
            · rename_i hneg
              have n1 : ¬ sp < 0 := fun q => hneg (Or.inl q)
              have n2 : ¬ dp < 0 := fun q => hneg (Or.inr (Or.inl q))
              have n3 : ¬ n < 0 := fun q => hneg (Or.inr (Or.inr q))
              split at hcp
              · rename_i n0 f n1' g h0 h1
                split at hcp
                · rename_i hbnd
                  cases hcp
                  exact va_copyi hx hb (by rw [hml]; exact hL.1.symm) hown hg (hts _ (g_of acpw.1 rfl)) (hts _ (g_of acpw.2.1 rfl)) (hts _ (g_of acpw.2.2 rfl)) hK hR.1 wl_D hR.2 x0 x1 0 0 (wl_at h0) (wl_at h1) rfl rfl rfl n1 n2 n3 hbnd.1 hbnd.2 (fun _ _ => rfl) hroom.1 (Nat.le_trans (Nat.add_le_add_right hwc _) (Nat.le_trans (by decide +kernel : 8 + (nativeFrameWords "java/lang/System" "arraycopy" 5 + 11) ≤ 64) hroom.2)) hd (fun H1 locs1 hP1 _ hS1 => KK.sets kk h1 rfl hL (Rl.sets hP1 hS1))
                · cases hcp
              · rename_i n0 f n1' g h0 h1
                split at hcp
                · rename_i hbnd
                  cases hcp
                  exact va_copyl hx hb (by rw [hml]; exact hL.1.symm) hown hg (hts _ (g_of acpw.1 rfl)) (hts _ (g_of acpw.2.1 rfl)) (hts _ (g_of acpw.2.2 rfl)) hK hR.1 wl_D hR.2 x0 x1 1 1 (wl_at h0) (wl_at h1) rfl rfl rfl n1 n2 n3 hbnd.1 hbnd.2 (fun _ _ => rfl) hroom.1 (Nat.le_trans (Nat.add_le_add_right hwc _) (Nat.le_trans (by decide +kernel : 8 + (nativeFrameWords "java/lang/System" "arraycopy" 5 + 11) ≤ 64) hroom.2)) hd (fun H1 locs1 hP1 _ hS1 => KK.sets kk h1 rfl hL (Rl.sets hP1 hS1))
                · cases hcp
              · cases hcp
          · cases hs
        · cases hs
      · cases hs
    · split at hs
      · rename_i ha
        subst ha
        split at hs
        · rename_i x r
          split at hs
          · rename_i hw
            cases hs
            have hg := hts _ (mm_of 902 (by simpa using ho))
            have hwc : ((r.map (cv z E)).map fun v => v.category).sum ≤ 8 := by
              rw [cv_sum hE]; exact hw
            simp only [Nat.sub_self, Nat.add_zero] at hcap
            exact va_mabs hx hb (by rw [hml]; exact hL.1.symm) hown hg (hts _ (g_of (mthw.2.1).1 rfl)) (hts _ (g_of mthw.1 rfl)) (hts _ (g_of (mthw.2.1).2 rfl)) hroom.1 (by have := hroom.2; omega) hcap.1 hcap.2 hd (KK.same kk hL hR)
          · cases hs
        · cases hs
      · split at hs
        · rename_i ha
          subst ha
          split at hs
          · rename_i y x r
            split at hs
            · rename_i hw
              cases hs
              have hg := hts _ (mm_of 903 (by simpa using ho))
              have hwc : ((r.map (cv z E)).map fun v => v.category).sum ≤ 8 := by
                rw [cv_sum hE]; exact hw
              simp only [Nat.sub_self, Nat.add_zero] at hcap
              exact va_mmax hx hb (by rw [hml]; exact hL.1.symm) hown hg (hts _ (g_of (mthw.2.2.1).1 rfl)) (hts _ (g_of mthw.1 rfl)) (hts _ (g_of (mthw.2.2.1).2 rfl)) hroom.1 (by have := hroom.2; omega) hcap.1 hcap.2 hd (KK.same kk hL hR)
            · cases hs
          · cases hs
        · split at hs
          · rename_i ha
            subst ha
            split at hs
            · rename_i y x r
              split at hs
              · rename_i hw
                cases hs
                have hg := hts _ (mm_of 904 (by simpa using ho))
                have hwc : ((r.map (cv z E)).map fun v => v.category).sum ≤ 8 := by
                  rw [cv_sum hE]; exact hw
                simp only [Nat.sub_self, Nat.add_zero] at hcap
                exact va_mmin hx hb (by rw [hml]; exact hL.1.symm) hown hg (hts _ (g_of (mthw.2.2.2).1 rfl)) (hts _ (g_of mthw.1 rfl)) (hts _ (g_of (mthw.2.2.2).2 rfl)) hroom.1 (by have := hroom.2; omega) hcap.1 hcap.2 hd (KK.same kk hL hR)
              · cases hs
            · cases hs
          · (repeat' (split at hs)) <;> cases hs
  case invokespecial i =>
    simp only [okD, Bool.and_eq_true, decide_eq_true_eq] at hd
    obtain ⟨rfl, hd⟩ := hd
    simp only [okO, Bool.and_eq_true, Bool.or_eq_true, decide_eq_true_eq] at ho
    simp only [stp] at hs
    split at hs
    · rename_i ha
      subst ha
      simp only [Nat.lt_irrefl, false_and, or_false, true_and] at ho
      split at hs
      · rename_i x r
        split at hs
        · rename_i hw
          cases hs
          obtain ⟨q, hq, ho⟩ := List.any_eq_true.mp ho
          have hg := List.all_eq_true.mp m9k_ok q hq
          unfold m9k at hg
          have hg := hts _ (gT_in _ (of_decide_eq_true hg) rfl)
          obtain ⟨e1, rfl⟩ := of_decide_eq_true ho
          rw [e1] at hg
          have hwc : ((st'.map (cv z E)).map fun v => v.category).sum ≤ 8 := by
            rw [cv_sum hE]; exact hw
          refine W.objInit hx hb hown hg (hts _ (g_of objw.1 rfl)) (hts _ (g_of objw.2 rfl)) rfl (by rw [hml]; exact hL.1) rfl hd hroom.1 ?_ (KK.same kk hL hR)
          show 2 * 0 + _ + 12 ≤ R.locals
          have := hroom.2
          omega
        · cases hs
      · cases hs
    · (repeat' (split at hs)) <;> cases hs
  case ireturn =>
    simp only [okD, Bool.and_eq_true, decide_eq_true_eq] at hd
    obtain ⟨rfl, hd⟩ := hd
    simp only [stp] at hs
    split at hs <;> cases hs
  case lreturn =>
    simp only [okD, Bool.and_eq_true, decide_eq_true_eq] at hd
    obtain ⟨rfl, hd⟩ := hd
    simp only [stp] at hs
    split at hs <;> cases hs
  case areturn =>
    simp only [okD, Bool.and_eq_true, decide_eq_true_eq] at hd
    obtain ⟨rfl, hd⟩ := hd
    simp only [stp] at hs
    split at hs <;> cases hs
  case return_ =>
    simp only [okD, Bool.and_eq_true, decide_eq_true_eq] at hd
    obtain ⟨rfl, hd⟩ := hd
    simp only [stp] at hs
    split at hs <;> cases hs
end STEPW
end
section
/-! ===== a run of the small machine is one of the machine ===== -/
theorem cpy_len {h : aH} {x0 : Nat} {sp : Int32} {x1 : Nat} {dp n : Int32} {h' : aH} (hc : cpy h x0 sp x1 dp n = some h') : h.length ≤ h'.length ∧ sz h ≤ sz h' := by
  unfold cpy at hc
  split at hc
  · cases hc
  · split at hc
    · rename_i h0 h1
      split at hc
      · cases hc
        exact ⟨by simp, Nat.le_of_eq (Eq.symm (sz_set h1 rfl))⟩
      · cases hc
    · rename_i h0 h1
      split at hc
      · cases hc
        exact ⟨by simp, Nat.le_of_eq (Eq.symm (sz_set h1 rfl))⟩
      · cases hc
    · cases hc
set_option maxHeartbeats 4000000 in
theorem stp_len {X : aX} {pc : Nat} {e : aE} {lo st : List Value} {h : aH} {pc' : Nat} {lo' st' : List Value} {h' : aH} (hs : stp X pc e lo st h = some (.inl (pc', lo', st', h'))) : h.length ≤ h'.length ∧ sz h ≤ sz h' := by
  obtain ⟨ins, nx, a, b, v⟩ := e
  cases ins
  case ifCond cnd f =>
    cases cnd <;> simp only [stp] at hs <;> split at hs <;> first | (cases hs; done) | (cases hs; exact ⟨Nat.le_refl _, Nat.le_refl _⟩)
  case if_icmp cnd f =>
    cases cnd <;> simp only [stp] at hs <;> split at hs <;> first | (cases hs; done) | (cases hs; exact ⟨Nat.le_refl _, Nat.le_refl _⟩)
  case newarray ty =>
    cases ty
    all_goals try (simp only [stp, reduceCtorEq] at hs; done)
    all_goals
      simp only [stp] at hs
      split at hs
      · split at hs
        · cases hs
        · cases hs
          exact ⟨by simp, by rw [sz_app]; omega⟩
      · cases hs
  case putfield i =>
    simp only [stp] at hs
    split at hs
    · split at hs
      · rename_i heq
        split at hs
        · cases hs
          exact ⟨by simp, Nat.le_of_eq (Eq.symm (sz_set heq rfl))⟩
        · cases hs
      · cases hs
    · cases hs
  case iastore =>
    simp only [stp] at hs
    split at hs
    · split at hs
      · rename_i heq
        split at hs
        · cases hs
        · cases hs
          exact ⟨by simp, Nat.le_of_eq (Eq.symm (sz_set heq rfl))⟩
      · cases hs
    · cases hs
  case lastore =>
    simp only [stp] at hs
    split at hs
    · split at hs
      · rename_i heq
        split at hs
        · cases hs
        · cases hs
          exact ⟨by simp, Nat.le_of_eq (Eq.symm (sz_set heq rfl))⟩
      · cases hs
    · cases hs
  case aastore =>
    simp only [stp] at hs
    split at hs
    · split at hs
      · rename_i heq heqy
        split at hs
        · cases hs
        · split at hs
          · cases hs
            exact ⟨by simp, Nat.le_of_eq (Eq.symm (sz_set heq rfl))⟩
          · cases hs
      · cases hs
    · cases hs
  case invokestatic i =>
    simp only [stp] at hs
    split at hs
    · split at hs
      · split at hs
        · split at hs
          · rename_i hc
            cases hs
            exact cpy_len hc
          · cases hs
        · cases hs
      · cases hs
    · (repeat' (split at hs)) <;> first | (cases hs; done) | (cases hs; exact ⟨Nat.le_refl _, Nat.le_refl _⟩)
  case new i =>
    simp only [stp] at hs
    cases hs
    exact ⟨by simp, by rw [sz_app]; omega⟩
  case anewarray i =>
    simp only [stp] at hs
    split at hs
    · split at hs
      · cases hs
      · cases hs
        exact ⟨by simp, by rw [sz_app]; omega⟩
    · cases hs
  all_goals try (simp only [stp, reduceCtorEq] at hs; done)
  all_goals simp only [stp] at hs
  all_goals repeat' (split at hs)
  all_goals first | (cases hs; done) | (cases hs; exact ⟨Nat.le_refl _, Nat.le_refl _⟩)
theorem sA_stp {X : aX} {mi : aM} {pc : Nat} {lo st : List Value} {h : aH} {r : aR} (hs : sA X mi pc lo st h = some r) : ∃ e, ent mi pc = some e ∧ stp X pc e lo st h = some r := by
  unfold sA at hs
  cases he : ent mi pc with
  | none => rw [he] at hs; cases hs
  | some e => rw [he] at hs; exact ⟨e, rfl, hs⟩
theorem run_len {X : aX} : ∀ (n d : Nat) (mi : aM) (pc : Nat) (lo st : List Value) (h : aH) (v : Option Value) (h' : aH), run X n d mi pc lo st h = some (v, h') → h.length ≤ h'.length ∧ sz h ≤ sz h'
  | 0, _, _, _, _, _, _, _, _, hr => by simp [run] at hr
  | n + 1, d, mi, pc, lo, st, h, v, h', hr => by
    unfold run at hr
    cases hs : sA X mi pc lo st h with
    | none => rw [hs] at hr; simp at hr
    | some q =>
      rw [hs] at hr
      rcases q with ⟨pc', lo', st', h1⟩ | ⟨y, as, nx, st'⟩ | w
      · obtain ⟨e, -, he⟩ := sA_stp hs
        have a1 := stp_len he
        have a2 := run_len n d mi pc' lo' st' h1 v h' hr
        exact ⟨Nat.le_trans a1.1 a2.1, Nat.le_trans a1.2 a2.2⟩
      · dsimp only at hr
        cases d with
        | zero => simp at hr
        | succ d =>
          cases hy : mT y with
          | none => rw [hy] at hr; simp at hr
          | some my =>
            rw [hy] at hr
            dsimp only at hr
            split at hr
            · cases hc : run X n d my 0 (eL my as) [] h with
              | none => rw [hc] at hr; simp at hr
              | some q =>
                obtain ⟨w, h1⟩ := q
                rw [hc] at hr
                have a1 := run_len n d my 0 (eL my as) [] h w h1 hc
                have a2 := run_len n (d + 1) mi nx lo (w.toList ++ st') h1 v h' hr
                exact ⟨Nat.le_trans a1.1 a2.1, Nat.le_trans a1.2 a2.2⟩
            · cases hr
      · dsimp only at hr
        split at hr
        · cases hr
          exact ⟨Nat.le_refl _, Nat.le_refl _⟩
        · cases hr
/-! the entry -/
theorem elo_args {z : Nat} {E : Nat → Value} (hE : ∀ k, E k = .null ∨ ∃ t, E k = .ref t) : ∀ (as : List Value) (k i : Nat) (v : Value), (elo as)[i]? = some v → (∀ b, v ≠ .double b) → (k + i, cv z E v) ∈ lv_args k (as.map (cv z E))
  | [], _, _, _, h, _ => by simp [elo] at h
  | w :: as, k, i, v, h, hd => by
    rw [List.map_cons]
    unfold lv_args
    have two : ∀ (h2 : w.category = 2) (he : elo (w :: as) = w :: .double 0 :: elo as), (k + i, cv z E v) ∈ (k, cv z E w) :: lv_args (if (cv z E w).category = 2 then k + 2 else k + 1) (as.map (cv z E)) := by
      intro h2 he
      rw [he] at h
      rw [cv_cateq hE, if_pos h2]
      match i, h with
      | 0, h => simp at h; subst h; exact List.mem_cons_self
      | 1, h => simp at h; exact absurd h.symm (hd 0)
      | i + 2, h =>
        have := elo_args hE as (k + 2) i v (by simpa using h) hd (z := z)
        rw [show k + (i + 2) = k + 2 + i by omega]
        exact List.mem_cons_of_mem _ this
    have one : ∀ (h1 : ¬ w.category = 2) (he : elo (w :: as) = w :: elo as), (k + i, cv z E v) ∈ (k, cv z E w) :: lv_args (if (cv z E w).category = 2 then k + 2 else k + 1) (as.map (cv z E)) := by
      intro h1 he
      rw [he] at h
      rw [cv_cateq hE, if_neg h1]
      match i, h with
      | 0, h => simp at h; subst h; exact List.mem_cons_self
      | i + 1, h =>
        have := elo_args hE as (k + 1) i v (by simpa using h) hd (z := z)
        rw [show k + (i + 1) = k + 1 + i by omega]
        exact List.mem_cons_of_mem _ this
    cases w with
    | long x => exact two rfl rfl
    | double x => exact two rfl rfl
    | _ => exact one (by simp [Value.category]) rfl
theorem elo_len {z : Nat} {E : Nat → Value} (hE : ∀ k, E k = .null ∨ ∃ t, E k = .ref t) : ∀ (as : List Value), (lg_sl (as.map (cv z E))).length = (elo as).length
  | [] => rfl
  | w :: as => by
    have ih := elo_len hE as (z := z)
    rw [List.map_cons, show lg_sl (cv z E w :: as.map (cv z E)) = (if (cv z E w).category = 2 then [Slot.val (cv z E w), .second] else [.val (cv z E w)]) ++ lg_sl (as.map (cv z E)) from rfl, cv_cateq hE, List.length_append, ih]
    cases w <;> simp [Value.category, elo] <;> omega
theorem Lo.entry {z : Nat} {E : Nat → Value} (hE : ∀ k, E k = .null ∨ ∃ t, E k = .ref t) {mi : aM} {as : List Value} {ls : Array Slot} (hle : (elo as).length ≤ mi.2.1) (h : lv_has ls mi.2.1 (lv_args 0 (as.map (cv z E)))) : Lo z E mi.2.1 ls (eL mi as) := by
  refine ⟨h.1, by simp [eL]; omega, h.2.1, fun i v hi hd => ?_⟩
  unfold eL at hi
  by_cases hl : i < (elo as).length
  · rw [List.getElem?_append_left hl] at hi
    have := elo_args hE as 0 i v hi hd (z := z)
    rw [Nat.zero_add] at this
    exact h.2.2 _ this
  · rw [List.getElem?_append_right (by omega)] at hi
    have := List.mem_of_getElem? hi
    rw [List.mem_replicate] at this
    exact absurd this.2 (hd 0)
/-! calls -/
theorem call_go {p : Program} {l : Launch} {e : Env} {R : Room} {s : State} {m : MethodId} {args : Array Value} {below : List Frame} {meth : Method} {c : Code} {H : Heap} {locs : List Loc} {cells slots mc ms : Nat} {Q : State → Prop} {pc : Nat} {ls : Array Slot} {st0 rest : List Value} {Qa : State → Outcome → State → Prop} {free : Addr → Prop}
    (hr : va_Run p l e R s m args below meth c H locs cells slots mc ms (F0 m pc ls st0) rest Qa free)
    (kk : ∀ (v : Option Value) (st₀ t : State) (H1 : Heap) (L : List Loc), st₀.heap = H → t.heap = H1 → Qa st₀ (.returned v) t → (∀ q ∈ L, free q.base) → W p l e R s m args below meth c H1 (locs ++ L) (cells + mc) (slots + ms) Q (F0 m (pc + 3) ls (v.toList ++ rest))) : W p l e R s m args below meth c H locs cells slots Q (F0 m pc ls st0) := by
  intro T hT X0
  obtain ⟨v, st₀, t, T', L, h0, X', hL, e1, e2, hq, st⟩ := hr T hT X0
  obtain ⟨t2, a1, b1⟩ := kk v st₀ t T'.heap L h0 e1.symm hq hL T' rfl X'
  exact ⟨t2, st t2 a1, b1⟩
/-- a method's start, and its end -/
def PcB (z : Nat) (D : va_G) (kA : Nat → ClassId) (E : Nat → Value) (X : aX) (h : aH) (U : State) : Prop := va_K D vwCl (tyl kA) U ∧ Ex z E X U U.heap ∧ U.heap.size = z + h.length ∧ va_P D vwCl (wl z E kA h) U.heap
def QcB (z : Nat) (D : va_G) (kA : Nat → ClassId) (E : Nat → Value) (v : Option Value) (h : aH) : Array Value → State → Outcome → State → Prop := fun _ st o t => o = .returned (v.map (cv z E)) ∧ va_P D vwCl (wl z E kA h) t.heap ∧ va_F (fun q => z ≤ q) st t
theorem PcB.to {z : Nat} {D : va_G} {kA : Nat → ClassId} {E : Nat → Value} {X : aX} {h : aH} {s U : State} {H : Heap} (hK : va_K D vwCl (tyl kA) s) (hEx : Ex z E X s s.heap) (hz : z ≤ s.heap.size) {locs : List Loc} (hR : Rl z D kA E s H locs h) (hsz : H.size = z + h.length) (hU : U.heap = H) (hW : s.WarmedH U.vm) : PcB z D kA E X h U := by
  refine ⟨va_K.moved hW.alike hK, ?_, by rw [hU]; exact hsz, by rw [hU]; exact hR.1⟩
  rw [hU]
  exact hEx.to hW (fun a h1 h2 => hR.2.2.1 a h1 h2)
theorem PcB.blind {z : Nat} {D : va_G} {kA : Nat → ClassId} {E : Nat → Value} {X : aX} {h : aH} {av : List Value} : FrameBlind (va_Pc av (PcB z D kA E X h)) := by
  intro a U g mk hq
  obtain ⟨h1, h2, h3, h4, h5⟩ := hq
  exact ⟨h1, va_K.moved (u := U) (U := U.calling g mk a) (Vm.Alike.refl U.vm) h2, h3.to (U := U.calling g mk a) (State.WarmedH.refl U) (fun _ _ _ => rfl), h4, h5⟩
theorem GoodIn_gT {w : Cond} (hw : w ∈ gT) : GoodIn gT (w :: gT) := by
  intro x hx
  have hx2 : x ∈ gT := by
    rcases List.mem_cons.mp hx with rfl | h
    · exact hw
    · exact h
  exact ⟨hx2, good_of_word (gT_good x hx2).2⟩
end
section
/-- what the tables say of a method -/
theorem m_facts {i : Nat} {my : aM} (h : mT i = some my) : Cond.code (mN i).1 (mN i).2 my.2.1 my.2.2.1 ∈ gT ∧ Cond.initialized (mN i).1.cls ∈ gT ∧ (mN i).1.cls = oN my.2.2.2.1 ∧ plainName (mN i).1.cls = true ∧ ((mN i).1.cls ≠ "java/lang/invoke/MethodHandle" ∧ (mN i).1.cls ≠ "java/lang/invoke/VarHandle") ∧ my.2.1 ≤ 40 ∧ (ini i = true → (mN i).1.name = "<init>") := by
  have h1 := okW_all i (mT_lt h)
  unfold okW at h1
  rw [h] at h1
  simp only [Bool.and_eq_true, decide_eq_true_eq] at h1
  obtain ⟨⟨⟨⟨⟨⟨-, h3⟩, h4⟩, h5⟩, h6⟩, h7⟩, h8⟩ := h1
  exact ⟨gT_in _ (allW i my h) rfl, gT_in _ h3 rfl, h4, h5, h6, h7, h8⟩
theorem split_at {b : Nat} {st : List Value} {w : Value} (hb : 0 < b) (h : st[b - 1]? = some w) : st = st.take (b - 1) ++ w :: st.drop b ∧ (st.take b).reverse = w :: (st.take (b - 1)).reverse ∧ (st.take (b - 1)).length = b - 1 := by
  have hl := (List.getElem?_eq_some_iff.mp h).1
  have hw := (List.getElem?_eq_some_iff.mp h).2
  have e1 : st.drop (b - 1) = w :: st.drop b := by
    rw [List.drop_eq_getElem_cons hl, hw, show b - 1 + 1 = b by omega]
  refine ⟨?_, ?_, by rw [List.length_take]; omega⟩
  · conv => lhs; rw [← List.take_append_drop (b - 1) st, e1]
  · have : st.take b = st.take (b - 1) ++ [w] := by
      rw [show b = b - 1 + 1 by omega, List.take_succ, h]
      simp
    rw [this, List.reverse_append]
    rfl
/-- a return's instruction and its value -/
def rtI (i : Instr) (v : Option Value) : Prop := (i = .ireturn ∧ ∃ x, v = some (.int x)) ∨ (i = .lreturn ∧ ∃ x, v = some (.long x)) ∨ (i = .areturn ∧ ((∃ x, v = some (.ref x)) ∨ ∃ x, v = some (.retAddr x))) ∨ (i = .return_ ∧ v = none)
theorem mm_in : mm.all (fun q => decide (q.2.2.1 = 902 ∨ q.2.2.1 = 903 ∨ q.2.2.1 = 904)) = true := by decide +kernel
theorem mm_not {o i a : Nat} (h : mm.any (fun q => decide (q.1 = o ∧ q.2.1 = i ∧ q.2.2.1 = a)) = true) (h2 : ¬ a = 902) (h3 : ¬ a = 903) (h4 : ¬ a = 904) : False := by
  obtain ⟨q, hq, h1⟩ := List.any_eq_true.mp h
  have h5 := of_decide_eq_true (List.all_eq_true.mp mm_in q hq)
  have h6 := (of_decide_eq_true h1).2.2
  omega
/-- what is proved by induction on the steps -/
def Snd (X : aX) (n : Nat) : Prop := ∀ (d : Nat) (mi : aM) (pc : Nat) (lo st : List Value) (h : aH) (v : Option Value) (hf : aH), run X n d mi pc lo st h = some (v, hf) →
  ∀ (z : Nat) (D : va_G) (kA : Nat → ClassId) (E : Nat → Value) (p : Program) (l : Launch) (e : Env) (R : Room) (s : State) (m : MethodId) (args : Array Value) (below : List Frame) (meth : Method) (c : Code) (cc : ByteArray) (ii : Bool) (H : Heap) (locs : List Loc) (cells slots CF SF : Nat) (Q : State → Prop) (ls : Array Slot),
  Cx z D kA E X p s m args meth c cc mi ii → Lo z E mi.2.1 ls lo → Rl z D kA E s H locs h → s.heap.size + cells = z + h.length → cells + (hf.length - h.length) = CF → slots + (sz hf - sz h) = SF → CF ≤ R.cells → SF ≤ R.slots → d + 1 ≤ R.frames → 64 * (d + 1) ≤ R.locals →
  (∀ (pc : Nat) (i : Instr) (ls : Array Slot) (H' : Heap) (locs' : List Loc), decode cc pc = .ok (i, 1) → rtI i v → rok mi.2.2.1 v = true → Rl z D kA E s H' locs' hf → W p l e R s m args below meth c H' locs' CF SF Q (F0 m pc ls ((v.map (cv z E)).toList))) →
  W p l e R s m args below meth c H locs cells slots Q (F0 m pc ls (st.map (cv z E)))
set_option maxHeartbeats 4000000 in
/-- a method's contract, from its run -/
theorem met_of {X : aX} {n : Nat} (ih : Snd X n) (allC : ∀ i my, mT i = some my → okC (mN i).2 my.2.2.2.1 (ini i) 0 my.1 = true) {d y : Nat} {my : aM} {as : List Value} {h h1 : aH} {v : Option Value} (hy : mT y = some my) (hl : (elo as).length ≤ my.2.1) (hr : run X n d my 0 (eL my as) [] h = some (v, h1)) (z : Nat) (D : va_G) (kA : Nat → ClassId) (E : Nat → Value) (l : Launch) :
    Met l (mN y).1 (Cond.code (mN y).1 (mN y).2 my.2.1 my.2.2.1 :: gT) ({ frames := d + 1, cells := h1.length - h.length, slots := sz h1 - sz h, locals := 64 * (d + 1) } : Room) (va_Pc (as.map (cv z E)) (PcB z D kA E X h)) (QcB z D kA E v h1) (h1.length - h.length) (sz h1 - sz h) (fun q => z ≤ q) := by
  obtain ⟨f1, f2, f3, f4, f5, f6, f7⟩ := m_facts hy
  refine Met.ofW (cc := (mN y).2) (maxL := my.2.1) (ret := my.2.2.1) f4 rfl ?_
  intro p e s m args below meth c s₁ B hml hv
  obtain ⟨rfl, hK, hEx, hsz, hP⟩ := hv
  have hE : ∀ k, E k = .null ∨ ∃ t, E k = .ref t := hEx.2.2.2.2.2.2.2.2
  have hx := B.exec
  have hb := B.bytes
  have hr' := B.returns
  have hts := atoms_spec (ws := Cond.code (mN y).1 (mN y).2 my.2.1 my.2.2.1 :: gT) B.pre
  have hown : s.vm.findClass (mN y).1.cls = some m.cls := findClass_of_methodNamed B.named
  have hlocks := B.notSynchronized
  have hin := (name_of_methodNamed B.named B.method).1
  have hz : z ≤ s.heap.size := by omega
  have hl0 := lv_entry (as.map (cv z E)) (n := my.2.1) (by rw [elo_len hE]; exact hl)
  rw [lg_entry_eq]
  generalize (lg_sl (as.map (cv z E)) ++ List.replicate (my.2.1 - (lg_sl (as.map (cv z E))).length) Slot.unset).toArray = ls at hl0 ⊢
  have hL : Lo z E my.2.1 ls (eL my as) := Lo.entry hE hl hl0
  have hR : Rl z D kA E s s.heap [] h := ⟨hP, va_S.rf⟩
  refine ih d my 0 (eL my as) [] h v h1 hr z D kA E p l e _ s m _ below meth c (mN y).2 (ini y) s.heap [] 0 0 (h1.length - h.length) (sz h1 - sz h) _ ls ⟨hx, hb, hml, by rw [← f3]; exact hown, fun w hw => hts w (List.mem_cons_of_mem _ hw), allC y my hy, fun q => by rw [hin]; exact f7 q, hK, hEx, hz⟩ hL hR (by omega) (by omega) (by omega) (Nat.le_refl _) (Nat.le_refl _) (Nat.le_refl _) (Nat.le_refl _) ?_
  intro pc i ls' H' locs' hd hi hro hR'
  have hq : ∀ t : State, t.heap = H' → s.WarmedH t.vm → QcB z D kA E v h1 (as.map (cv z E)).toArray s (.returned (v.map (cv z E))) t := fun t ht _ => ⟨rfl, by rw [ht]; exact hR'.1, hR'.2.F ht⟩
  have hfr : ∀ q ∈ locs', z ≤ q.base := hR'.2.2.2
  rcases hi with ⟨rfl, x, rfl⟩ | ⟨rfl, x, rfl⟩ | ⟨rfl, hv⟩ | ⟨rfl, rfl⟩
  · cases hty : my.2.2.1 with
    | none => rw [hty] at hro; simp [rok] at hro
    | some ty =>
      rw [hty] at hro hr'
      cases ty
      case int => exact W.iret hx hb hr' hq hfr hd
      case boolean =>
        refine W.zret hx hb hr' ?_ hq hfr hd
        have : x = 0 ∨ x = 1 := by simpa [rok] using hro
        rcases this with rfl | rfl <;> rfl
      case char => exact W.zret hx hb hr' (by simpa [rok] using hro) hq hfr hd
      case byte => exact W.zret hx hb hr' (by simpa [rok] using hro) hq hfr hd
      all_goals simp [rok] at hro
  · cases hty : my.2.2.1 with
    | none => rw [hty] at hro; simp [rok] at hro
    | some ty =>
      rw [hty] at hro hr'
      cases ty
      case long => exact W.lret hx hb hr' hq hfr hd
      all_goals simp [rok] at hro
  · have hv2 : ∃ w, v = some w ∧ (cv z E w = .null ∨ ∃ a, cv z E w = .ref a) := by
      rcases hv with ⟨x, rfl⟩ | ⟨x, rfl⟩
      · exact ⟨_, rfl, Or.inr ⟨_, rfl⟩⟩
      · exact ⟨_, rfl, hE x⟩
    obtain ⟨w, rfl, hw⟩ := hv2
    cases hty : my.2.2.1 with
    | none => rw [hty] at hro; simp [rok] at hro
    | some ty =>
      rw [hty] at hro hr'
      cases ty
      case object nm => exact W.aret hx hb hr' (Or.inl ⟨_, rfl⟩) hw hq hfr hd
      all_goals (rcases hv with ⟨x, e⟩ | ⟨x, e⟩ <;> cases e <;> simp [rok] at hro)
  · cases hty : my.2.2.1 with
    | none => rw [hty] at hr'; exact W.vret hx hb hr' hq hfr hd
    | some ty => rw [hty] at hro; cases ty <;> simp [rok] at hro
set_option maxHeartbeats 8000000 in
theorem snd_all {X : aX} (allC : ∀ i my, mT i = some my → okC (mN i).2 my.2.2.2.1 (ini i) 0 my.1 = true) : ∀ n, Snd X n := by
  intro n
  induction n with
  | zero => intro d mi pc lo st h v hf hr; simp [run] at hr
  | succ n ih =>
    intro d mi pc lo st h v hf hr z D kA E p l e R s m args below meth c cc ii H locs cells slots CF SF Q ls hC hL hR hn hCF hSF hRC hRS hRF hRL hret
    unfold run at hr
    cases hs : sA X mi pc lo st h with
    | none => rw [hs] at hr; simp at hr
    | some q =>
      rw [hs] at hr
      obtain ⟨en, hen, hstp⟩ := sA_stp hs
      obtain ⟨ins, nx, a, b, w⟩ := en
      rcases q with ⟨pc', lo', st', h1⟩ | ⟨y, as, nx', st'⟩ | v'
      · have a1 := stp_len hstp
        have a2 := run_len n d mi pc' lo' st' h1 v hf hr
        refine stp_W hC hen hstp hL hR hn ⟨by omega, by omega⟩ ⟨by omega, by omega⟩ ?_
        intro ls' H' locs' hL' hR'
        exact ih d mi pc' lo' st' h1 v hf hr z D kA E p l e R s m args below meth c cc ii H' locs' _ _ CF SF Q ls' hC hL' hR' (by omega) (by omega) (by omega) hRC hRS hRF hRL hret
      · dsimp only at hr
        cases d with
        | zero => simp at hr
        | succ d =>
          cases hy : mT y with
          | none => rw [hy] at hr; simp at hr
          | some my =>
            rw [hy] at hr
            dsimp only at hr
            split at hr
            · rename_i hl
              cases hc : run X n d my 0 (eL my as) [] h with
              | none => rw [hc] at hr; simp at hr
              | some q =>
                obtain ⟨v1, h1⟩ := q
                rw [hc] at hr
                have hM := met_of ih allC hy hl hc z D kA E l
                have a1 := run_len n d my 0 (eL my as) [] h v1 h1 hc
                have a2 := run_len n (d + 1) mi nx' lo (v1.toList ++ st') h1 v hf hr
                obtain ⟨f1, f2, f3, f4, f5, f6, f7⟩ := m_facts hy
                obtain ⟨hx, hb, hml, hown, hts, hok, hini, hK, hEx, hz⟩ := id hC
                have hE : ∀ k, E k = .null ∨ ∃ t, E k = .ref t := hEx.2.2.2.2.2.2.2.2
                have ho := ent_ok hok hen
                unfold okE at ho
                rw [Bool.and_eq_true] at ho
                obtain ⟨hd, ho⟩ := ho
                refine W.hsz hz hn hR (fun hsz => ?_)
                have hcells : cells + (h1.length - h.length) ≤ R.cells ∧ slots + (sz h1 - sz h) ≤ R.slots := ⟨by omega, by omega⟩
                have hrm : d + 1 + 1 ≤ R.frames ∧ 8 + (my.2.1 + 11) + 64 * (d + 1) ≤ R.locals := ⟨by omega, by omega⟩
                -- behind the call
                have behind : ∀ (Qa : Array Value), nx' = pc + 3 → va_Run p l e R s m args below meth c H locs cells slots (h1.length - h.length) (sz h1 - sz h) (F0 m pc ls (st.map (cv z E))) (st'.map (cv z E)) (QcB z D kA E v1 h1 Qa) (fun q => z ≤ q) → W p l e R s m args below meth c H locs cells slots Q (F0 m pc ls (st.map (cv z E))) := by
                  intro Qa hnx hrun
                  refine call_go hrun (fun v2 st₀ t H1 L g1 g2 g3 g4 => ?_)
                  obtain ⟨g5, g6, g7⟩ := g3
                  cases g5
                  rw [g2] at g6
                  obtain ⟨g7, g8⟩ := g7
                  rw [g1, g2] at g7
                  have hS1 : va_S (fun q => z ≤ q) s.heap H1 (locs ++ L) := ⟨Nat.le_trans hR.2.1 g7, fun q q1 q2 => by
                    have := g8 q (by rw [g1]; exact Nat.lt_of_lt_of_le q1 hR.2.1) q2
                    rw [g1, g2] at this
                    rw [this]
                    exact hR.2.2.1 q q1 q2, fun q hq => by
                    rcases List.mem_append.mp hq with q1 | q1
                    · exact hR.2.2.2 q q1
                    · exact g4 q q1⟩
                  have := ih (d + 1) mi nx' lo (v1.toList ++ st') h1 v hf hr z D kA E p l e R s m args below meth c cc ii H1 (locs ++ L) (cells + (h1.length - h.length)) (slots + (sz h1 - sz h)) CF SF Q ls hC hL ⟨g6, hS1⟩ (by omega) (by omega) (by omega) hRC hRS hRF hRL hret
                  rw [List.map_append, hnx] at this
                  cases v1 <;> exact this
                have hFix : CallFix p m c cc mi.2.1 s args gT (oN mi.2.2.2.1) := ⟨hx, hb, hml, hown, hts⟩
                have hG := GoodIn_gT f1
                have hsum : ∀ (r : List Value), (r.map Value.category).sum ≤ 8 → 2 * (F0 m pc ls (st.map (cv z E))).monitorRoom + ((r.map (cv z E)).map fun v => v.category).sum ≤ 8 := fun r hr8 => by
                  rw [cv_sum hE]
                  show 2 * 0 + _ ≤ 8
                  omega
                have hpreS : PreS s H (va_Pc (as.map (cv z E)) (PcB z D kA E X h)) (as.map (cv z E)) := ⟨PcB.blind, fun U hU hW => ⟨rfl, PcB.to hK hEx hz hR hsz hU hW⟩⟩
                cases ins
                all_goals try (simp only [stp, reduceCtorEq] at hstp; done)
                case invokevirtual i =>
                  simp only [okD, Bool.and_eq_true, decide_eq_true_eq] at hd
                  obtain ⟨rfl, hd⟩ := hd
                  simp only [okO, Bool.and_eq_true, decide_eq_true_eq] at ho
                  obtain ⟨⟨⟨ho, hb0⟩, hpar⟩, hcls⟩ := ho
                  obtain ⟨q, hq, ho⟩ := List.any_eq_true.mp ho
                  have hml := List.all_eq_true.mp mlk_ok q hq
                  obtain ⟨qo, qi, qy, qk, qp⟩ := q
                  obtain ⟨e1, e2, e3, e4⟩ := of_decide_eq_true ho
                  simp only at e1 e2 e3 e4
                  subst e2; subst e4
                  simp only [mlk, if_pos, Bool.and_eq_true, decide_eq_true_eq] at hml
                  obtain ⟨⟨w1, w2⟩, w3⟩ := hml
                  simp only [stp] at hstp
                  split at hstp
                  · rename_i x hst
                    split at hstp
                    · rename_i ci fs hcell
                      split at hstp
                      · rename_i hcond
                        cases hstp
                        rw [e1, e3] at w1
                        rw [e3] at w2 w3
                        rw [hy] at hcls
                        obtain ⟨hv1, hv2⟩ := hcond
                        have hci : my.2.2.2.1 = ci := by
                          have h12 : w = .retAddr my.2.2.2.1 := by simpa using hcls
                          rw [h12] at hv1
                          exact Value.retAddr.inj hv1
                        obtain ⟨s1, s2, s3⟩ := split_at hb0 hst
                        have hc8 : ci < 8 := by
                          obtain ⟨r0, hr0, -⟩ := hR.1 x _ (wl_at hcell)
                          exact (List.getElem?_eq_some_iff.mp hr0).1
                        refine behind _ rfl (va_runV (As := (st.take (b - 1)).reverse.map (cv z E)) (b := z + x) hFix hM (C := (mN a).1.cls) ⟨callB_of (b - 1) hts hG rfl rfl rfl (hts _ f2) (hts _ (gT_in _ w1 rfl)) ⟨f5.1, f5.2, hpar⟩ hrm, hts _ (gT_in _ w2 rfl), hts _ (gT_in _ w3 rfl)⟩ ⟨PcB.blind, ?_, ?_⟩ rfl (by rw [List.length_map, List.length_reverse, s3]) hL.1 ?_ (hsum _ hv2) hd hcells)
                        · have := va_recv hK hR.1 (cls_at ci hc8) (wl_at hcell)
                          rw [f3, hci]
                          exact this
                        · intro U hU hW
                          exact ⟨by rw [s2]; rfl, PcB.to hK hEx hz hR hsz hU hW⟩
                        · show st.map (cv z E) = _
                          conv => lhs; rw [s1]
                          simp [cv]
                      · cases hstp
                    · cases hstp
                  · rename_i k hst
                    split at hstp
                    · rename_i hcond
                      cases hstp
                      rw [e1, e3] at w1
                      rw [e3] at w2 w3
                      rw [hy] at hcls
                      obtain ⟨hv1, hv3, hv4, hv2⟩ := hcond
                      have hci : my.2.2.2.1 = 12 := by
                        have h12 : w = .retAddr my.2.2.2.1 := by simpa using hcls
                        rw [h12] at hv1
                        exact Value.retAddr.inj hv1
                      obtain ⟨s1, s2, s3⟩ := split_at hb0 hst
                      obtain ⟨adK, adV, hsx, hsS⟩ := hEx.2.2.2.2.1
                      have hk11 : k - 10 < 11 := by have : sT.length = 11 := rfl; omega
                      obtain ⟨k1, -, -⟩ := hsx (k - 10) hk11
                      rw [show 10 + (k - 10) = k by omega] at k1
                      refine behind _ rfl (va_runV (As := (st.take (b - 1)).reverse.map (cv z E)) (b := adK (k - 10)) hFix hM (C := (mN a).1.cls) ⟨callB_of (b - 1) hts hG rfl rfl rfl (hts _ f2) (hts _ (gT_in _ w1 rfl)) ⟨f5.1, f5.2, hpar⟩ hrm, hts _ (gT_in _ w2 rfl), hts _ (gT_in _ w3 rfl)⟩ ⟨PcB.blind, ?_, ?_⟩ rfl (by rw [List.length_map, List.length_reverse, s3]) hL.1 ?_ (hsum _ hv2) hd hcells)
                      · have := vk_recv hsS hk11 hR.2
                        rw [f3, hci]
                        exact this
                      · intro U hU hW
                        exact ⟨by rw [s2, List.map_cons, cv, k1], PcB.to hK hEx hz hR hsz hU hW⟩
                      · show st.map (cv z E) = _
                        conv => lhs; rw [s1]
                        simp [cv, k1]
                    · cases hstp
                  · cases hstp
                case invokestatic i =>
                  simp only [okD, Bool.and_eq_true, decide_eq_true_eq] at hd
                  obtain ⟨rfl, hd⟩ := hd
                  simp only [stp] at hstp
                  split at hstp
                  · repeat' (split at hstp)
                    all_goals cases hstp
                  · rename_i h901
                    split at hstp
                    · repeat' (split at hstp)
                      all_goals cases hstp
                    · rename_i h902
                      split at hstp
                      · repeat' (split at hstp)
                        all_goals cases hstp
                      · rename_i h903
                        split at hstp
                        · repeat' (split at hstp)
                          all_goals cases hstp
                        · rename_i h904
                          split at hstp
                          · rename_i hcond
                            cases hstp
                            obtain ⟨hlen, hv2⟩ := hcond
                            simp only [okO, Bool.and_eq_true, Bool.or_eq_true, decide_eq_true_eq] at ho
                            rcases ho with ((ho | ho) | ho) | ⟨⟨ho1, hpar⟩, ho⟩
                            · subst ho
                              exact absurd hy (by rw [show mT 999 = none from rfl]; exact fun q => by cases q)
                            · exact absurd ho.1 h901
                            · exact (mm_not ho h902 h903 h904).elim
                            · obtain ⟨q, hq, ho⟩ := List.any_eq_true.mp ho
                              have hml := List.all_eq_true.mp mlk_ok q hq
                              obtain ⟨qo, qi, qy, qk, qp⟩ := q
                              obtain ⟨e1, e2, e3, e4⟩ := of_decide_eq_true ho
                              simp only at e1 e2 e3 e4
                              have hstack : (F0 m pc ls (st.map (cv z E))).stack = ((st.take b).reverse.map (cv z E)).reverse ++ (st.drop b).map (cv z E) := by
                                show st.map (cv z E) = _
                                rw [List.map_reverse, List.reverse_reverse, ← List.map_append, List.take_append_drop]
                              have hlas : ((st.take b).reverse.map (cv z E)).length = b := by rw [List.length_map, List.length_reverse, List.length_take]; omega
                              rcases e4 with e4 | e4
                              · subst e2; subst e4
                                simp only [mlk, Nat.succ_ne_self, Nat.one_ne_zero, if_false, if_pos, Bool.and_eq_true, decide_eq_true_eq] at hml
                                obtain ⟨w1, w2⟩ := hml
                                rw [e1, e3] at w1
                                rw [e3] at w2
                                exact behind _ rfl (va_runS hFix hM ⟨callB_of b hts hG rfl rfl rfl (hts _ f2) (hts _ (gT_in _ w1 rfl)) ⟨f5.1, f5.2, hpar⟩ hrm, hts _ (gT_in _ w2 rfl)⟩ hpreS rfl hlas hL.1 hstack (hsum _ hv2) hd hcells)
                              · subst e2; subst e4
                                have hnest := hEx.2.2.2.2.2.1 _ hq (Nat.le_refl 3)
                                simp only [mlk, Nat.reduceEqDiff, if_false, if_pos, decide_eq_true_eq] at hml
                                simp only at hnest
                                rw [e1, e3] at hnest
                                rw [e3] at hml
                                exact behind _ rfl (va_runSN (host := RX6) hFix hM ⟨va_cnB b hts hG rfl rfl rfl hnest (hts _ f2) ⟨f5.1, f5.2, hpar⟩ hrm, hts _ (gT_in _ hml rfl), trivial⟩ hpreS rfl hlas hL.1 hstack (hsum _ hv2) hd hcells)
                          · cases hstp
                case invokespecial i =>
                  simp only [okD, Bool.and_eq_true, decide_eq_true_eq] at hd
                  obtain ⟨rfl, hd⟩ := hd
                  simp only [stp] at hstp
                  split at hstp
                  · repeat' (split at hstp)
                    all_goals cases hstp
                  · rename_i h900
                    split at hstp
                    · rename_i x hw0
                      split at hstp
                      case isFalse => cases hstp
                      rename_i hv2
                      cases hstp
                      simp only [okO, Bool.and_eq_true, Bool.or_eq_true, decide_eq_true_eq] at ho
                      rcases ho with ho | ⟨⟨⟨ho1, hb0⟩, hpar⟩, ho⟩
                      · exact absurd ho.1 h900
                      · obtain ⟨q, hq, ho⟩ := List.any_eq_true.mp ho
                        have hml := List.all_eq_true.mp mlk_ok q hq
                        obtain ⟨qo, qi, qy, qk, qp⟩ := q
                        obtain ⟨e1, e2, e3, e4⟩ := of_decide_eq_true ho
                        simp only at e1 e2 e3 e4
                        obtain ⟨s1, s2, s3⟩ := split_at hb0 hw0
                        have hlas : ((st.take (b - 1)).reverse.map (cv z E)).length = b - 1 := by rw [List.length_map, List.length_reverse, s3]
                        have hstack : (F0 m pc ls (st.map (cv z E))).stack = ((st.take (b - 1)).reverse.map (cv z E)).reverse ++ .ref (z + x) :: (st.drop b).map (cv z E) := by
                          show st.map (cv z E) = _
                          conv => lhs; rw [s1]
                          simp [cv]
                        have hpre2 : PreS s H (va_Pc ((st.take b).reverse.map (cv z E)) (PcB z D kA E X h)) (.ref (z + x) :: (st.take (b - 1)).reverse.map (cv z E)) := ⟨PcB.blind, fun U hU hW => ⟨by rw [s2]; rfl, PcB.to hK hEx hz hR hsz hU hW⟩⟩
                        rcases e4 with e4 | e4
                        · subst e2; subst e4
                          simp only [mlk, Nat.reduceEqDiff, Nat.succ_ne_self, if_false, if_pos, Bool.and_eq_true, decide_eq_true_eq] at hml
                          obtain ⟨⟨⟨w1, w2⟩, w3⟩, w4⟩ := hml
                          rw [e1, e3] at w1
                          rw [e3] at w2 w3 w4
                          rw [hy] at w4
                          have w4 : my.2.2.1 = none := by simpa using w4
                          rw [w4] at hM f1
                          exact behind _ rfl (va_runI hFix hM ⟨callB_of (b - 1) hts (GoodIn_gT f1) rfl rfl rfl (hts _ f2) (hts _ (gT_in _ w1 rfl)) ⟨f5.1, f5.2, hpar⟩ hrm, w3, hts _ (gT_in _ w2 rfl)⟩ hpre2 rfl hlas hL.1 hstack (hsum _ hv2) hd hcells)
                        · subst e2; subst e4
                          have hnest := hEx.2.2.2.2.2.1 _ hq (show 3 ≤ 4 by omega)
                          simp only [mlk, Nat.reduceEqDiff, if_false, Bool.and_eq_true, decide_eq_true_eq] at hml
                          simp only at hnest
                          obtain ⟨⟨w2, w3⟩, w4⟩ := hml
                          rw [e1, e3] at hnest
                          rw [e3] at w2 w3 w4
                          rw [hy] at w4
                          have w4 : my.2.2.1 = none := by simpa using w4
                          rw [w4] at hM f1
                          exact behind _ rfl (va_runIN (host := RX6) hFix hM ⟨va_cnB (b - 1) hts (GoodIn_gT f1) rfl rfl rfl hnest (hts _ f2) ⟨f5.1, f5.2, hpar⟩ hrm, w3, hts _ (gT_in _ w2 rfl)⟩ hpre2 rfl hlas hL.1 hstack (hsum _ hv2) hd hcells)
                    · cases hstp
                case ifCond cnd f => cases cnd <;> simp only [stp] at hstp <;> split at hstp <;> cases hstp
                case if_icmp cnd f => cases cnd <;> simp only [stp] at hstp <;> split at hstp <;> cases hstp
                case newarray ty => cases ty <;> simp only [stp, reduceCtorEq] at hstp <;> (repeat' (split at hstp)) <;> cases hstp
                all_goals (simp only [stp] at hstp; (repeat' (split at hstp)) <;> cases hstp)
            · cases hr
      · dsimp only at hr
        split at hr
        · rename_i hro
          cases hr
          obtain ⟨hx, hb, hml, hown, hts, hok, hini, hK, hEx, hz⟩ := id hC
          have ho := ent_ok hok hen
          unfold okE at ho
          rw [Bool.and_eq_true] at ho
          obtain ⟨hd, -⟩ := ho
          have hC0 : CF = cells := by omega
          have hS0 : SF = slots := by omega
          subst hC0; subst hS0
          cases ins
          all_goals try (simp only [stp, reduceCtorEq] at hstp; done)
          case ireturn =>
            simp only [okD, Bool.and_eq_true, decide_eq_true_eq] at hd
            simp only [stp] at hstp
            split at hstp
            · cases hstp
              exact hret pc _ ls H locs hd.2 (Or.inl ⟨rfl, _, rfl⟩) hro hR
            · cases hstp
          case lreturn =>
            simp only [okD, Bool.and_eq_true, decide_eq_true_eq] at hd
            simp only [stp] at hstp
            split at hstp
            · cases hstp
              exact hret pc _ ls H locs hd.2 (Or.inr (Or.inl ⟨rfl, _, rfl⟩)) hro hR
            · cases hstp
          case areturn =>
            simp only [okD, Bool.and_eq_true, decide_eq_true_eq] at hd
            simp only [stp] at hstp
            split at hstp
            · cases hstp
              exact hret pc _ ls H locs hd.2 (Or.inr (Or.inr (Or.inl ⟨rfl, Or.inl ⟨_, rfl⟩⟩))) hro hR
            · cases hstp
              exact hret pc _ ls H locs hd.2 (Or.inr (Or.inr (Or.inl ⟨rfl, Or.inr ⟨_, rfl⟩⟩))) hro hR
            · cases hstp
          case return_ =>
            simp only [okD, Bool.and_eq_true, decide_eq_true_eq] at hd
            simp only [stp] at hstp
            split at hstp
            · cases hstp
              exact hret pc _ ls H locs hd.2 (Or.inr (Or.inr (Or.inr ⟨rfl, rfl⟩))) hro hR
            · cases hstp
          case ifCond cnd f => cases cnd <;> simp only [stp] at hstp <;> split at hstp <;> cases hstp
          case if_icmp cnd f => cases cnd <;> simp only [stp] at hstp <;> split at hstp <;> cases hstp
          case newarray ty => cases ty <;> simp only [stp, reduceCtorEq] at hstp <;> (repeat' (split at hstp)) <;> cases hstp
          all_goals (simp only [stp] at hstp; (repeat' (split at hstp)) <;> cases hstp)
        · cases hr
end
section
theorem qcl_0 : okL cL_law 8 false 0 cl_0 = true := by decide +kernel
theorem qcl_1 : okL cL_law 8 false 16 cl_1 = true := by decide +kernel
theorem qcl_2 : okL cL_law 8 false 32 cl_2 = true := by decide +kernel
theorem qcl_3 : okL cL_law 8 false 48 cl_3 = true := by decide +kernel
theorem qcl_4 : okL cL_law 8 false 64 cl_4 = true := by decide +kernel
theorem qcl_5 : okL cL_law 8 false 80 cl_5 = true := by decide +kernel
theorem qcl_6 : okL cL_law 8 false 96 cl_6 = true := by decide +kernel
theorem qcl_7 : okL cL_law 8 false 112 cl_7 = true := by decide +kernel
theorem qcl_8 : okL cL_law 8 false 128 cl_8 = true := by decide +kernel
theorem qcl_9 : okL cL_law 8 false 144 cl_9 = true := by decide +kernel
theorem qcl_10 : okL cL_law 8 false 160 cl_10 = true := by decide +kernel
theorem qcl_11 : okL cL_law 8 false 176 cl_11 = true := by decide +kernel
theorem qcl_12 : okL cL_law 8 false 192 cl_12 = true := by decide +kernel
theorem qcl_13 : okL cL_law 8 false 208 cl_13 = true := by decide +kernel
theorem qcl_14 : okL cL_law 8 false 224 cl_14 = true := by decide +kernel
theorem qcl_15 : okL cL_law 8 false 240 cl_15 = true := by decide +kernel
theorem qcl_16 : okL cL_law 8 false 256 cl_16 = true := by decide +kernel
theorem qcl_17 : okL cL_law 8 false 272 cl_17 = true := by decide +kernel
theorem qcl_18 : okL cL_law 8 false 288 cl_18 = true := by decide +kernel
theorem qcl_19 : okL cL_law 8 false 304 cl_19 = true := by decide +kernel
theorem qcl_20 : okL cL_law 8 false 320 cl_20 = true := by decide +kernel
theorem qcl_21 : okL cL_law 8 false 336 cl_21 = true := by decide +kernel
theorem qcl_22 : okL cL_law 8 false 352 cl_22 = true := by decide +kernel
theorem qcl_23 : okL cL_law 8 false 368 cl_23 = true := by decide +kernel
theorem qcl_24 : okL cL_law 8 false 384 cl_24 = true := by decide +kernel
theorem qcl_25 : okL cL_law 8 false 400 cl_25 = true := by decide +kernel
theorem qcl_26 : okL cL_law 8 false 416 cl_26 = true := by decide +kernel
theorem qcl_27 : okL cL_law 8 false 432 cl_27 = true := by decide +kernel
theorem qcl_28 : okL cL_law 8 false 448 cl_28 = true := by decide +kernel
theorem qcl_29 : okL cL_law 8 false 464 cl_29 = true := by decide +kernel
theorem qcl_30 : okL cL_law 8 false 480 cl_30 = true := by decide +kernel
theorem qcl_31 : okL cL_law 8 false 496 cl_31 = true := by decide +kernel
theorem qcl_32 : okL cL_law 8 false 512 cl_32 = true := by decide +kernel
theorem qcl_33 : okL cL_law 8 false 528 cl_33 = true := by decide +kernel
theorem qcl_34 : okL cL_law 8 false 544 cl_34 = true := by decide +kernel
theorem qcl_35 : okL cL_law 8 false 560 cl_35 = true := by decide +kernel
theorem qcl_36 : okL cL_law 8 false 576 cl_36 = true := by decide +kernel
theorem qcl_37 : okL cL_law 8 false 592 cl_37 = true := by decide +kernel
theorem qcl_38 : okL cL_law 8 false 608 cl_38 = true := by decide +kernel
theorem qcl_39 : okL cL_law 8 false 624 cl_39 = true := by decide +kernel
theorem qcl_40 : okL cL_law 8 false 640 cl_40 = true := by decide +kernel
theorem qcl_41 : okL cL_law 8 false 656 cl_41 = true := by decide +kernel
theorem qcl_42 : okL cL_law 8 false 672 cl_42 = true := by decide +kernel
theorem qcl_43 : okL cL_law 8 false 688 cl_43 = true := by decide +kernel
theorem qcl_44 : okL cL_law 8 false 704 cl_44 = true := by decide +kernel
theorem qcl_45 : okL cL_law 8 false 720 cl_45 = true := by decide +kernel
theorem qcl_46 : okL cL_law 8 false 736 cl_46 = true := by decide +kernel
theorem qcl_47 : okL cL_law 8 false 752 cl_47 = true := by decide +kernel
theorem qcl_48 : okL cL_law 8 false 768 cl_48 = true := by decide +kernel
theorem qcl_49 : okL cL_law 8 false 784 cl_49 = true := by decide +kernel
theorem qcl_50 : okL cL_law 8 false 800 cl_50 = true := by decide +kernel
theorem qcl_51 : okL cL_law 8 false 816 cl_51 = true := by decide +kernel
theorem qcl_52 : okL cL_law 8 false 832 cl_52 = true := by decide +kernel
theorem qcl_53 : okL cL_law 8 false 848 cl_53 = true := by decide +kernel
theorem qcl_54 : okL cL_law 8 false 864 cl_54 = true := by decide +kernel
theorem qcl_55 : okL cL_law 8 false 880 cl_55 = true := by decide +kernel
theorem qcl_56 : okL cL_law 8 false 896 cl_56 = true := by decide +kernel
theorem qcl_57 : okL cL_law 8 false 912 cl_57 = true := by decide +kernel
theorem qcl_58 : okL cL_law 8 false 928 cl_58 = true := by decide +kernel
theorem qcl_59 : okL cL_law 8 false 944 cl_59 = true := by decide +kernel
theorem qcl_60 : okL cL_law 8 false 960 cl_60 = true := by decide +kernel
theorem qcl_61 : okL cL_law 8 false 976 cl_61 = true := by decide +kernel
theorem qcl_62 : okL cL_law 8 false 992 cl_62 = true := by decide +kernel
theorem qcl_63 : okL cL_law 8 false 1008 cl_63 = true := by decide +kernel
theorem qcl_64 : okL cL_law 8 false 1024 cl_64 = true := by decide +kernel
theorem qcl_65 : okL cL_law 8 false 1040 cl_65 = true := by decide +kernel
theorem qcl_66 : okL cL_law 8 false 1056 cl_66 = true := by decide +kernel
theorem qcl_67 : okL cL_law 8 false 1072 cl_67 = true := by decide +kernel
theorem qcl_68 : okL cL_law 8 false 1088 cl_68 = true := by decide +kernel
theorem qcl_69 : okL cL_law 8 false 1104 cl_69 = true := by decide +kernel
theorem qcl_70 : okL cL_law 8 false 1120 cl_70 = true := by decide +kernel
theorem qcl_71 : okL cL_law 8 false 1136 cl_71 = true := by decide +kernel
theorem qcl_72 : okL cL_law 8 false 1152 cl_72 = true := by decide +kernel
theorem qcl_73 : okL cL_law 8 false 1168 cl_73 = true := by decide +kernel
theorem qcl_74 : okL cL_law 8 false 1184 cl_74 = true := by decide +kernel
theorem qcl_75 : okL cL_law 8 false 1200 cl_75 = true := by decide +kernel
theorem qcl_76 : okL cL_law 8 false 1216 cl_76 = true := by decide +kernel
theorem qcl_77 : okL cL_law 8 false 1232 cl_77 = true := by decide +kernel
theorem qcl_78 : okL cL_law 8 false 1248 cl_78 = true := by decide +kernel
theorem qcl_79 : okL cL_law 8 false 1264 cl_79 = true := by decide +kernel
theorem qcl_80 : okL cL_law 8 false 1280 cl_80 = true := by decide +kernel
theorem qcl_81 : okL cL_law 8 false 1296 cl_81 = true := by decide +kernel
theorem qcl_82 : okL cL_law 8 false 1312 cl_82 = true := by decide +kernel
theorem qcl_83 : okL cL_law 8 false 1328 cl_83 = true := by decide +kernel
theorem qcl_84 : okL cL_law 8 false 1344 cl_84 = true := by decide +kernel
theorem qcl_85 : okL cL_law 8 false 1360 cl_85 = true := by decide +kernel
theorem qcl_86 : okL cL_law 8 false 1376 cl_86 = true := by decide +kernel
theorem qcl_87 : okL cL_law 8 false 1392 cl_87 = true := by decide +kernel
theorem qcl_88 : okL cL_law 8 false 1408 cl_88 = true := by decide +kernel
theorem qcl_89 : okL cL_law 8 false 1424 cl_89 = true := by decide +kernel
theorem qcl_90 : okL cL_law 8 false 1440 cl_90 = true := by decide +kernel
theorem qcl_91 : okL cL_law 8 false 1456 cl_91 = true := by decide +kernel
theorem qcl_92 : okL cL_law 8 false 1472 cl_92 = true := by decide +kernel
theorem qcl_93 : okL cL_law 8 false 1488 cl_93 = true := by decide +kernel
theorem qcl_94 : okL cL_law 8 false 1504 cl_94 = true := by decide +kernel
theorem qcl_95 : okL cL_law 8 false 1520 cl_95 = true := by decide +kernel
theorem qcl_96 : okL cL_law 8 false 1536 cl_96 = true := by decide +kernel
theorem qcl_97 : okL cL_law 8 false 1552 cl_97 = true := by decide +kernel
theorem qcl_98 : okL cL_law 8 false 1568 cl_98 = true := by decide +kernel
theorem qcl_99 : okL cL_law 8 false 1584 cl_99 = true := by decide +kernel
theorem qcl_100 : okL cL_law 8 false 1600 cl_100 = true := by decide +kernel
theorem qcl_101 : okL cL_law 8 false 1616 cl_101 = true := by decide +kernel
theorem qcl_102 : okL cL_law 8 false 1632 cl_102 = true := by decide +kernel
theorem qcl_103 : okL cL_law 8 false 1648 cl_103 = true := by decide +kernel
set_option maxRecDepth 100000 in
theorem qL_law : okC cL_law 8 false 0 kL_law.1 = true := by
  show okC cL_law 8 false 0 [cl_0, cl_1, cl_2, cl_3, cl_4, cl_5, cl_6, cl_7, cl_8, cl_9, cl_10, cl_11, cl_12, cl_13, cl_14, cl_15, cl_16, cl_17, cl_18, cl_19, cl_20, cl_21, cl_22, cl_23, cl_24, cl_25, cl_26, cl_27, cl_28, cl_29, cl_30, cl_31, cl_32, cl_33, cl_34, cl_35, cl_36, cl_37, cl_38, cl_39, cl_40, cl_41, cl_42, cl_43, cl_44, cl_45, cl_46, cl_47, cl_48, cl_49, cl_50, cl_51, cl_52, cl_53, cl_54, cl_55, cl_56, cl_57, cl_58, cl_59, cl_60, cl_61, cl_62, cl_63, cl_64, cl_65, cl_66, cl_67, cl_68, cl_69, cl_70, cl_71, cl_72, cl_73, cl_74, cl_75, cl_76, cl_77, cl_78, cl_79, cl_80, cl_81, cl_82, cl_83, cl_84, cl_85, cl_86, cl_87, cl_88, cl_89, cl_90, cl_91, cl_92, cl_93, cl_94, cl_95, cl_96, cl_97, cl_98, cl_99, cl_100, cl_101, cl_102, cl_103] = true
  simp only [okC, Nat.reduceAdd, Nat.zero_add, qcl_0, qcl_1, qcl_2, qcl_3, qcl_4, qcl_5, qcl_6, qcl_7, qcl_8, qcl_9, qcl_10, qcl_11, qcl_12, qcl_13, qcl_14, qcl_15, qcl_16, qcl_17, qcl_18, qcl_19, qcl_20, qcl_21, qcl_22, qcl_23, qcl_24, qcl_25, qcl_26, qcl_27, qcl_28, qcl_29, qcl_30, qcl_31, qcl_32, qcl_33, qcl_34, qcl_35, qcl_36, qcl_37, qcl_38, qcl_39, qcl_40, qcl_41, qcl_42, qcl_43, qcl_44, qcl_45, qcl_46, qcl_47, qcl_48, qcl_49, qcl_50, qcl_51, qcl_52, qcl_53, qcl_54, qcl_55, qcl_56, qcl_57, qcl_58, qcl_59, qcl_60, qcl_61, qcl_62, qcl_63, qcl_64, qcl_65, qcl_66, qcl_67, qcl_68, qcl_69, qcl_70, qcl_71, qcl_72, qcl_73, qcl_74, qcl_75, qcl_76, qcl_77, qcl_78, qcl_79, qcl_80, qcl_81, qcl_82, qcl_83, qcl_84, qcl_85, qcl_86, qcl_87, qcl_88, qcl_89, qcl_90, qcl_91, qcl_92, qcl_93, qcl_94, qcl_95, qcl_96, qcl_97, qcl_98, qcl_99, qcl_100, qcl_101, qcl_102, qcl_103, Bool.true_and]
  decide +kernel
end
section
/-! THE LAW'S ENTRY: what the Statement gives, as the small machine wants it -/
def nW : List Cond := flatC (Jvm.Cond.and given_1 narrow_1)
def tmS (i : Nat) : Term := .string "LinenSigns$Tape" (sT.getD i (0, [])).1
def lnS : List Nat := sT.map (fun q => q.2.length)
def byS : List (List Int32) := sT.map (fun q => q.2)
def stk (i : Nat) : Bool := decide (Cond.exactly (tmS i) "java/lang/String" ∈ nW) && decide (Cond.eq (.field (tmS i) "java/lang/String" "coder" "B") (.int 0) ∈ nW) && decide (Cond.arrayOf (.field (tmS i) "java/lang/String" "value" "[B") .byte ∈ nW) && decide (Cond.eq (.length (.field (tmS i) "java/lang/String" "value" "[B")) (.int (Int32.ofNat (lnS.getD i 0))) ∈ nW) && (List.range (lnS.getD i 0)).all (fun j => decide (Cond.eq (.elem (.field (tmS i) "java/lang/String" "value" "[B") (.int (Int32.ofNat j))) (.int ((byS.getD i []).getD j 0)) ∈ nW)) && (List.range 11).all (fun j => decide (i = j) || (decide (Cond.not (Cond.eq (tmS i) (tmS j)) ∈ nW) || decide (Cond.not (Cond.eq (tmS j) (tmS i)) ∈ nW))) && decide (lnS.getD i 0 < 100) && decide (Cond.stringRef "LinenSigns$Tape" (sT.getD i (0, [])).1 (sX.getD i "") ∈ lw_tbl)
theorem stk_ok : (List.range 11).all stk = true := by decide +kernel
def unk : Bool := decide (Cond.arrayOf (.static "LinenSigns" "UNDER" "[I") .int ∈ nW) && decide (Cond.eq (.length (.static "LinenSigns" "UNDER" "[I")) (.int (Int32.ofNat 6)) ∈ nW) && (List.range 6).all (fun j => decide (Cond.eq (.elem (.static "LinenSigns" "UNDER" "[I") (.int (Int32.ofNat j))) (.int (([-1, 0, 0, 0, 1, 2] : List Int32).getD j 0)) ∈ nW)) && decide (Cond.eq (.static "java/lang/String" "COMPACT_STRINGS" "Z") (.int 1) ∈ nW) && decide (Cond.isRef (.static "jdk/internal/util/Preconditions" "SIOOBE_FORMATTER" "Ljava/util/function/BiFunction;") ∈ nW)
theorem unk_ok : unk = true := by decide +kernel
theorem stw : (Cond.laysStatic "LinenSigns" "UNDER" "[I" ∈ lw_tbl ∧ Cond.initialized "LinenSigns" ∈ lw_tbl) ∧ (Cond.laysStatic "java/lang/String" "COMPACT_STRINGS" "Z" ∈ lw_tbl ∧ Cond.initialized "java/lang/String" ∈ lw_tbl) ∧ (Cond.laysStatic "jdk/internal/util/Preconditions" "SIOOBE_FORMATTER" "Ljava/util/function/BiFunction;" ∈ lw_tbl ∧ Cond.initialized "jdk/internal/util/Preconditions" ∈ lw_tbl) ∧ Cond.arrayOver (.object RX1) ∈ lw_tbl ∧ Cond.arrayOver (.object RX2) ∈ lw_tbl := by decide +kernel
def nsk (q : Nat × Nat × Nat × Nat × Nat) : Bool := decide (q.2.2.2.1 < 3) || decide (lw_tbl[q.2.2.2.2]? = some (.methodLinkNest (oN q.1) q.2.1 (mN q.2.2.1).1 RX6))
theorem nsk_ok : mL.all nsk = true := by decide +kernel
theorem Ex_start {s : State} {b L : Nat} {xs : Nat → Int32} (hts : ∀ w ∈ lw_tbl, w.before #[Value.ref b] s = true) (hX : va_X b L xs s s.heap) (hbl : b < s.heap.size) (hgv : (Jvm.Cond.and given_1 narrow_1).before #[Value.ref b] s = true) : ∃ E : Nat → Value, E 2 = .ref b ∧ Ex s.heap.size E (L, xs) s s.heap := by
  have hs : ∀ c ∈ nW, c.before #[Value.ref b] s = true := flat_of_before _ hgv
  have hA : ∀ a : Nat, a < s.heap.size → ¬ (fun q => s.heap.size ≤ q) a := fun a h => Nat.not_le.mpr h
  have hu := unk_ok
  simp only [unk, Bool.and_eq_true, decide_eq_true_eq, List.all_eq_true, List.mem_range] at hu
  obtain ⟨⟨⟨⟨u1, u2⟩, u3⟩, u4⟩, u5⟩ := hu
  obtain ⟨t, ht, hT⟩ := va_Tof (f := fun j => .int (([-1, 0, 0, 0, 1, 2] : List Int32).getD j 0)) (N := 6) (by decide) (hs _ u1) (va_eqt (hs _ u2)) (fun j hj => va_eqt (hs _ (u3 j hj))) hA
  have hZ := va_Zref (hts _ stw.1.1) (hts _ stw.1.2) ht hA
  have hc := va_Zof (hts _ stw.2.1.1) (hts _ stw.2.1.2) (va_eqt (hs _ u4)) hA
  have hq := va_Zqof (hts _ stw.2.2.1.1) (hts _ stw.2.2.1.2) (hs _ u5) hA
  have hst : ∀ i, i < 11 → stk i = true := fun i hi => List.all_eq_true.mp stk_ok i (List.mem_range.mpr hi)
  simp only [stk, Bool.and_eq_true, Bool.or_eq_true, decide_eq_true_eq, List.all_eq_true, List.mem_range] at hst
  obtain ⟨adK, adV, hS, hev⟩ := vk_Sof (N := 11) (tm := tmS) (len := lnS) (byt := byS) (A := fun q => s.heap.size ≤ q) (args := #[Value.ref b]) (s := s)
    (fun i hi => Nat.lt_trans (hst i hi).1.2 (by decide)) (fun i hi => hs _ (hst i hi).1.1.1.1.1.1.1) (fun i hi => hs _ (hst i hi).1.1.1.1.1.1.2) (fun i hi => hs _ (hst i hi).1.1.1.1.1.2) (fun i hi => hs _ (hst i hi).1.1.1.1.2) (fun i hi j hj => hs _ ((hst i hi).1.1.1.2 j hj))
    (fun i j hi hj hij => by
      rcases (hst i hi).1.1.2 j hj with h | h | h
      · exact absurd h hij
      · exact Or.inl (hs _ h)
      · exact Or.inr (hs _ h)) hA
  obtain ⟨fm, hfm, hfm2⟩ : ∃ fm : Value, va_Z "jdk/internal/util/Preconditions" "SIOOBE_FORMATTER" "Ljava/util/function/BiFunction;" fm (fun q => s.heap.size ≤ q) s s.heap ∧ (fm = .null ∨ ∃ t, fm = .ref t) := by
    rcases hq with h | ⟨t, h⟩
    · exact ⟨_, h, Or.inl rfl⟩
    · exact ⟨_, h, Or.inr ⟨t, rfl⟩⟩
  refine ⟨fun k => if k = 0 then .ref t else if k = 1 then fm else if k = 2 then .ref b else if 30 ≤ k then .ref (adV (k - 30)) else if 10 ≤ k then .ref (adK (k - 10)) else .null, rfl, ⟨t, rfl, hZ, hT⟩, hc, hfm, ⟨b, rfl, hbl, hX⟩, ⟨adK, adV, fun i hi => ⟨?_, ?_, ?_⟩, hS⟩, fun q hq h3 => ?_, va_AO.of (hts _ stw.2.2.2.1), va_AO.of (hts _ stw.2.2.2.2), fun k => ?_⟩
  · have h1 : ¬ 10 + i = 0 := by omega
    have h2 : ¬ 10 + i = 1 := by omega
    have h3 : ¬ 10 + i = 2 := by omega
    have h4 : ¬ 30 ≤ 10 + i := by omega
    simp only [h1, h2, h3, h4, if_false, Nat.le_add_right, if_true, Nat.add_sub_cancel_left]
  · have h1 : ¬ 30 + i = 0 := by omega
    have h2 : ¬ 30 + i = 1 := by omega
    have h3 : ¬ 30 + i = 2 := by omega
    simp only [h1, h2, h3, if_false, Nat.le_add_right, if_true, Nat.add_sub_cancel_left]
  · refine vk_R.of (A := #[Value.ref b]) (hts _ (hst i hi).2) ?_
    exact hev i hi
  · have h1 := List.all_eq_true.mp nsk_ok q hq
    unfold nsk at h1
    rw [Bool.or_eq_true, decide_eq_true_eq, decide_eq_true_eq] at h1
    rcases h1 with h1 | h1
    · omega
    · exact va_Nw.of rfl (hts _ (List.mem_of_getElem? h1))
  · dsimp only
    split
    · exact Or.inr ⟨_, rfl⟩
    · split
      · exact hfm2
      · split
        · exact Or.inr ⟨_, rfl⟩
        · split
          · exact Or.inr ⟨_, rfl⟩
          · split
            · exact Or.inr ⟨_, rfl⟩
            · exact Or.inl rfl
theorem K_start {s : State} {args : Array Value} (hts : ∀ w ∈ lw_tbl, w.before args s = true) : ∃ (D : va_G) (kA : Nat → ClassId), va_K D vwCl (tyl kA) s := by
  have hg : ∀ w ∈ gT, w.before args s = true := fun w h => hts w (gT_good w h).1
  have hk : ∀ i, ∃ q : ClassId × (Nat → Nat), i < 8 → u_Kn s (oN i) (tF i) (nF i) q.1 q.2 := by
    intro i
    by_cases hi : i < 8
    · obtain ⟨w1, w2, w3, w4⟩ := cls_ws hi
      obtain ⟨c, iS, h⟩ := u_known hg w1 (hg _ w2)
      exact ⟨(c, iS), fun _ => h⟩
    · exact ⟨(0, fun _ => 0), fun h => absurd h hi⟩
  obtain ⟨f, hf⟩ := Classical.axiomOfChoice hk
  obtain ⟨c0, k0, m0, a1, a2, a3⟩ := Cond.arrayClass_spec (hts _ arrw.1)
  obtain ⟨c1, k1, m1, b1, b2, b3⟩ := Cond.arrayClass_spec (hts _ arrw.2)
  obtain ⟨e1, c2, k2, d1, d2, d3, d4, d5⟩ := Cond.arrayOver_spec (hts _ stw.2.2.2.1)
  obtain ⟨e2, c3, k3, g1, g2, g3, g4, g5⟩ := Cond.arrayOver_spec (hts _ stw.2.2.2.2)
  refine ⟨(fun i => (f i).1, fun i => (f i).2), fun i => if i = 0 then c0 else if i = 1 then c1 else if i = 2 then c2 else c3, fun i q hq => ?_, fun k q hq => ?_⟩
  · have hi : i < 8 := (List.getElem?_eq_some_iff.mp hq).1
    rw [cls_at i hi] at hq
    cases hq
    exact hf i hi
  · match k, hq with
    | 0, hq => cases hq; exact ⟨fun n z => ⟨fun k h => (by cases h), k0, a2, m0, a3⟩, a1⟩
    | 1, hq => cases hq; exact ⟨fun n z => ⟨fun k h => (by cases h), k1, b2, m1, b3⟩, b1⟩
    | 2, hq => cases hq; exact ⟨fun n z => ⟨fun k h => (by cases h), k2, d3, e1, d4⟩, k2, e1, d3, d4, d1, d5⟩
    | 3, hq => cases hq; exact ⟨fun n z => ⟨fun k h => (by cases h), k3, g3, e2, g4⟩, k3, e2, g3, g4, g1, g5⟩
    | k + 4, hq => cases hq
set_option maxHeartbeats 4000000 in
theorem start_of (qlaw : okC cL_law 8 false 0 kL_law.1 = true) {p : Program} {e : Env} {s : State} {m : MethodId} {below : List Frame} {meth : Method} {c : Code} (l : Launch) {b L : Nat} {xs : Nat → Int32} (hall : Sp (L, xs) 40 kL_law [.retAddr 2] [] (fun v h' => v = some (.int 1) ∧ h'.length ≤ 600000 ∧ sz h' ≤ 7302250)) (hx : p.tables.exec = Jvm.exec) (hb : c.code = code) (hr : meth.sig.returnType = ret) (hml : c.maxLocals = 4) (hown : s.vm.findClass RL = some m.cls) (hts : ∀ w ∈ lw_tbl, w.before #[Value.ref b] s = true) (hX : va_X b L xs s s.heap) (hbl : b < s.heap.size) (hlocks : meth.locks = false) (hgv : (Jvm.Cond.and given_1 narrow_1).before #[Value.ref b] s = true) (Q : State → Prop)
    (hQ : ∀ (pc : Nat) (H : Heap) (ls : Array Slot), decode code pc = .ok (.ireturn, 1) → W p l e room_1 s m #[Value.ref b] below meth c H [] 600000 7302250 Q (F0 m pc ls [.int 1])) : W p l e room_1 s m #[Value.ref b] below meth c s.heap [] 0 0 Q (entryFrame m ([Value.ref b] : List Value).toArray 4) := by
  obtain ⟨D, kA, hK⟩ := K_start hts
  obtain ⟨E, hE2, hEx⟩ := Ex_start hts hX hbl hgv
  obtain ⟨n, v, h', hrun, hv, hlen, hsz⟩ := hall
  have hE : ∀ k, E k = .null ∨ ∃ t, E k = .ref t := hEx.2.2.2.2.2.2.2.2
  have hl0 := lv_entry ([.ref b]) (n := 4) (Nat.le_of_ble_eq_true rfl)
  rw [lg_entry_eq]
  generalize (lg_sl ([.ref b]) ++ List.replicate (4 - (lg_sl ([.ref b])).length) Slot.unset).toArray = ls at hl0 ⊢
  have hmap : ([.retAddr 2] : List Value).map (cv s.heap.size E) = [.ref b] := by simp [cv, hE2]
  have hL : Lo s.heap.size E kL_law.2.1 ls (eL kL_law [.retAddr 2]) := Lo.entry hE (Nat.le_of_ble_eq_true rfl) (by rw [hmap]; exact hl0)
  have hR : Rl s.heap.size D kA E s s.heap [] [] := ⟨fun k q h => (by simp [wl] at h), va_S.rf⟩
  refine snd_all allC n 40 kL_law 0 (eL kL_law [.retAddr 2]) [] [] v h' hrun s.heap.size D kA E p l e room_1 s m _ below meth c code false s.heap [] 0 0 (h'.length - 0) (sz h' - 0) Q ls ⟨hx, hb, hml, hown, fun w hw => hts w (gT_good w hw).1, qlaw, fun q => (by cases q), hK, hEx, Nat.le_refl _⟩ hL hR (by simp) (by simp) (by simp [sz]) (by show h'.length - 0 ≤ 600000; omega) (by show sz h' - 0 ≤ 7302250; omega) (Nat.le_of_ble_eq_true rfl) (Nat.le_of_ble_eq_true rfl) ?_
  intro pc i ls' H' locs' hd hi hro hR'
  subst hv
  rcases hi with ⟨rfl, x, hx1⟩ | ⟨rfl, x, hx1⟩ | ⟨rfl, hx1⟩ | ⟨rfl, hx1⟩
  · refine va_forget (fun q hq => hR'.2.2.2 q hq) ?_
    exact W.widen (by omega) (by omega) (hQ pc H' ls' hd)
  · cases hx1
  · rcases hx1 with ⟨x, hx1⟩ | ⟨x, hx1⟩ <;> cases hx1
  · cases hx1
end
