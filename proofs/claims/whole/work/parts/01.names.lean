-- ===== PART A: goes FIRST, ahead of the names: the tables' words, and 'selects' of the private methods out of them =====
/-- a private method of a class that the tables say can be made, by its rows of tables_1 -/
def lw_okq (q : MethodName × Nat) : Prop := (q.1.cls ≠ "java/lang/invoke/MethodHandle" ∧ q.1.cls ≠ "java/lang/invoke/VarHandle") ∧ Cond.instantiable q.1.cls q.2 ∈ tables_1 ∧ Cond.privateMethod q.1 ∈ tables_1 ∧ Cond.instanceMethod q.1 ∈ tables_1
theorem lw_p0 : lw_okq (⟨"LinenSigns", "finding", "(I)I"⟩, 9) := ⟨⟨by decide +kernel, by decide +kernel⟩, List.mem_of_getElem? (i := 19) (by decide +kernel), List.mem_of_getElem? (i := 261) (by decide +kernel), List.mem_of_getElem? (i := 262) (by decide +kernel)⟩
theorem lw_p1 : lw_okq (⟨"LinenSigns$Row", "put", "(IIII)V"⟩, 4) := ⟨⟨by decide +kernel, by decide +kernel⟩, List.mem_of_getElem? (i := 34) (by decide +kernel), List.mem_of_getElem? (i := 270) (by decide +kernel), List.mem_of_getElem? (i := 271) (by decide +kernel)⟩
theorem lw_p2 : lw_okq (⟨"LinenSigns", "isGarment", "(II)Z"⟩, 9) := ⟨⟨by decide +kernel, by decide +kernel⟩, List.mem_of_getElem? (i := 19) (by decide +kernel), List.mem_of_getElem? (i := 278) (by decide +kernel), List.mem_of_getElem? (i := 279) (by decide +kernel)⟩
theorem lw_p3 : lw_okq (⟨"LinenSigns", "worthBehind", "(LLinenSigns$Row;I)I"⟩, 9) := ⟨⟨by decide +kernel, by decide +kernel⟩, List.mem_of_getElem? (i := 19) (by decide +kernel), List.mem_of_getElem? (i := 297) (by decide +kernel), List.mem_of_getElem? (i := 298) (by decide +kernel)⟩
theorem lw_p4 : lw_okq (⟨"LinenSigns", "worthOf", "(LLinenSigns$Row;I)I"⟩, 9) := ⟨⟨by decide +kernel, by decide +kernel⟩, List.mem_of_getElem? (i := 19) (by decide +kernel), List.mem_of_getElem? (i := 443) (by decide +kernel), List.mem_of_getElem? (i := 444) (by decide +kernel)⟩
theorem lw_p5 : lw_okq (⟨"LinenSigns", "readNow", "(LLinenSigns$Row;)I"⟩, 9) := ⟨⟨by decide +kernel, by decide +kernel⟩, List.mem_of_getElem? (i := 19) (by decide +kernel), List.mem_of_getElem? (i := 455) (by decide +kernel), List.mem_of_getElem? (i := 456) (by decide +kernel)⟩
theorem lw_p6 : lw_okq (⟨"LinenSigns", "windsReadAs", "(LLinenSigns$Row;I)I"⟩, 9) := ⟨⟨by decide +kernel, by decide +kernel⟩, List.mem_of_getElem? (i := 19) (by decide +kernel), List.mem_of_getElem? (i := 463) (by decide +kernel), List.mem_of_getElem? (i := 464) (by decide +kernel)⟩
theorem lw_p7 : lw_okq (⟨"LinenSigns", "readWithout", "(LLinenSigns$Row;I)I"⟩, 9) := ⟨⟨by decide +kernel, by decide +kernel⟩, List.mem_of_getElem? (i := 19) (by decide +kernel), List.mem_of_getElem? (i := 471) (by decide +kernel), List.mem_of_getElem? (i := 472) (by decide +kernel)⟩
theorem lw_p8 : lw_okq (⟨"LinenSigns", "fewestOff", "(LLinenSigns$Row;I)I"⟩, 9) := ⟨⟨by decide +kernel, by decide +kernel⟩, List.mem_of_getElem? (i := 19) (by decide +kernel), List.mem_of_getElem? (i := 479) (by decide +kernel), List.mem_of_getElem? (i := 480) (by decide +kernel)⟩
theorem lw_p9 : lw_okq (⟨"LinenSigns", "readWithOneMore", "(LLinenSigns$Row;I)I"⟩, 9) := ⟨⟨by decide +kernel, by decide +kernel⟩, List.mem_of_getElem? (i := 19) (by decide +kernel), List.mem_of_getElem? (i := 502) (by decide +kernel), List.mem_of_getElem? (i := 503) (by decide +kernel)⟩
theorem lw_p10 : lw_okq (⟨"LinenSigns$Orders", "findTwins", "()V"⟩, 16) := ⟨⟨by decide +kernel, by decide +kernel⟩, List.mem_of_getElem? (i := 108) (by decide +kernel), List.mem_of_getElem? (i := 519) (by decide +kernel), List.mem_of_getElem? (i := 520) (by decide +kernel)⟩
theorem lw_p11 : lw_okq (⟨"LinenSigns$Orders", "saying", "(I)I"⟩, 16) := ⟨⟨by decide +kernel, by decide +kernel⟩, List.mem_of_getElem? (i := 108) (by decide +kernel), List.mem_of_getElem? (i := 523) (by decide +kernel), List.mem_of_getElem? (i := 524) (by decide +kernel)⟩
theorem lw_p12 : lw_okq (⟨"LinenSigns$Orders", "hangNext", "(III)V"⟩, 16) := ⟨⟨by decide +kernel, by decide +kernel⟩, List.mem_of_getElem? (i := 108) (by decide +kernel), List.mem_of_getElem? (i := 528) (by decide +kernel), List.mem_of_getElem? (i := 529) (by decide +kernel)⟩
theorem lw_p13 : lw_okq (⟨"LinenSigns$Orders", "arrive", "(I)V"⟩, 16) := ⟨⟨by decide +kernel, by decide +kernel⟩, List.mem_of_getElem? (i := 108) (by decide +kernel), List.mem_of_getElem? (i := 532) (by decide +kernel), List.mem_of_getElem? (i := 533) (by decide +kernel)⟩
theorem lw_p14 : lw_okq (⟨"LinenSigns$Orders", "mayHang", "(I)Z"⟩, 16) := ⟨⟨by decide +kernel, by decide +kernel⟩, List.mem_of_getElem? (i := 108) (by decide +kernel), List.mem_of_getElem? (i := 544) (by decide +kernel), List.mem_of_getElem? (i := 545) (by decide +kernel)⟩
theorem lw_p15 : lw_okq (⟨"LinenSigns$Orders", "isHanging", "(I)Z"⟩, 16) := ⟨⟨by decide +kernel, by decide +kernel⟩, List.mem_of_getElem? (i := 108) (by decide +kernel), List.mem_of_getElem? (i := 548) (by decide +kernel), List.mem_of_getElem? (i := 549) (by decide +kernel)⟩
def lw_privs_1 : List (MethodName × Nat) := [(⟨"LinenSigns", "finding", "(I)I"⟩, 9), (⟨"LinenSigns$Row", "put", "(IIII)V"⟩, 4), (⟨"LinenSigns", "isGarment", "(II)Z"⟩, 9), (⟨"LinenSigns", "worthBehind", "(LLinenSigns$Row;I)I"⟩, 9), (⟨"LinenSigns", "worthOf", "(LLinenSigns$Row;I)I"⟩, 9), (⟨"LinenSigns", "readNow", "(LLinenSigns$Row;)I"⟩, 9), (⟨"LinenSigns", "windsReadAs", "(LLinenSigns$Row;I)I"⟩, 9), (⟨"LinenSigns", "readWithout", "(LLinenSigns$Row;I)I"⟩, 9), (⟨"LinenSigns", "fewestOff", "(LLinenSigns$Row;I)I"⟩, 9), (⟨"LinenSigns", "readWithOneMore", "(LLinenSigns$Row;I)I"⟩, 9), (⟨"LinenSigns$Orders", "findTwins", "()V"⟩, 16), (⟨"LinenSigns$Orders", "saying", "(I)I"⟩, 16), (⟨"LinenSigns$Orders", "hangNext", "(III)V"⟩, 16), (⟨"LinenSigns$Orders", "arrive", "(I)V"⟩, 16), (⟨"LinenSigns$Orders", "mayHang", "(I)Z"⟩, 16), (⟨"LinenSigns$Orders", "isHanging", "(I)Z"⟩, 16)]
theorem lw_r1 : ∀ q ∈ lw_privs_1, lw_okq q := List.forall_mem_cons.mpr ⟨lw_p0, List.forall_mem_cons.mpr ⟨lw_p1, List.forall_mem_cons.mpr ⟨lw_p2, List.forall_mem_cons.mpr ⟨lw_p3, List.forall_mem_cons.mpr ⟨lw_p4, List.forall_mem_cons.mpr ⟨lw_p5, List.forall_mem_cons.mpr ⟨lw_p6, List.forall_mem_cons.mpr ⟨lw_p7, List.forall_mem_cons.mpr ⟨lw_p8, List.forall_mem_cons.mpr ⟨lw_p9, List.forall_mem_cons.mpr ⟨lw_p10, List.forall_mem_cons.mpr ⟨lw_p11, List.forall_mem_cons.mpr ⟨lw_p12, List.forall_mem_cons.mpr ⟨lw_p13, List.forall_mem_cons.mpr ⟨lw_p14, List.forall_mem_cons.mpr ⟨lw_p15, fun _ h => absurd h List.not_mem_nil⟩⟩⟩⟩⟩⟩⟩⟩⟩⟩⟩⟩⟩⟩⟩⟩
theorem lw_p16 : lw_okq (⟨"LinenSigns$Orders", "sayThenHangNext", "(IIII)V"⟩, 16) := ⟨⟨by decide +kernel, by decide +kernel⟩, List.mem_of_getElem? (i := 108) (by decide +kernel), List.mem_of_getElem? (i := 552) (by decide +kernel), List.mem_of_getElem? (i := 553) (by decide +kernel)⟩
theorem lw_p17 : lw_okq (⟨"LinenSigns$Orders", "meaningBit", "(I)I"⟩, 16) := ⟨⟨by decide +kernel, by decide +kernel⟩, List.mem_of_getElem? (i := 108) (by decide +kernel), List.mem_of_getElem? (i := 598) (by decide +kernel), List.mem_of_getElem? (i := 599) (by decide +kernel)⟩
theorem lw_p18 : lw_okq (⟨"LinenSigns", "worthJoined", "(LLinenSigns$Row;LLinenSigns$Row;I)I"⟩, 9) := ⟨⟨by decide +kernel, by decide +kernel⟩, List.mem_of_getElem? (i := 19) (by decide +kernel), List.mem_of_getElem? (i := 606) (by decide +kernel), List.mem_of_getElem? (i := 607) (by decide +kernel)⟩
theorem lw_p19 : lw_okq (⟨"LinenSigns$Tape", "step", "()V"⟩, 6) := ⟨⟨by decide +kernel, by decide +kernel⟩, List.mem_of_getElem? (i := 170) (by decide +kernel), List.mem_of_getElem? (i := 649) (by decide +kernel), List.mem_of_getElem? (i := 650) (by decide +kernel)⟩
theorem lw_p20 : lw_okq (⟨"LinenSigns$Tape", "isWord", "(Ljava/lang/String;)Z"⟩, 6) := ⟨⟨by decide +kernel, by decide +kernel⟩, List.mem_of_getElem? (i := 170) (by decide +kernel), List.mem_of_getElem? (i := 657) (by decide +kernel), List.mem_of_getElem? (i := 658) (by decide +kernel)⟩
theorem lw_p21 : lw_okq (⟨"LinenSigns$Tape", "lineItem", "(LLinenSigns$Town;)Z"⟩, 6) := ⟨⟨by decide +kernel, by decide +kernel⟩, List.mem_of_getElem? (i := 170) (by decide +kernel), List.mem_of_getElem? (i := 709) (by decide +kernel), List.mem_of_getElem? (i := 710) (by decide +kernel)⟩
theorem lw_p22 : lw_okq (⟨"LinenSigns$Tape", "takeNumber", "(II)Z"⟩, 6) := ⟨⟨by decide +kernel, by decide +kernel⟩, List.mem_of_getElem? (i := 170) (by decide +kernel), List.mem_of_getElem? (i := 713) (by decide +kernel), List.mem_of_getElem? (i := 714) (by decide +kernel)⟩
theorem lw_p23 : lw_okq (⟨"LinenSigns$Tape", "numberHere", "()I"⟩, 6) := ⟨⟨by decide +kernel, by decide +kernel⟩, List.mem_of_getElem? (i := 170) (by decide +kernel), List.mem_of_getElem? (i := 717) (by decide +kernel), List.mem_of_getElem? (i := 718) (by decide +kernel)⟩
theorem lw_p24 : lw_okq (⟨"LinenSigns$Tape", "garment", "(LLinenSigns$Row;)Z"⟩, 6) := ⟨⟨by decide +kernel, by decide +kernel⟩, List.mem_of_getElem? (i := 170) (by decide +kernel), List.mem_of_getElem? (i := 723) (by decide +kernel), List.mem_of_getElem? (i := 724) (by decide +kernel)⟩
theorem lw_p25 : lw_okq (⟨"LinenSigns$Tape", "kindTold", "()I"⟩, 6) := ⟨⟨by decide +kernel, by decide +kernel⟩, List.mem_of_getElem? (i := 170) (by decide +kernel), List.mem_of_getElem? (i := 727) (by decide +kernel), List.mem_of_getElem? (i := 728) (by decide +kernel)⟩
theorem lw_p26 : lw_okq (⟨"LinenSigns$Tape", "windItem", "(LLinenSigns$Town;)Z"⟩, 6) := ⟨⟨by decide +kernel, by decide +kernel⟩, List.mem_of_getElem? (i := 170) (by decide +kernel), List.mem_of_getElem? (i := 743) (by decide +kernel), List.mem_of_getElem? (i := 744) (by decide +kernel)⟩
theorem lw_p27 : lw_okq (⟨"LinenSigns$Tape", "meaningItem", "(LLinenSigns$Town;)Z"⟩, 6) := ⟨⟨by decide +kernel, by decide +kernel⟩, List.mem_of_getElem? (i := 170) (by decide +kernel), List.mem_of_getElem? (i := 748) (by decide +kernel), List.mem_of_getElem? (i := 749) (by decide +kernel)⟩
theorem lw_p28 : lw_okq (⟨"LinenSigns$Tape", "forgetItem", "(LLinenSigns$Town;)Z"⟩, 6) := ⟨⟨by decide +kernel, by decide +kernel⟩, List.mem_of_getElem? (i := 170) (by decide +kernel), List.mem_of_getElem? (i := 753) (by decide +kernel), List.mem_of_getElem? (i := 754) (by decide +kernel)⟩
theorem lw_p29 : lw_okq (⟨"LinenSigns", "sheetFinding", "(I)I"⟩, 9) := ⟨⟨by decide +kernel, by decide +kernel⟩, List.mem_of_getElem? (i := 19) (by decide +kernel), List.mem_of_getElem? (i := 778) (by decide +kernel), List.mem_of_getElem? (i := 779) (by decide +kernel)⟩
theorem lw_p30 : lw_okq (⟨"LinenSigns", "sheetAndLineFinding", "(II)I"⟩, 9) := ⟨⟨by decide +kernel, by decide +kernel⟩, List.mem_of_getElem? (i := 19) (by decide +kernel), List.mem_of_getElem? (i := 800) (by decide +kernel), List.mem_of_getElem? (i := 801) (by decide +kernel)⟩
theorem lw_p31 : lw_okq (⟨"LinenSignsModel", "finds", "(I)I"⟩, 21) := ⟨⟨by decide +kernel, by decide +kernel⟩, List.mem_of_getElem? (i := 837) (by decide +kernel), List.mem_of_getElem? (i := 923) (by decide +kernel), List.mem_of_getElem? (i := 924) (by decide +kernel)⟩
def lw_privs_2 : List (MethodName × Nat) := [(⟨"LinenSigns$Orders", "sayThenHangNext", "(IIII)V"⟩, 16), (⟨"LinenSigns$Orders", "meaningBit", "(I)I"⟩, 16), (⟨"LinenSigns", "worthJoined", "(LLinenSigns$Row;LLinenSigns$Row;I)I"⟩, 9), (⟨"LinenSigns$Tape", "step", "()V"⟩, 6), (⟨"LinenSigns$Tape", "isWord", "(Ljava/lang/String;)Z"⟩, 6), (⟨"LinenSigns$Tape", "lineItem", "(LLinenSigns$Town;)Z"⟩, 6), (⟨"LinenSigns$Tape", "takeNumber", "(II)Z"⟩, 6), (⟨"LinenSigns$Tape", "numberHere", "()I"⟩, 6), (⟨"LinenSigns$Tape", "garment", "(LLinenSigns$Row;)Z"⟩, 6), (⟨"LinenSigns$Tape", "kindTold", "()I"⟩, 6), (⟨"LinenSigns$Tape", "windItem", "(LLinenSigns$Town;)Z"⟩, 6), (⟨"LinenSigns$Tape", "meaningItem", "(LLinenSigns$Town;)Z"⟩, 6), (⟨"LinenSigns$Tape", "forgetItem", "(LLinenSigns$Town;)Z"⟩, 6), (⟨"LinenSigns", "sheetFinding", "(I)I"⟩, 9), (⟨"LinenSigns", "sheetAndLineFinding", "(II)I"⟩, 9), (⟨"LinenSignsModel", "finds", "(I)I"⟩, 21)]
theorem lw_r2 : ∀ q ∈ lw_privs_2, lw_okq q := List.forall_mem_cons.mpr ⟨lw_p16, List.forall_mem_cons.mpr ⟨lw_p17, List.forall_mem_cons.mpr ⟨lw_p18, List.forall_mem_cons.mpr ⟨lw_p19, List.forall_mem_cons.mpr ⟨lw_p20, List.forall_mem_cons.mpr ⟨lw_p21, List.forall_mem_cons.mpr ⟨lw_p22, List.forall_mem_cons.mpr ⟨lw_p23, List.forall_mem_cons.mpr ⟨lw_p24, List.forall_mem_cons.mpr ⟨lw_p25, List.forall_mem_cons.mpr ⟨lw_p26, List.forall_mem_cons.mpr ⟨lw_p27, List.forall_mem_cons.mpr ⟨lw_p28, List.forall_mem_cons.mpr ⟨lw_p29, List.forall_mem_cons.mpr ⟨lw_p30, List.forall_mem_cons.mpr ⟨lw_p31, fun _ h => absurd h List.not_mem_nil⟩⟩⟩⟩⟩⟩⟩⟩⟩⟩⟩⟩⟩⟩⟩⟩
theorem lw_p32 : lw_okq (⟨"LinenSignsModel", "hangs", "(IIII)V"⟩, 21) := ⟨⟨by decide +kernel, by decide +kernel⟩, List.mem_of_getElem? (i := 837) (by decide +kernel), List.mem_of_getElem? (i := 928) (by decide +kernel), List.mem_of_getElem? (i := 929) (by decide +kernel)⟩
theorem lw_p33 : lw_okq (⟨"LinenSignsModel", "isPeg", "(II)Z"⟩, 21) := ⟨⟨by decide +kernel, by decide +kernel⟩, List.mem_of_getElem? (i := 837) (by decide +kernel), List.mem_of_getElem? (i := 939) (by decide +kernel), List.mem_of_getElem? (i := 940) (by decide +kernel)⟩
theorem lw_p34 : lw_okq (⟨"LinenSignsModel", "lays", "(I)V"⟩, 21) := ⟨⟨by decide +kernel, by decide +kernel⟩, List.mem_of_getElem? (i := 837) (by decide +kernel), List.mem_of_getElem? (i := 948) (by decide +kernel), List.mem_of_getElem? (i := 949) (by decide +kernel)⟩
theorem lw_p35 : lw_okq (⟨"LinenSignsModel", "isSeen", "(II)Z"⟩, 21) := ⟨⟨by decide +kernel, by decide +kernel⟩, List.mem_of_getElem? (i := 837) (by decide +kernel), List.mem_of_getElem? (i := 952) (by decide +kernel), List.mem_of_getElem? (i := 953) (by decide +kernel)⟩
theorem lw_p36 : lw_okq (⟨"LinenSignsModel", "worthOfFirst", "(II)I"⟩, 21) := ⟨⟨by decide +kernel, by decide +kernel⟩, List.mem_of_getElem? (i := 837) (by decide +kernel), List.mem_of_getElem? (i := 956) (by decide +kernel), List.mem_of_getElem? (i := 957) (by decide +kernel)⟩
theorem lw_p37 : lw_okq (⟨"LinenSignsModel", "becomesBy", "(III)I"⟩, 21) := ⟨⟨by decide +kernel, by decide +kernel⟩, List.mem_of_getElem? (i := 837) (by decide +kernel), List.mem_of_getElem? (i := 960) (by decide +kernel), List.mem_of_getElem? (i := 961) (by decide +kernel)⟩
theorem lw_p38 : lw_okq (⟨"LinenSignsModel", "becomes", "(II)I"⟩, 21) := ⟨⟨by decide +kernel, by decide +kernel⟩, List.mem_of_getElem? (i := 837) (by decide +kernel), List.mem_of_getElem? (i := 975) (by decide +kernel), List.mem_of_getElem? (i := 976) (by decide +kernel)⟩
theorem lw_p39 : lw_okq (⟨"LinenSignsModel", "hangsAside", "(I)V"⟩, 21) := ⟨⟨by decide +kernel, by decide +kernel⟩, List.mem_of_getElem? (i := 837) (by decide +kernel), List.mem_of_getElem? (i := 1006) (by decide +kernel), List.mem_of_getElem? (i := 1007) (by decide +kernel)⟩
theorem lw_p40 : lw_okq (⟨"LinenSignsModel", "readAs", "(I)I"⟩, 21) := ⟨⟨by decide +kernel, by decide +kernel⟩, List.mem_of_getElem? (i := 837) (by decide +kernel), List.mem_of_getElem? (i := 1044) (by decide +kernel), List.mem_of_getElem? (i := 1045) (by decide +kernel)⟩
theorem lw_p41 : lw_okq (⟨"LinenSignsModel", "orNone", "(I)I"⟩, 21) := ⟨⟨by decide +kernel, by decide +kernel⟩, List.mem_of_getElem? (i := 837) (by decide +kernel), List.mem_of_getElem? (i := 1048) (by decide +kernel), List.mem_of_getElem? (i := 1049) (by decide +kernel)⟩
theorem lw_p42 : lw_okq (⟨"LinenSignsModel", "worthBy", "(II)I"⟩, 21) := ⟨⟨by decide +kernel, by decide +kernel⟩, List.mem_of_getElem? (i := 837) (by decide +kernel), List.mem_of_getElem? (i := 1060) (by decide +kernel), List.mem_of_getElem? (i := 1061) (by decide +kernel)⟩
theorem lw_p43 : lw_okq (⟨"LinenSignsModel", "windsOf", "(II)I"⟩, 21) := ⟨⟨by decide +kernel, by decide +kernel⟩, List.mem_of_getElem? (i := 837) (by decide +kernel), List.mem_of_getElem? (i := 1076) (by decide +kernel), List.mem_of_getElem? (i := 1077) (by decide +kernel)⟩
theorem lw_p44 : lw_okq (⟨"LinenSignsModel", "laysBut", "(II)V"⟩, 21) := ⟨⟨by decide +kernel, by decide +kernel⟩, List.mem_of_getElem? (i := 837) (by decide +kernel), List.mem_of_getElem? (i := 1084) (by decide +kernel), List.mem_of_getElem? (i := 1085) (by decide +kernel)⟩
theorem lw_p45 : lw_okq (⟨"LinenSignsModel", "worthAside", "()I"⟩, 21) := ⟨⟨by decide +kernel, by decide +kernel⟩, List.mem_of_getElem? (i := 837) (by decide +kernel), List.mem_of_getElem? (i := 1088) (by decide +kernel), List.mem_of_getElem? (i := 1089) (by decide +kernel)⟩
theorem lw_p46 : lw_okq (⟨"LinenSignsModel", "fewestSet", "(II)I"⟩, 21) := ⟨⟨by decide +kernel, by decide +kernel⟩, List.mem_of_getElem? (i := 837) (by decide +kernel), List.mem_of_getElem? (i := 1096) (by decide +kernel), List.mem_of_getElem? (i := 1097) (by decide +kernel)⟩
theorem lw_p47 : lw_okq (⟨"LinenSignsModel", "beginsOrders", "(I)V"⟩, 21) := ⟨⟨by decide +kernel, by decide +kernel⟩, List.mem_of_getElem? (i := 837) (by decide +kernel), List.mem_of_getElem? (i := 1115) (by decide +kernel), List.mem_of_getElem? (i := 1116) (by decide +kernel)⟩
def lw_privs_3 : List (MethodName × Nat) := [(⟨"LinenSignsModel", "hangs", "(IIII)V"⟩, 21), (⟨"LinenSignsModel", "isPeg", "(II)Z"⟩, 21), (⟨"LinenSignsModel", "lays", "(I)V"⟩, 21), (⟨"LinenSignsModel", "isSeen", "(II)Z"⟩, 21), (⟨"LinenSignsModel", "worthOfFirst", "(II)I"⟩, 21), (⟨"LinenSignsModel", "becomesBy", "(III)I"⟩, 21), (⟨"LinenSignsModel", "becomes", "(II)I"⟩, 21), (⟨"LinenSignsModel", "hangsAside", "(I)V"⟩, 21), (⟨"LinenSignsModel", "readAs", "(I)I"⟩, 21), (⟨"LinenSignsModel", "orNone", "(I)I"⟩, 21), (⟨"LinenSignsModel", "worthBy", "(II)I"⟩, 21), (⟨"LinenSignsModel", "windsOf", "(II)I"⟩, 21), (⟨"LinenSignsModel", "laysBut", "(II)V"⟩, 21), (⟨"LinenSignsModel", "worthAside", "()I"⟩, 21), (⟨"LinenSignsModel", "fewestSet", "(II)I"⟩, 21), (⟨"LinenSignsModel", "beginsOrders", "(I)V"⟩, 21)]
theorem lw_r3 : ∀ q ∈ lw_privs_3, lw_okq q := List.forall_mem_cons.mpr ⟨lw_p32, List.forall_mem_cons.mpr ⟨lw_p33, List.forall_mem_cons.mpr ⟨lw_p34, List.forall_mem_cons.mpr ⟨lw_p35, List.forall_mem_cons.mpr ⟨lw_p36, List.forall_mem_cons.mpr ⟨lw_p37, List.forall_mem_cons.mpr ⟨lw_p38, List.forall_mem_cons.mpr ⟨lw_p39, List.forall_mem_cons.mpr ⟨lw_p40, List.forall_mem_cons.mpr ⟨lw_p41, List.forall_mem_cons.mpr ⟨lw_p42, List.forall_mem_cons.mpr ⟨lw_p43, List.forall_mem_cons.mpr ⟨lw_p44, List.forall_mem_cons.mpr ⟨lw_p45, List.forall_mem_cons.mpr ⟨lw_p46, List.forall_mem_cons.mpr ⟨lw_p47, fun _ h => absurd h List.not_mem_nil⟩⟩⟩⟩⟩⟩⟩⟩⟩⟩⟩⟩⟩⟩⟩⟩
theorem lw_p48 : lw_okq (⟨"LinenSignsModel", "hasNext", "(I)Z"⟩, 21) := ⟨⟨by decide +kernel, by decide +kernel⟩, List.mem_of_getElem? (i := 837) (by decide +kernel), List.mem_of_getElem? (i := 1119) (by decide +kernel), List.mem_of_getElem? (i := 1120) (by decide +kernel)⟩
theorem lw_p49 : lw_okq (⟨"LinenSignsModel", "swapsOrder", "(II)V"⟩, 21) := ⟨⟨by decide +kernel, by decide +kernel⟩, List.mem_of_getElem? (i := 837) (by decide +kernel), List.mem_of_getElem? (i := 1123) (by decide +kernel), List.mem_of_getElem? (i := 1124) (by decide +kernel)⟩
theorem lw_p50 : lw_okq (⟨"LinenSignsModel", "laysOrder", "(I)V"⟩, 21) := ⟨⟨by decide +kernel, by decide +kernel⟩, List.mem_of_getElem? (i := 837) (by decide +kernel), List.mem_of_getElem? (i := 1127) (by decide +kernel), List.mem_of_getElem? (i := 1128) (by decide +kernel)⟩
theorem lw_p51 : lw_okq (⟨"LinenSignsModel", "furthest", "(II)I"⟩, 21) := ⟨⟨by decide +kernel, by decide +kernel⟩, List.mem_of_getElem? (i := 837) (by decide +kernel), List.mem_of_getElem? (i := 1135) (by decide +kernel), List.mem_of_getElem? (i := 1136) (by decide +kernel)⟩
theorem lw_p52 : lw_okq (⟨"LinenSignsModel", "notesOrder", "()V"⟩, 21) := ⟨⟨by decide +kernel, by decide +kernel⟩, List.mem_of_getElem? (i := 837) (by decide +kernel), List.mem_of_getElem? (i := 1147) (by decide +kernel), List.mem_of_getElem? (i := 1148) (by decide +kernel)⟩
theorem lw_p53 : lw_okq (⟨"LinenSignsModel", "nextToken", "()V"⟩, 21) := ⟨⟨by decide +kernel, by decide +kernel⟩, List.mem_of_getElem? (i := 837) (by decide +kernel), List.mem_of_getElem? (i := 1186) (by decide +kernel), List.mem_of_getElem? (i := 1187) (by decide +kernel)⟩
theorem lw_p54 : lw_okq (⟨"LinenSignsModel", "byteAt", "(I)I"⟩, 21) := ⟨⟨by decide +kernel, by decide +kernel⟩, List.mem_of_getElem? (i := 837) (by decide +kernel), List.mem_of_getElem? (i := 1190) (by decide +kernel), List.mem_of_getElem? (i := 1191) (by decide +kernel)⟩
theorem lw_p55 : lw_okq (⟨"LinenSignsModel", "itemHere", "()Z"⟩, 21) := ⟨⟨by decide +kernel, by decide +kernel⟩, List.mem_of_getElem? (i := 837) (by decide +kernel), List.mem_of_getElem? (i := 1200) (by decide +kernel), List.mem_of_getElem? (i := 1201) (by decide +kernel)⟩
theorem lw_p56 : lw_okq (⟨"LinenSignsModel", "isFour", "(IIII)Z"⟩, 21) := ⟨⟨by decide +kernel, by decide +kernel⟩, List.mem_of_getElem? (i := 837) (by decide +kernel), List.mem_of_getElem? (i := 1204) (by decide +kernel), List.mem_of_getElem? (i := 1205) (by decide +kernel)⟩
theorem lw_p57 : lw_okq (⟨"LinenSignsModel", "isWord", "(I)Z"⟩, 21) := ⟨⟨by decide +kernel, by decide +kernel⟩, List.mem_of_getElem? (i := 837) (by decide +kernel), List.mem_of_getElem? (i := 1208) (by decide +kernel), List.mem_of_getElem? (i := 1209) (by decide +kernel)⟩
theorem lw_p58 : lw_okq (⟨"LinenSignsModel", "has3", "(IIII)Z"⟩, 21) := ⟨⟨by decide +kernel, by decide +kernel⟩, List.mem_of_getElem? (i := 837) (by decide +kernel), List.mem_of_getElem? (i := 1212) (by decide +kernel), List.mem_of_getElem? (i := 1213) (by decide +kernel)⟩
theorem lw_p59 : lw_okq (⟨"LinenSignsModel", "lineHere", "()Z"⟩, 21) := ⟨⟨by decide +kernel, by decide +kernel⟩, List.mem_of_getElem? (i := 837) (by decide +kernel), List.mem_of_getElem? (i := 1216) (by decide +kernel), List.mem_of_getElem? (i := 1217) (by decide +kernel)⟩
theorem lw_p60 : lw_okq (⟨"LinenSignsModel", "isNumber", "(II)Z"⟩, 21) := ⟨⟨by decide +kernel, by decide +kernel⟩, List.mem_of_getElem? (i := 837) (by decide +kernel), List.mem_of_getElem? (i := 1220) (by decide +kernel), List.mem_of_getElem? (i := 1221) (by decide +kernel)⟩
theorem lw_p61 : lw_okq (⟨"LinenSignsModel", "fails", "()Z"⟩, 21) := ⟨⟨by decide +kernel, by decide +kernel⟩, List.mem_of_getElem? (i := 837) (by decide +kernel), List.mem_of_getElem? (i := 1224) (by decide +kernel), List.mem_of_getElem? (i := 1225) (by decide +kernel)⟩
theorem lw_p62 : lw_okq (⟨"LinenSignsModel", "garmentHere", "(I)Z"⟩, 21) := ⟨⟨by decide +kernel, by decide +kernel⟩, List.mem_of_getElem? (i := 837) (by decide +kernel), List.mem_of_getElem? (i := 1228) (by decide +kernel), List.mem_of_getElem? (i := 1229) (by decide +kernel)⟩
theorem lw_p63 : lw_okq (⟨"LinenSignsModel", "kindHere", "()I"⟩, 21) := ⟨⟨by decide +kernel, by decide +kernel⟩, List.mem_of_getElem? (i := 837) (by decide +kernel), List.mem_of_getElem? (i := 1232) (by decide +kernel), List.mem_of_getElem? (i := 1233) (by decide +kernel)⟩
def lw_privs_4 : List (MethodName × Nat) := [(⟨"LinenSignsModel", "hasNext", "(I)Z"⟩, 21), (⟨"LinenSignsModel", "swapsOrder", "(II)V"⟩, 21), (⟨"LinenSignsModel", "laysOrder", "(I)V"⟩, 21), (⟨"LinenSignsModel", "furthest", "(II)I"⟩, 21), (⟨"LinenSignsModel", "notesOrder", "()V"⟩, 21), (⟨"LinenSignsModel", "nextToken", "()V"⟩, 21), (⟨"LinenSignsModel", "byteAt", "(I)I"⟩, 21), (⟨"LinenSignsModel", "itemHere", "()Z"⟩, 21), (⟨"LinenSignsModel", "isFour", "(IIII)Z"⟩, 21), (⟨"LinenSignsModel", "isWord", "(I)Z"⟩, 21), (⟨"LinenSignsModel", "has3", "(IIII)Z"⟩, 21), (⟨"LinenSignsModel", "lineHere", "()Z"⟩, 21), (⟨"LinenSignsModel", "isNumber", "(II)Z"⟩, 21), (⟨"LinenSignsModel", "fails", "()Z"⟩, 21), (⟨"LinenSignsModel", "garmentHere", "(I)Z"⟩, 21), (⟨"LinenSignsModel", "kindHere", "()I"⟩, 21)]
theorem lw_r4 : ∀ q ∈ lw_privs_4, lw_okq q := List.forall_mem_cons.mpr ⟨lw_p48, List.forall_mem_cons.mpr ⟨lw_p49, List.forall_mem_cons.mpr ⟨lw_p50, List.forall_mem_cons.mpr ⟨lw_p51, List.forall_mem_cons.mpr ⟨lw_p52, List.forall_mem_cons.mpr ⟨lw_p53, List.forall_mem_cons.mpr ⟨lw_p54, List.forall_mem_cons.mpr ⟨lw_p55, List.forall_mem_cons.mpr ⟨lw_p56, List.forall_mem_cons.mpr ⟨lw_p57, List.forall_mem_cons.mpr ⟨lw_p58, List.forall_mem_cons.mpr ⟨lw_p59, List.forall_mem_cons.mpr ⟨lw_p60, List.forall_mem_cons.mpr ⟨lw_p61, List.forall_mem_cons.mpr ⟨lw_p62, List.forall_mem_cons.mpr ⟨lw_p63, fun _ h => absurd h List.not_mem_nil⟩⟩⟩⟩⟩⟩⟩⟩⟩⟩⟩⟩⟩⟩⟩⟩
theorem lw_p64 : lw_okq (⟨"LinenSignsModel", "isFive", "(IIIII)Z"⟩, 21) := ⟨⟨by decide +kernel, by decide +kernel⟩, List.mem_of_getElem? (i := 837) (by decide +kernel), List.mem_of_getElem? (i := 1236) (by decide +kernel), List.mem_of_getElem? (i := 1237) (by decide +kernel)⟩
theorem lw_p65 : lw_okq (⟨"LinenSignsModel", "windHere", "()Z"⟩, 21) := ⟨⟨by decide +kernel, by decide +kernel⟩, List.mem_of_getElem? (i := 837) (by decide +kernel), List.mem_of_getElem? (i := 1240) (by decide +kernel), List.mem_of_getElem? (i := 1241) (by decide +kernel)⟩
theorem lw_p66 : lw_okq (⟨"LinenSignsModel", "meaningHere", "()Z"⟩, 21) := ⟨⟨by decide +kernel, by decide +kernel⟩, List.mem_of_getElem? (i := 837) (by decide +kernel), List.mem_of_getElem? (i := 1244) (by decide +kernel), List.mem_of_getElem? (i := 1245) (by decide +kernel)⟩
theorem lw_p67 : lw_okq (⟨"LinenSignsModel", "isSix", "(IIIIII)Z"⟩, 21) := ⟨⟨by decide +kernel, by decide +kernel⟩, List.mem_of_getElem? (i := 837) (by decide +kernel), List.mem_of_getElem? (i := 1248) (by decide +kernel), List.mem_of_getElem? (i := 1249) (by decide +kernel)⟩
theorem lw_p68 : lw_okq (⟨"LinenSignsModel", "forgetHere", "()Z"⟩, 21) := ⟨⟨by decide +kernel, by decide +kernel⟩, List.mem_of_getElem? (i := 837) (by decide +kernel), List.mem_of_getElem? (i := 1252) (by decide +kernel), List.mem_of_getElem? (i := 1253) (by decide +kernel)⟩
theorem lw_p69 : lw_okq (⟨"LinenSignsModel", "wants", "(I)I"⟩, 21) := ⟨⟨by decide +kernel, by decide +kernel⟩, List.mem_of_getElem? (i := 837) (by decide +kernel), List.mem_of_getElem? (i := 1280) (by decide +kernel), List.mem_of_getElem? (i := 1281) (by decide +kernel)⟩
theorem lw_p70 : lw_okq (⟨"LinenSignsModel", "garments", "()I"⟩, 21) := ⟨⟨by decide +kernel, by decide +kernel⟩, List.mem_of_getElem? (i := 837) (by decide +kernel), List.mem_of_getElem? (i := 1301) (by decide +kernel), List.mem_of_getElem? (i := 1302) (by decide +kernel)⟩
def lw_privs_5 : List (MethodName × Nat) := [(⟨"LinenSignsModel", "isFive", "(IIIII)Z"⟩, 21), (⟨"LinenSignsModel", "windHere", "()Z"⟩, 21), (⟨"LinenSignsModel", "meaningHere", "()Z"⟩, 21), (⟨"LinenSignsModel", "isSix", "(IIIIII)Z"⟩, 21), (⟨"LinenSignsModel", "forgetHere", "()Z"⟩, 21), (⟨"LinenSignsModel", "wants", "(I)I"⟩, 21), (⟨"LinenSignsModel", "garments", "()I"⟩, 21)]
theorem lw_r5 : ∀ q ∈ lw_privs_5, lw_okq q := List.forall_mem_cons.mpr ⟨lw_p64, List.forall_mem_cons.mpr ⟨lw_p65, List.forall_mem_cons.mpr ⟨lw_p66, List.forall_mem_cons.mpr ⟨lw_p67, List.forall_mem_cons.mpr ⟨lw_p68, List.forall_mem_cons.mpr ⟨lw_p69, List.forall_mem_cons.mpr ⟨lw_p70, fun _ h => absurd h List.not_mem_nil⟩⟩⟩⟩⟩⟩⟩
def lw_privs : List (MethodName × Nat) := lw_privs_1 ++ (lw_privs_2 ++ (lw_privs_3 ++ (lw_privs_4 ++ (lw_privs_5))))
def lw_tbl : List Cond := k2_sels lw_privs ++ tables_1
theorem lw_privs_ok : ∀ q ∈ lw_privs, lw_okq q := by
  show ∀ q ∈ lw_privs_1 ++ (lw_privs_2 ++ (lw_privs_3 ++ (lw_privs_4 ++ (lw_privs_5)))), lw_okq q
  exact List.forall_mem_append.mpr ⟨lw_r1, List.forall_mem_append.mpr ⟨lw_r2, List.forall_mem_append.mpr ⟨lw_r3, List.forall_mem_append.mpr ⟨lw_r4, lw_r5⟩⟩⟩⟩

def RX0 : String := "LinenSigns$Orders"
def TX0 : u_T := fun k => match k with
  | 0 => ("LinenSigns$Orders", "town", "LLinenSigns$Town;", true)
  | 1 => ("LinenSigns$Orders", "row", "LLinenSigns$Row;", true)
  | 2 => ("LinenSigns$Orders", "sayings", "[I", true)
  | 3 => ("LinenSigns$Orders", "twins", "[I", true)
  | 4 => ("LinenSigns$Orders", "pegs", "[I", true)
  | 5 => ("LinenSigns$Orders", "nearestPegs", "[I", true)
  | 6 => ("LinenSigns$Orders", "met", "[J", true)
  | 7 => ("LinenSigns$Orders", "meaning", "I", false)
  | 8 => ("LinenSigns$Orders", "aim", "I", false)
  | 9 => ("LinenSigns$Orders", "weight", "I", false)
  | 10 => ("LinenSigns$Orders", "hungPegs", "I", false)
  | 11 => ("LinenSigns$Orders", "isFirst", "Z", false)
  | 12 => ("LinenSigns$Orders", "readSo", "I", false)
  | 13 => ("LinenSigns$Orders", "greatest", "I", false)
  | 14 => ("LinenSigns$Orders", "smallest", "I", false)
  | _ => ("LinenSigns$Orders", "nearest", "I", false)
def tyX0 : Nat → FieldType := fun k => match k with
  | 0 => .object "LinenSigns$Town"
  | 1 => .object "LinenSigns$Row"
  | 2 => .array .int
  | 3 => .array .int
  | 4 => .array .int
  | 5 => .array .int
  | 6 => .array .long
  | 7 => .int
  | 8 => .int
  | 9 => .int
  | 10 => .int
  | 11 => .boolean
  | 12 => .int
  | 13 => .int
  | 14 => .int
  | _ => .int
abbrev wsX00 : List Cond := u_ws RX0 TX0 16
theorem nmX0 : ∀ a, a < 16 → ∀ b, b < 16 → a ≠ b → (TX0 a).2.1 ≠ (TX0 b).2.1 := by decide +kernel
theorem tyX0_ok : ∀ k, k < 16 → parseFieldDescriptor (TX0 k).2.2.1 = some (tyX0 k) := by decide +kernel
abbrev cX0_init : ByteArray := prog_2_method_1_code
def yX0_init : MethodName := ⟨RX0, "<init>", "(LLinenSigns$Town;)V"⟩
abbrev cX0_walk : ByteArray := prog_2_method_2_code
def yX0_walk : MethodName := ⟨RX0, "walk", "(LLinenSigns$Row;II)V"⟩
abbrev cX0_findTwins : ByteArray := prog_2_method_3_code
def yX0_findTwins : MethodName := ⟨RX0, "findTwins", "()V"⟩
abbrev cX0_saying : ByteArray := prog_2_method_4_code
def yX0_saying : MethodName := ⟨RX0, "saying", "(I)I"⟩
abbrev cX0_hangNext : ByteArray := prog_2_method_5_code
def yX0_hangNext : MethodName := ⟨RX0, "hangNext", "(III)V"⟩
abbrev cX0_sayThenHangNext : ByteArray := prog_2_method_6_code
def yX0_sayThenHangNext : MethodName := ⟨RX0, "sayThenHangNext", "(IIII)V"⟩
abbrev cX0_mayHang : ByteArray := prog_2_method_7_code
def yX0_mayHang : MethodName := ⟨RX0, "mayHang", "(I)Z"⟩
abbrev cX0_isHanging : ByteArray := prog_2_method_8_code
def yX0_isHanging : MethodName := ⟨RX0, "isHanging", "(I)Z"⟩
abbrev cX0_arrive : ByteArray := prog_2_method_9_code
def yX0_arrive : MethodName := ⟨RX0, "arrive", "(I)V"⟩
abbrev cX0_arrangeNearest : ByteArray := prog_2_method_10_code
def yX0_arrangeNearest : MethodName := ⟨RX0, "arrangeNearest", "(LLinenSigns$Row;)V"⟩
abbrev cX0_unlikeWorths : ByteArray := prog_2_method_11_code
def yX0_unlikeWorths : MethodName := ⟨RX0, "unlikeWorths", "()I"⟩
abbrev cX0_meaningsMet : ByteArray := prog_2_method_12_code
def yX0_meaningsMet : MethodName := ⟨RX0, "meaningsMet", "()I"⟩
abbrev cX0_meaningBit : ByteArray := prog_2_method_13_code
def yX0_meaningBit : MethodName := ⟨RX0, "meaningBit", "(I)I"⟩
def RX1 : String := "LinenSigns$Row"
def TX1 : u_T := fun k => match k with
  | 0 => ("LinenSigns$Row", "kinds", "[I", true)
  | 1 => ("LinenSigns$Row", "sizes", "[I", true)
  | 2 => ("LinenSigns$Row", "wets", "[I", true)
  | _ => ("LinenSigns$Row", "length", "I", false)
def tyX1 : Nat → FieldType := fun k => match k with
  | 0 => .array .int
  | 1 => .array .int
  | 2 => .array .int
  | _ => .int
abbrev wsX10 : List Cond := u_ws RX1 TX1 4
theorem nmX1 : ∀ a, a < 4 → ∀ b, b < 4 → a ≠ b → (TX1 a).2.1 ≠ (TX1 b).2.1 := by decide +kernel
theorem tyX1_ok : ∀ k, k < 4 → parseFieldDescriptor (TX1 k).2.2.1 = some (tyX1 k) := by decide +kernel
abbrev cX1_init : ByteArray := prog_3_method_1_code
def yX1_init : MethodName := ⟨RX1, "<init>", "()V"⟩
abbrev cX1_clear : ByteArray := prog_3_method_2_code
def yX1_clear : MethodName := ⟨RX1, "clear", "()V"⟩
abbrev cX1_add : ByteArray := prog_3_method_3_code
def yX1_add : MethodName := ⟨RX1, "add", "(III)V"⟩
abbrev cX1_put : ByteArray := prog_3_method_4_code
def yX1_put : MethodName := ⟨RX1, "put", "(IIII)V"⟩
abbrev cX1_remove : ByteArray := prog_3_method_5_code
def yX1_remove : MethodName := ⟨RX1, "remove", "(I)V"⟩
abbrev cX1_exchange : ByteArray := prog_3_method_6_code
def yX1_exchange : MethodName := ⟨RX1, "exchange", "(II)V"⟩
abbrev cX1_become : ByteArray := prog_3_method_7_code
def yX1_become : MethodName := ⟨RX1, "become", "(LLinenSigns$Row;)V"⟩
abbrev cX1_isSeenAt : ByteArray := prog_3_method_8_code
def yX1_isSeenAt : MethodName := ⟨RX1, "isSeenAt", "(II)Z"⟩
abbrev cX1_pegsLike : ByteArray := prog_3_method_9_code
def yX1_pegsLike : MethodName := ⟨RX1, "pegsLike", "(LLinenSigns$Row;)I"⟩
abbrev cX1_dry : ByteArray := prog_3_method_10_code
def yX1_dry : MethodName := ⟨RX1, "dry", "(I)I"⟩
def RX2 : String := "LinenSigns$Sheet"
def TX2 : u_T := fun k => match k with
  | 0 => ("LinenSigns$Sheet", "cells", "[J", true)
  | 1 => ("LinenSigns$Sheet", "bits", "I", false)
  | _ => ("LinenSigns$Sheet", "length", "I", false)
def tyX2 : Nat → FieldType := fun k => match k with
  | 0 => .array .long
  | 1 => .int
  | _ => .int
abbrev wsX20 : List Cond := u_ws RX2 TX2 3
theorem nmX2 : ∀ a, a < 3 → ∀ b, b < 3 → a ≠ b → (TX2 a).2.1 ≠ (TX2 b).2.1 := by decide +kernel
theorem tyX2_ok : ∀ k, k < 3 → parseFieldDescriptor (TX2 k).2.2.1 = some (tyX2 k) := by decide +kernel
abbrev cX2_init : ByteArray := prog_4_method_1_code
def yX2_init : MethodName := ⟨RX2, "<init>", "()V"⟩
abbrev cX2_begin : ByteArray := prog_4_method_2_code
def yX2_begin : MethodName := ⟨RX2, "begin", "(II)V"⟩
abbrev cX2_put : ByteArray := prog_4_method_3_code
def yX2_put : MethodName := ⟨RX2, "put", "(IJ)V"⟩
abbrev cX2_hasRange : ByteArray := prog_4_method_4_code
def yX2_hasRange : MethodName := ⟨RX2, "hasRange", "(II)Z"⟩
def RX3 : String := "LinenSigns$Tape"
def TX3 : u_T := fun k => match k with
  | 0 => ("LinenSigns$Tape", "bytes", "[I", true)
  | 1 => ("LinenSigns$Tape", "length", "I", false)
  | 2 => ("LinenSigns$Tape", "start", "I", false)
  | 3 => ("LinenSigns$Tape", "end", "I", false)
  | 4 => ("LinenSigns$Tape", "sort", "I", false)
  | _ => ("LinenSigns$Tape", "told", "I", false)
def tyX3 : Nat → FieldType := fun k => match k with
  | 0 => .array .int
  | 1 => .int
  | 2 => .int
  | 3 => .int
  | 4 => .int
  | _ => .int
abbrev wsX30 : List Cond := u_ws RX3 TX3 6
theorem nmX3 : ∀ a, a < 6 → ∀ b, b < 6 → a ≠ b → (TX3 a).2.1 ≠ (TX3 b).2.1 := by decide +kernel
theorem tyX3_ok : ∀ k, k < 6 → parseFieldDescriptor (TX3 k).2.2.1 = some (tyX3 k) := by decide +kernel
abbrev cX3_init : ByteArray := prog_5_method_1_code
def yX3_init : MethodName := ⟨RX3, "<init>", "()V"⟩
abbrev cX3_add : ByteArray := prog_5_method_2_code
def yX3_add : MethodName := ⟨RX3, "add", "(I)V"⟩
abbrev cX3_tell : ByteArray := prog_5_method_3_code
def yX3_tell : MethodName := ⟨RX3, "tell", "(LLinenSigns$Town;)I"⟩
abbrev cX3_lineItem : ByteArray := prog_5_method_4_code
def yX3_lineItem : MethodName := ⟨RX3, "lineItem", "(LLinenSigns$Town;)Z"⟩
abbrev cX3_garment : ByteArray := prog_5_method_5_code
def yX3_garment : MethodName := ⟨RX3, "garment", "(LLinenSigns$Row;)Z"⟩
abbrev cX3_windItem : ByteArray := prog_5_method_6_code
def yX3_windItem : MethodName := ⟨RX3, "windItem", "(LLinenSigns$Town;)Z"⟩
abbrev cX3_meaningItem : ByteArray := prog_5_method_7_code
def yX3_meaningItem : MethodName := ⟨RX3, "meaningItem", "(LLinenSigns$Town;)Z"⟩
abbrev cX3_forgetItem : ByteArray := prog_5_method_8_code
def yX3_forgetItem : MethodName := ⟨RX3, "forgetItem", "(LLinenSigns$Town;)Z"⟩
abbrev cX3_takeNumber : ByteArray := prog_5_method_9_code
def yX3_takeNumber : MethodName := ⟨RX3, "takeNumber", "(II)Z"⟩
abbrev cX3_kindTold : ByteArray := prog_5_method_10_code
def yX3_kindTold : MethodName := ⟨RX3, "kindTold", "()I"⟩
abbrev cX3_kindName : ByteArray := prog_5_method_11_code
def yX3_kindName : MethodName := ⟨RX3, "kindName", "(I)Ljava/lang/String;"⟩
abbrev cX3_isWord : ByteArray := prog_5_method_12_code
def yX3_isWord : MethodName := ⟨RX3, "isWord", "(Ljava/lang/String;)Z"⟩
abbrev cX3_step : ByteArray := prog_5_method_13_code
def yX3_step : MethodName := ⟨RX3, "step", "()V"⟩
abbrev cX3_numberHere : ByteArray := prog_5_method_14_code
def yX3_numberHere : MethodName := ⟨RX3, "numberHere", "()I"⟩
abbrev cX3_sortOf : ByteArray := prog_5_method_15_code
def yX3_sortOf : MethodName := ⟨RX3, "sortOf", "(I)I"⟩
def RX4 : String := "LinenSigns$Town"
def TX4 : u_T := fun k => match k with
  | 0 => ("LinenSigns$Town", "rows", "[LLinenSigns$Row;", true)
  | 1 => ("LinenSigns$Town", "numbers", "[I", true)
  | 2 => ("LinenSigns$Town", "wind", "I", false)
  | _ => ("LinenSigns$Town", "day", "I", false)
def tyX4 : Nat → FieldType := fun k => match k with
  | 0 => .array (.object "LinenSigns$Row")
  | 1 => .array .int
  | 2 => .int
  | _ => .int
abbrev wsX40 : List Cond := u_ws RX4 TX4 4
theorem nmX4 : ∀ a, a < 4 → ∀ b, b < 4 → a ≠ b → (TX4 a).2.1 ≠ (TX4 b).2.1 := by decide +kernel
theorem tyX4_ok : ∀ k, k < 4 → parseFieldDescriptor (TX4 k).2.2.1 = some (tyX4 k) := by decide +kernel
abbrev cX4_init : ByteArray := prog_6_method_1_code
def yX4_init : MethodName := ⟨RX4, "<init>", "()V"⟩
abbrev cX4_become : ByteArray := prog_6_method_2_code
def yX4_become : MethodName := ⟨RX4, "become", "(LLinenSigns$Town;)V"⟩
abbrev cX4_garments : ByteArray := prog_6_method_3_code
def yX4_garments : MethodName := ⟨RX4, "garments", "()I"⟩
abbrev cX4_letDaysGo : ByteArray := prog_6_method_4_code
def yX4_letDaysGo : MethodName := ⟨RX4, "letDaysGo", "(I)I"⟩
abbrev cX4_hasNumber : ByteArray := prog_6_method_5_code
def yX4_hasNumber : MethodName := ⟨RX4, "hasNumber", "(I)Z"⟩
abbrev cX4_meaningsTold : ByteArray := prog_6_method_6_code
def yX4_meaningsTold : MethodName := ⟨RX4, "meaningsTold", "()I"⟩
abbrev cX4_readAs : ByteArray := prog_6_method_7_code
def yX4_readAs : MethodName := ⟨RX4, "readAs", "(I)I"⟩
abbrev cX4_leastDifference : ByteArray := prog_6_method_8_code
def yX4_leastDifference : MethodName := ⟨RX4, "leastDifference", "()I"⟩
def RX5 : String := "LinenSigns$Voice"
def TX5 : u_T := fun k => match k with
  | 0 => ("LinenSigns$Voice", "worth", "I", false)
  | 1 => ("LinenSigns$Voice", "stockings", "I", false)
  | _ => ("LinenSigns$Voice", "wind", "I", false)
def tyX5 : Nat → FieldType := fun k => match k with
  | 0 => .int
  | 1 => .int
  | _ => .int
abbrev wsX50 : List Cond := u_ws RX5 TX5 3
theorem nmX5 : ∀ a, a < 3 → ∀ b, b < 3 → a ≠ b → (TX5 a).2.1 ≠ (TX5 b).2.1 := by decide +kernel
theorem tyX5_ok : ∀ k, k < 3 → parseFieldDescriptor (TX5 k).2.2.1 = some (tyX5 k) := by decide +kernel
abbrev cX5_init : ByteArray := prog_7_method_1_code
def yX5_init : MethodName := ⟨RX5, "<init>", "()V"⟩
abbrev cX5_begin : ByteArray := prog_7_method_2_code
def yX5_begin : MethodName := ⟨RX5, "begin", "(I)V"⟩
abbrev cX5_hear : ByteArray := prog_7_method_3_code
def yX5_hear : MethodName := ⟨RX5, "hear", "(LLinenSigns$Row;III)V"⟩
abbrev cX5_hearGarment : ByteArray := prog_7_method_4_code
def yX5_hearGarment : MethodName := ⟨RX5, "hearGarment", "(III)V"⟩
def RX6 : String := "LinenSigns"
def TX6 : u_T := fun k => match k with
  | 0 => ("LinenSigns", "town", "LLinenSigns$Town;", true)
  | 1 => ("LinenSigns", "kept", "LLinenSigns$Town;", true)
  | 2 => ("LinenSigns", "draft", "LLinenSigns$Town;", true)
  | 3 => ("LinenSigns", "voice", "LLinenSigns$Voice;", true)
  | 4 => ("LinenSigns", "ways", "LLinenSigns$Orders;", true)
  | 5 => ("LinenSigns", "tape", "LLinenSigns$Tape;", true)
  | 6 => ("LinenSigns", "sheets", "[LLinenSigns$Sheet;", true)
  | 7 => ("LinenSigns", "findings", "[I", true)
  | _ => ("LinenSigns", "isKept", "Z", false)
def tyX6 : Nat → FieldType := fun k => match k with
  | 0 => .object "LinenSigns$Town"
  | 1 => .object "LinenSigns$Town"
  | 2 => .object "LinenSigns$Town"
  | 3 => .object "LinenSigns$Voice"
  | 4 => .object "LinenSigns$Orders"
  | 5 => .object "LinenSigns$Tape"
  | 6 => .array (.object "LinenSigns$Sheet")
  | 7 => .array .int
  | _ => .boolean
abbrev wsX60 : List Cond := u_ws RX6 TX6 9
theorem nmX6 : ∀ a, a < 9 → ∀ b, b < 9 → a ≠ b → (TX6 a).2.1 ≠ (TX6 b).2.1 := by decide +kernel
theorem tyX6_ok : ∀ k, k < 9 → parseFieldDescriptor (TX6 k).2.2.1 = some (tyX6 k) := by decide +kernel
abbrev cX6_init : ByteArray := prog_1_method_1_code
def yX6_init : MethodName := ⟨RX6, "<init>", "()V"⟩
abbrev cX6_hang : ByteArray := prog_1_method_2_code
def yX6_hang : MethodName := ⟨RX6, "hang", "(III)I"⟩
abbrev cX6_off : ByteArray := prog_1_method_3_code
def yX6_off : MethodName := ⟨RX6, "off", "(II)I"⟩
abbrev cX6_of : ByteArray := prog_1_method_4_code
def yX6_of : MethodName := ⟨RX6, "of", "(III)I"⟩
abbrev cX6_set : ByteArray := prog_1_method_5_code
def yX6_set : MethodName := ⟨RX6, "set", "(IIII)I"⟩
abbrev cX6_turn : ByteArray := prog_1_method_6_code
def yX6_turn : MethodName := ⟨RX6, "turn", "(III)I"⟩
abbrev cX6_as : ByteArray := prog_1_method_7_code
def yX6_as : MethodName := ⟨RX6, "as", "(III)I"⟩
abbrev cX6_swap : ByteArray := prog_1_method_8_code
def yX6_swap : MethodName := ⟨RX6, "swap", "(III)I"⟩
abbrev cX6_take : ByteArray := prog_1_method_9_code
def yX6_take : MethodName := ⟨RX6, "take", "(I)I"⟩
abbrev cX6_like : ByteArray := prog_1_method_10_code
def yX6_like : MethodName := ⟨RX6, "like", "(II)I"⟩
abbrev cX6_wind : ByteArray := prog_1_method_11_code
def yX6_wind : MethodName := ⟨RX6, "wind", "(I)I"⟩
abbrev cX6_days : ByteArray := prog_1_method_12_code
def yX6_days : MethodName := ⟨RX6, "days", "(I)I"⟩
abbrev cX6_means : ByteArray := prog_1_method_13_code
def yX6_means : MethodName := ⟨RX6, "means", "(II)I"⟩
abbrev cX6_forget : ByteArray := prog_1_method_14_code
def yX6_forget : MethodName := ⟨RX6, "forget", "(I)I"⟩
abbrev cX6_number : ByteArray := prog_1_method_15_code
def yX6_number : MethodName := ⟨RX6, "number", "(I)I"⟩
abbrev cX6_read : ByteArray := prog_1_method_16_code
def yX6_read : MethodName := ⟨RX6, "read", "(I)I"⟩
abbrev cX6_apart : ByteArray := prog_1_method_17_code
def yX6_apart : MethodName := ⟨RX6, "apart", "()I"⟩
abbrev cX6_worth : ByteArray := prog_1_method_18_code
def yX6_worth : MethodName := ⟨RX6, "worth", "(I)I"⟩
abbrev cX6_worthIn : ByteArray := prog_1_method_19_code
def yX6_worthIn : MethodName := ⟨RX6, "worthIn", "(II)I"⟩
abbrev cX6_says : ByteArray := prog_1_method_20_code
def yX6_says : MethodName := ⟨RX6, "says", "(I)I"⟩
abbrev cX6_winds : ByteArray := prog_1_method_21_code
def yX6_winds : MethodName := ⟨RX6, "winds", "(I)I"⟩
abbrev cX6_lost : ByteArray := prog_1_method_22_code
def yX6_lost : MethodName := ⟨RX6, "lost", "(I)I"⟩
abbrev cX6_fewest : ByteArray := prog_1_method_23_code
def yX6_fewest : MethodName := ⟨RX6, "fewest", "(II)I"⟩
abbrev cX6_which : ByteArray := prog_1_method_24_code
def yX6_which : MethodName := ⟨RX6, "which", "(II)I"⟩
abbrev cX6_more : ByteArray := prog_1_method_25_code
def yX6_more : MethodName := ⟨RX6, "more", "(II)I"⟩
abbrev cX6_orders : ByteArray := prog_1_method_26_code
def yX6_orders : MethodName := ⟨RX6, "orders", "(II)I"⟩
abbrev cX6_most : ByteArray := prog_1_method_27_code
def yX6_most : MethodName := ⟨RX6, "most", "(I)I"⟩
abbrev cX6_least : ByteArray := prog_1_method_28_code
def yX6_least : MethodName := ⟨RX6, "least", "(I)I"⟩
abbrev cX6_order : ByteArray := prog_1_method_29_code
def yX6_order : MethodName := ⟨RX6, "order", "(II)I"⟩
abbrev cX6_worths : ByteArray := prog_1_method_30_code
def yX6_worths : MethodName := ⟨RX6, "worths", "(I)I"⟩
abbrev cX6_can : ByteArray := prog_1_method_31_code
def yX6_can : MethodName := ⟨RX6, "can", "(I)I"⟩
abbrev cX6_join : ByteArray := prog_1_method_32_code
def yX6_join : MethodName := ⟨RX6, "join", "(II)I"⟩
abbrev cX6_same : ByteArray := prog_1_method_33_code
def yX6_same : MethodName := ⟨RX6, "same", "(II)I"⟩
abbrev cX6_best : ByteArray := prog_1_method_34_code
def yX6_best : MethodName := ⟨RX6, "best", "(I)I"⟩
abbrev cX6_feed : ByteArray := prog_1_method_35_code
def yX6_feed : MethodName := ⟨RX6, "feed", "(II)I"⟩
abbrev cX6_wipe : ByteArray := prog_1_method_36_code
def yX6_wipe : MethodName := ⟨RX6, "wipe", "()I"⟩
abbrev cX6_town : ByteArray := prog_1_method_37_code
def yX6_town : MethodName := ⟨RX6, "town", "()I"⟩
abbrev cX6_sheet : ByteArray := prog_1_method_38_code
def yX6_sheet : MethodName := ⟨RX6, "sheet", "(III)I"⟩
abbrev cX6_write : ByteArray := prog_1_method_39_code
def yX6_write : MethodName := ⟨RX6, "write", "(IIJ)J"⟩
abbrev cX6_copy : ByteArray := prog_1_method_40_code
def yX6_copy : MethodName := ⟨RX6, "copy", "(IIIII)I"⟩
abbrev cX6_lays : ByteArray := prog_1_method_41_code
def yX6_lays : MethodName := ⟨RX6, "lays", "(II)I"⟩
abbrev cX6_show : ByteArray := prog_1_method_42_code
def yX6_show : MethodName := ⟨RX6, "show", "(II)I"⟩
abbrev cX6_check : ByteArray := prog_1_method_43_code
def yX6_check : MethodName := ⟨RX6, "check", "(II)I"⟩
abbrev cX6_image : ByteArray := prog_1_method_44_code
def yX6_image : MethodName := ⟨RX6, "image", "()I"⟩
abbrev cX6_undo : ByteArray := prog_1_method_45_code
def yX6_undo : MethodName := ⟨RX6, "undo", "()I"⟩
abbrev cX6_tear : ByteArray := prog_1_method_46_code
def yX6_tear : MethodName := ⟨RX6, "tear", "()I"⟩
abbrev cX6_count : ByteArray := prog_1_method_47_code
def yX6_count : MethodName := ⟨RX6, "count", "(I)I"⟩
abbrev cX6_status : ByteArray := prog_1_method_48_code
def yX6_status : MethodName := ⟨RX6, "status", "(I)I"⟩
abbrev cX6_finding : ByteArray := prog_1_method_49_code
def yX6_finding : MethodName := ⟨RX6, "finding", "(I)I"⟩
abbrev cX6_isGarment : ByteArray := prog_1_method_50_code
def yX6_isGarment : MethodName := ⟨RX6, "isGarment", "(II)Z"⟩
abbrev cX6_sheetFinding : ByteArray := prog_1_method_51_code
def yX6_sheetFinding : MethodName := ⟨RX6, "sheetFinding", "(I)I"⟩
abbrev cX6_sheetAndLineFinding : ByteArray := prog_1_method_52_code
def yX6_sheetAndLineFinding : MethodName := ⟨RX6, "sheetAndLineFinding", "(II)I"⟩
abbrev cX6_isWithin : ByteArray := prog_1_method_53_code
def yX6_isWithin : MethodName := ⟨RX6, "isWithin", "(III)Z"⟩
abbrev cX6_isLine : ByteArray := prog_1_method_54_code
def yX6_isLine : MethodName := ⟨RX6, "isLine", "(I)Z"⟩
abbrev cX6_isKind : ByteArray := prog_1_method_55_code
def yX6_isKind : MethodName := ⟨RX6, "isKind", "(I)Z"⟩
abbrev cX6_isSize : ByteArray := prog_1_method_56_code
def yX6_isSize : MethodName := ⟨RX6, "isSize", "(I)Z"⟩
abbrev cX6_isWind : ByteArray := prog_1_method_57_code
def yX6_isWind : MethodName := ⟨RX6, "isWind", "(I)Z"⟩
abbrev cX6_isMeaning : ByteArray := prog_1_method_58_code
def yX6_isMeaning : MethodName := ⟨RX6, "isMeaning", "(I)Z"⟩
abbrev cX6_isWorth : ByteArray := prog_1_method_59_code
def yX6_isWorth : MethodName := ⟨RX6, "isWorth", "(I)Z"⟩
abbrev cX6_isSheet : ByteArray := prog_1_method_60_code
def yX6_isSheet : MethodName := ⟨RX6, "isSheet", "(I)Z"⟩
abbrev cX6_isBits : ByteArray := prog_1_method_61_code
def yX6_isBits : MethodName := ⟨RX6, "isBits", "(I)Z"⟩
abbrev cX6_isGarmentCode : ByteArray := prog_1_method_62_code
def yX6_isGarmentCode : MethodName := ⟨RX6, "isGarmentCode", "(J)Z"⟩
abbrev cX6_isOfKind : ByteArray := prog_1_method_63_code
def yX6_isOfKind : MethodName := ⟨RX6, "isOfKind", "(II)Z"⟩
abbrev cX6_isSeen : ByteArray := prog_1_method_64_code
def yX6_isSeen : MethodName := ⟨RX6, "isSeen", "(IIII)Z"⟩
abbrev cX6_worthAfter : ByteArray := prog_1_method_65_code
def yX6_worthAfter : MethodName := ⟨RX6, "worthAfter", "(IIII)I"⟩
abbrev cX6_stockingsAfter : ByteArray := prog_1_method_66_code
def yX6_stockingsAfter : MethodName := ⟨RX6, "stockingsAfter", "(II)I"⟩
abbrev cX6_held : ByteArray := prog_1_method_67_code
def yX6_held : MethodName := ⟨RX6, "held", "(I)I"⟩
abbrev cX6_worthOf : ByteArray := prog_1_method_68_code
def yX6_worthOf : MethodName := ⟨RX6, "worthOf", "(LLinenSigns$Row;I)I"⟩
abbrev cX6_worthBehind : ByteArray := prog_1_method_69_code
def yX6_worthBehind : MethodName := ⟨RX6, "worthBehind", "(LLinenSigns$Row;I)I"⟩
abbrev cX6_worthJoined : ByteArray := prog_1_method_70_code
def yX6_worthJoined : MethodName := ⟨RX6, "worthJoined", "(LLinenSigns$Row;LLinenSigns$Row;I)I"⟩
abbrev cX6_readNow : ByteArray := prog_1_method_71_code
def yX6_readNow : MethodName := ⟨RX6, "readNow", "(LLinenSigns$Row;)I"⟩
abbrev cX6_readWithout : ByteArray := prog_1_method_72_code
def yX6_readWithout : MethodName := ⟨RX6, "readWithout", "(LLinenSigns$Row;I)I"⟩
abbrev cX6_readWithOneMore : ByteArray := prog_1_method_73_code
def yX6_readWithOneMore : MethodName := ⟨RX6, "readWithOneMore", "(LLinenSigns$Row;I)I"⟩
abbrev cX6_windsReadAs : ByteArray := prog_1_method_74_code
def yX6_windsReadAs : MethodName := ⟨RX6, "windsReadAs", "(LLinenSigns$Row;I)I"⟩
abbrev cX6_fewestOff : ByteArray := prog_1_method_75_code
def yX6_fewestOff : MethodName := ⟨RX6, "fewestOff", "(LLinenSigns$Row;I)I"⟩
def RX7 : String := "LinenSignsModel"
def TX7 : u_T := fun k => match k with
  | 0 => ("LinenSignsModel", "s", "[I", true)
  | 1 => ("LinenSignsModel", "kept", "[I", true)
  | 2 => ("LinenSignsModel", "before", "[I", true)
  | 3 => ("LinenSignsModel", "isKept", "Z", false)
  | 4 => ("LinenSignsModel", "findings", "[I", true)
  | 5 => ("LinenSignsModel", "tape", "[I", true)
  | 6 => ("LinenSignsModel", "taped", "I", false)
  | 7 => ("LinenSignsModel", "bitsOf", "[I", true)
  | 8 => ("LinenSignsModel", "sizes", "[I", true)
  | 9 => ("LinenSignsModel", "numbers", "[J", true)
  | 10 => ("LinenSignsModel", "row", "[I", true)
  | 11 => ("LinenSignsModel", "rowN", "I", false)
  | 12 => ("LinenSignsModel", "order", "[I", true)
  | 13 => ("LinenSignsModel", "bestOrder", "[I", true)
  | 14 => ("LinenSignsModel", "met", "[I", true)
  | 15 => ("LinenSignsModel", "times", "I", false)
  | 16 => ("LinenSignsModel", "token", "I", false)
  | 17 => ("LinenSignsModel", "from", "I", false)
  | 18 => ("LinenSignsModel", "to", "I", false)
  | 19 => ("LinenSignsModel", "value", "I", false)
  | _ => ("LinenSignsModel", "faultAt", "I", false)
def tyX7 : Nat → FieldType := fun k => match k with
  | 0 => .array .int
  | 1 => .array .int
  | 2 => .array .int
  | 3 => .boolean
  | 4 => .array .int
  | 5 => .array .int
  | 6 => .int
  | 7 => .array .int
  | 8 => .array .int
  | 9 => .array .long
  | 10 => .array .int
  | 11 => .int
  | 12 => .array .int
  | 13 => .array .int
  | 14 => .array .int
  | 15 => .int
  | 16 => .int
  | 17 => .int
  | 18 => .int
  | 19 => .int
  | _ => .int
abbrev wsX70 : List Cond := u_ws RX7 TX7 21
theorem nmX7 : ∀ a, a < 21 → ∀ b, b < 21 → a ≠ b → (TX7 a).2.1 ≠ (TX7 b).2.1 := by decide +kernel
theorem tyX7_ok : ∀ k, k < 21 → parseFieldDescriptor (TX7 k).2.2.1 = some (tyX7 k) := by decide +kernel
abbrev cX7_init : ByteArray := prog_9_method_1_code
def yX7_init : MethodName := ⟨RX7, "<init>", "()V"⟩
abbrev cX7_isIn : ByteArray := prog_9_method_2_code
def yX7_isIn : MethodName := ⟨RX7, "isIn", "(JJJ)Z"⟩
abbrev cX7_finds : ByteArray := prog_9_method_3_code
def yX7_finds : MethodName := ⟨RX7, "finds", "(I)I"⟩
abbrev cX7_becomes : ByteArray := prog_9_method_4_code
def yX7_becomes : MethodName := ⟨RX7, "becomes", "(II)I"⟩
abbrev cX7_isLine : ByteArray := prog_9_method_5_code
def yX7_isLine : MethodName := ⟨RX7, "isLine", "(I)Z"⟩
abbrev cX7_isPeg : ByteArray := prog_9_method_6_code
def yX7_isPeg : MethodName := ⟨RX7, "isPeg", "(II)Z"⟩
abbrev cX7_isMeaning : ByteArray := prog_9_method_7_code
def yX7_isMeaning : MethodName := ⟨RX7, "isMeaning", "(I)Z"⟩
abbrev cX7_placeOf : ByteArray := prog_9_method_8_code
def yX7_placeOf : MethodName := ⟨RX7, "placeOf", "(II)I"⟩
abbrev cX7_copyRow : ByteArray := prog_9_method_9_code
def yX7_copyRow : MethodName := ⟨RX7, "copyRow", "([I[I)V"⟩
abbrev cX7_apartBy : ByteArray := prog_9_method_10_code
def yX7_apartBy : MethodName := ⟨RX7, "apartBy", "(II)I"⟩
abbrev cX7_hangs : ByteArray := prog_9_method_11_code
def yX7_hangs : MethodName := ⟨RX7, "hangs", "(IIII)V"⟩
abbrev cX7_isGarment : ByteArray := prog_9_method_12_code
def yX7_isGarment : MethodName := ⟨RX7, "isGarment", "(II)Z"⟩
abbrev cX7_hang : ByteArray := prog_9_method_13_code
def yX7_hang : MethodName := ⟨RX7, "hang", "(III)I"⟩
abbrev cX7_off : ByteArray := prog_9_method_14_code
def yX7_off : MethodName := ⟨RX7, "off", "(II)I"⟩
abbrev cX7_lays : ByteArray := prog_9_method_15_code
def yX7_lays : MethodName := ⟨RX7, "lays", "(I)V"⟩
abbrev cX7_isSeen : ByteArray := prog_9_method_16_code
def yX7_isSeen : MethodName := ⟨RX7, "isSeen", "(II)Z"⟩
abbrev cX7_kept : ByteArray := prog_9_method_17_code
def yX7_kept : MethodName := ⟨RX7, "kept", "(I)I"⟩
abbrev cX7_isStocking : ByteArray := prog_9_method_18_code
def yX7_isStocking : MethodName := ⟨RX7, "isStocking", "(I)Z"⟩
abbrev cX7_becomesBy : ByteArray := prog_9_method_19_code
def yX7_becomesBy : MethodName := ⟨RX7, "becomesBy", "(III)I"⟩
abbrev cX7_worthOfFirst : ByteArray := prog_9_method_20_code
def yX7_worthOfFirst : MethodName := ⟨RX7, "worthOfFirst", "(II)I"⟩
abbrev cX7_worthBy : ByteArray := prog_9_method_21_code
def yX7_worthBy : MethodName := ⟨RX7, "worthBy", "(II)I"⟩
abbrev cX7_worthAside : ByteArray := prog_9_method_22_code
def yX7_worthAside : MethodName := ⟨RX7, "worthAside", "()I"⟩
abbrev cX7_readAs : ByteArray := prog_9_method_23_code
def yX7_readAs : MethodName := ⟨RX7, "readAs", "(I)I"⟩
abbrev cX7_of : ByteArray := prog_9_method_24_code
def yX7_of : MethodName := ⟨RX7, "of", "(III)I"⟩
abbrev cX7_set : ByteArray := prog_9_method_25_code
def yX7_set : MethodName := ⟨RX7, "set", "(IIII)I"⟩
abbrev cX7_turn : ByteArray := prog_9_method_26_code
def yX7_turn : MethodName := ⟨RX7, "turn", "(III)I"⟩
abbrev cX7_isUnder : ByteArray := prog_9_method_27_code
def yX7_isUnder : MethodName := ⟨RX7, "isUnder", "(II)Z"⟩
abbrev cX7_as : ByteArray := prog_9_method_28_code
def yX7_as : MethodName := ⟨RX7, "as", "(III)I"⟩
abbrev cX7_swap : ByteArray := prog_9_method_29_code
def yX7_swap : MethodName := ⟨RX7, "swap", "(III)I"⟩
abbrev cX7_take : ByteArray := prog_9_method_30_code
def yX7_take : MethodName := ⟨RX7, "take", "(I)I"⟩
abbrev cX7_hangsAside : ByteArray := prog_9_method_31_code
def yX7_hangsAside : MethodName := ⟨RX7, "hangsAside", "(I)V"⟩
abbrev cX7_like : ByteArray := prog_9_method_32_code
def yX7_like : MethodName := ⟨RX7, "like", "(II)I"⟩
abbrev cX7_wind : ByteArray := prog_9_method_33_code
def yX7_wind : MethodName := ⟨RX7, "wind", "(I)I"⟩
abbrev cX7_garments : ByteArray := prog_9_method_34_code
def yX7_garments : MethodName := ⟨RX7, "garments", "()I"⟩
abbrev cX7_days : ByteArray := prog_9_method_35_code
def yX7_days : MethodName := ⟨RX7, "days", "(I)I"⟩
abbrev cX7_means : ByteArray := prog_9_method_36_code
def yX7_means : MethodName := ⟨RX7, "means", "(II)I"⟩
abbrev cX7_forget : ByteArray := prog_9_method_37_code
def yX7_forget : MethodName := ⟨RX7, "forget", "(I)I"⟩
abbrev cX7_number : ByteArray := prog_9_method_38_code
def yX7_number : MethodName := ⟨RX7, "number", "(I)I"⟩
abbrev cX7_orNone : ByteArray := prog_9_method_39_code
def yX7_orNone : MethodName := ⟨RX7, "orNone", "(I)I"⟩
abbrev cX7_read : ByteArray := prog_9_method_40_code
def yX7_read : MethodName := ⟨RX7, "read", "(I)I"⟩
abbrev cX7_apart : ByteArray := prog_9_method_41_code
def yX7_apart : MethodName := ⟨RX7, "apart", "()I"⟩
abbrev cX7_worth : ByteArray := prog_9_method_42_code
def yX7_worth : MethodName := ⟨RX7, "worth", "(I)I"⟩
abbrev cX7_worthIn : ByteArray := prog_9_method_43_code
def yX7_worthIn : MethodName := ⟨RX7, "worthIn", "(II)I"⟩
abbrev cX7_says : ByteArray := prog_9_method_44_code
def yX7_says : MethodName := ⟨RX7, "says", "(I)I"⟩
abbrev cX7_windsOf : ByteArray := prog_9_method_45_code
def yX7_windsOf : MethodName := ⟨RX7, "windsOf", "(II)I"⟩
abbrev cX7_winds : ByteArray := prog_9_method_46_code
def yX7_winds : MethodName := ⟨RX7, "winds", "(I)I"⟩
abbrev cX7_laysBut : ByteArray := prog_9_method_47_code
def yX7_laysBut : MethodName := ⟨RX7, "laysBut", "(II)V"⟩
abbrev cX7_lost : ByteArray := prog_9_method_48_code
def yX7_lost : MethodName := ⟨RX7, "lost", "(I)I"⟩
abbrev cX7_manyIn : ByteArray := prog_9_method_49_code
def yX7_manyIn : MethodName := ⟨RX7, "manyIn", "(I)I"⟩
abbrev cX7_fewestSet : ByteArray := prog_9_method_50_code
def yX7_fewestSet : MethodName := ⟨RX7, "fewestSet", "(II)I"⟩
abbrev cX7_fewest : ByteArray := prog_9_method_51_code
def yX7_fewest : MethodName := ⟨RX7, "fewest", "(II)I"⟩
abbrev cX7_which : ByteArray := prog_9_method_52_code
def yX7_which : MethodName := ⟨RX7, "which", "(II)I"⟩
abbrev cX7_more : ByteArray := prog_9_method_53_code
def yX7_more : MethodName := ⟨RX7, "more", "(II)I"⟩
abbrev cX7_beginsOrders : ByteArray := prog_9_method_54_code
def yX7_beginsOrders : MethodName := ⟨RX7, "beginsOrders", "(I)V"⟩
abbrev cX7_hasNext : ByteArray := prog_9_method_55_code
def yX7_hasNext : MethodName := ⟨RX7, "hasNext", "(I)Z"⟩
abbrev cX7_swapsOrder : ByteArray := prog_9_method_56_code
def yX7_swapsOrder : MethodName := ⟨RX7, "swapsOrder", "(II)V"⟩
abbrev cX7_laysOrder : ByteArray := prog_9_method_57_code
def yX7_laysOrder : MethodName := ⟨RX7, "laysOrder", "(I)V"⟩
abbrev cX7_orders : ByteArray := prog_9_method_58_code
def yX7_orders : MethodName := ⟨RX7, "orders", "(II)I"⟩
abbrev cX7_furthest : ByteArray := prog_9_method_59_code
def yX7_furthest : MethodName := ⟨RX7, "furthest", "(II)I"⟩
abbrev cX7_most : ByteArray := prog_9_method_60_code
def yX7_most : MethodName := ⟨RX7, "most", "(I)I"⟩
abbrev cX7_least : ByteArray := prog_9_method_61_code
def yX7_least : MethodName := ⟨RX7, "least", "(I)I"⟩
abbrev cX7_notesOrder : ByteArray := prog_9_method_62_code
def yX7_notesOrder : MethodName := ⟨RX7, "notesOrder", "()V"⟩
abbrev cX7_order : ByteArray := prog_9_method_63_code
def yX7_order : MethodName := ⟨RX7, "order", "(II)I"⟩
abbrev cX7_worths : ByteArray := prog_9_method_64_code
def yX7_worths : MethodName := ⟨RX7, "worths", "(I)I"⟩
abbrev cX7_can : ByteArray := prog_9_method_65_code
def yX7_can : MethodName := ⟨RX7, "can", "(I)I"⟩
abbrev cX7_join : ByteArray := prog_9_method_66_code
def yX7_join : MethodName := ⟨RX7, "join", "(II)I"⟩
abbrev cX7_same : ByteArray := prog_9_method_67_code
def yX7_same : MethodName := ⟨RX7, "same", "(II)I"⟩
abbrev cX7_best : ByteArray := prog_9_method_68_code
def yX7_best : MethodName := ⟨RX7, "best", "(I)I"⟩
abbrev cX7_feed : ByteArray := prog_9_method_69_code
def yX7_feed : MethodName := ⟨RX7, "feed", "(II)I"⟩
abbrev cX7_wipe : ByteArray := prog_9_method_70_code
def yX7_wipe : MethodName := ⟨RX7, "wipe", "()I"⟩
abbrev cX7_isLetter : ByteArray := prog_9_method_71_code
def yX7_isLetter : MethodName := ⟨RX7, "isLetter", "(I)Z"⟩
abbrev cX7_isDigit : ByteArray := prog_9_method_72_code
def yX7_isDigit : MethodName := ⟨RX7, "isDigit", "(I)Z"⟩
abbrev cX7_byteAt : ByteArray := prog_9_method_73_code
def yX7_byteAt : MethodName := ⟨RX7, "byteAt", "(I)I"⟩
abbrev cX7_nextToken : ByteArray := prog_9_method_74_code
def yX7_nextToken : MethodName := ⟨RX7, "nextToken", "()V"⟩
abbrev cX7_has3 : ByteArray := prog_9_method_75_code
def yX7_has3 : MethodName := ⟨RX7, "has3", "(IIII)Z"⟩
abbrev cX7_isWord : ByteArray := prog_9_method_76_code
def yX7_isWord : MethodName := ⟨RX7, "isWord", "(I)Z"⟩
abbrev cX7_fails : ByteArray := prog_9_method_77_code
def yX7_fails : MethodName := ⟨RX7, "fails", "()Z"⟩
abbrev cX7_isFour : ByteArray := prog_9_method_78_code
def yX7_isFour : MethodName := ⟨RX7, "isFour", "(IIII)Z"⟩
abbrev cX7_isFive : ByteArray := prog_9_method_79_code
def yX7_isFive : MethodName := ⟨RX7, "isFive", "(IIIII)Z"⟩
abbrev cX7_isSix : ByteArray := prog_9_method_80_code
def yX7_isSix : MethodName := ⟨RX7, "isSix", "(IIIIII)Z"⟩
abbrev cX7_kindHere : ByteArray := prog_9_method_81_code
def yX7_kindHere : MethodName := ⟨RX7, "kindHere", "()I"⟩
abbrev cX7_isNumber : ByteArray := prog_9_method_82_code
def yX7_isNumber : MethodName := ⟨RX7, "isNumber", "(II)Z"⟩
abbrev cX7_garmentHere : ByteArray := prog_9_method_83_code
def yX7_garmentHere : MethodName := ⟨RX7, "garmentHere", "(I)Z"⟩
abbrev cX7_lineHere : ByteArray := prog_9_method_84_code
def yX7_lineHere : MethodName := ⟨RX7, "lineHere", "()Z"⟩
abbrev cX7_windHere : ByteArray := prog_9_method_85_code
def yX7_windHere : MethodName := ⟨RX7, "windHere", "()Z"⟩
abbrev cX7_meaningHere : ByteArray := prog_9_method_86_code
def yX7_meaningHere : MethodName := ⟨RX7, "meaningHere", "()Z"⟩
abbrev cX7_forgetHere : ByteArray := prog_9_method_87_code
def yX7_forgetHere : MethodName := ⟨RX7, "forgetHere", "()Z"⟩
abbrev cX7_itemHere : ByteArray := prog_9_method_88_code
def yX7_itemHere : MethodName := ⟨RX7, "itemHere", "()Z"⟩
abbrev cX7_town : ByteArray := prog_9_method_89_code
def yX7_town : MethodName := ⟨RX7, "town", "()I"⟩
abbrev cX7_isSheet : ByteArray := prog_9_method_90_code
def yX7_isSheet : MethodName := ⟨RX7, "isSheet", "(I)Z"⟩
abbrev cX7_narrow : ByteArray := prog_9_method_91_code
def yX7_narrow : MethodName := ⟨RX7, "narrow", "(IJ)J"⟩
abbrev cX7_sheet : ByteArray := prog_9_method_92_code
def yX7_sheet : MethodName := ⟨RX7, "sheet", "(III)I"⟩
abbrev cX7_write : ByteArray := prog_9_method_93_code
def yX7_write : MethodName := ⟨RX7, "write", "(IIJ)J"⟩
abbrev cX7_copy : ByteArray := prog_9_method_94_code
def yX7_copy : MethodName := ⟨RX7, "copy", "(IIIII)I"⟩
abbrev cX7_wants : ByteArray := prog_9_method_95_code
def yX7_wants : MethodName := ⟨RX7, "wants", "(I)I"⟩
abbrev cX7_lays_ : ByteArray := prog_9_method_96_code
def yX7_lays_ : MethodName := ⟨RX7, "lays", "(II)I"⟩
abbrev cX7_show : ByteArray := prog_9_method_97_code
def yX7_show : MethodName := ⟨RX7, "show", "(II)I"⟩
abbrev cX7_check : ByteArray := prog_9_method_98_code
def yX7_check : MethodName := ⟨RX7, "check", "(II)I"⟩
abbrev cX7_image : ByteArray := prog_9_method_99_code
def yX7_image : MethodName := ⟨RX7, "image", "()I"⟩
abbrev cX7_undo : ByteArray := prog_9_method_100_code
def yX7_undo : MethodName := ⟨RX7, "undo", "()I"⟩
abbrev cX7_tear : ByteArray := prog_9_method_101_code
def yX7_tear : MethodName := ⟨RX7, "tear", "()I"⟩
abbrev cX7_count : ByteArray := prog_9_method_102_code
def yX7_count : MethodName := ⟨RX7, "count", "(I)I"⟩
abbrev cX7_status : ByteArray := prog_9_method_103_code
def yX7_status : MethodName := ⟨RX7, "status", "(I)I"⟩
def RJx145de : String := "java/io/Serializable"
def TJx145de : u_T := fun k => match k with
  | _ => ("", "", "", false)
def tyJx145de : Nat → FieldType := fun k => match k with
  | _ => .int
abbrev wsJx145de0 : List Cond := u_ws RJx145de TJx145de 0
theorem nmJx145de : ∀ a, a < 0 → ∀ b, b < 0 → a ≠ b → (TJx145de a).2.1 ≠ (TJx145de b).2.1 := by decide +kernel
theorem tyJx145de_ok : ∀ k, k < 0 → parseFieldDescriptor (TJx145de k).2.2.1 = some (tyJx145de k) := by decide +kernel
def RJx9f9b0 : String := "java/lang/CharSequence"
def TJx9f9b0 : u_T := fun k => match k with
  | _ => ("", "", "", false)
def tyJx9f9b0 : Nat → FieldType := fun k => match k with
  | _ => .int
abbrev wsJx9f9b00 : List Cond := u_ws RJx9f9b0 TJx9f9b0 0
theorem nmJx9f9b0 : ∀ a, a < 0 → ∀ b, b < 0 → a ≠ b → (TJx9f9b0 a).2.1 ≠ (TJx9f9b0 b).2.1 := by decide +kernel
theorem tyJx9f9b0_ok : ∀ k, k < 0 → parseFieldDescriptor (TJx9f9b0 k).2.2.1 = some (tyJx9f9b0 k) := by decide +kernel
def RJxb160c : String := "java/lang/Comparable"
def TJxb160c : u_T := fun k => match k with
  | _ => ("", "", "", false)
def tyJxb160c : Nat → FieldType := fun k => match k with
  | _ => .int
abbrev wsJxb160c0 : List Cond := u_ws RJxb160c TJxb160c 0
theorem nmJxb160c : ∀ a, a < 0 → ∀ b, b < 0 → a ≠ b → (TJxb160c a).2.1 ≠ (TJxb160c b).2.1 := by decide +kernel
theorem tyJxb160c_ok : ∀ k, k < 0 → parseFieldDescriptor (TJxb160c k).2.2.1 = some (tyJxb160c k) := by decide +kernel
def RJ6 : String := "java/lang/Integer"
def TJ6 : u_T := fun k => match k with
  | _ => ("", "", "", false)
def tyJ6 : Nat → FieldType := fun k => match k with
  | _ => .int
abbrev wsJ60 : List Cond := u_ws RJ6 TJ6 0
theorem nmJ6 : ∀ a, a < 0 → ∀ b, b < 0 → a ≠ b → (TJ6 a).2.1 ≠ (TJ6 b).2.1 := by decide +kernel
theorem tyJ6_ok : ∀ k, k < 0 → parseFieldDescriptor (TJ6 k).2.2.1 = some (tyJ6 k) := by decide +kernel
abbrev cJ6_bitCount_0f7a4 : ByteArray := prog_10_method_49_code
def yJ6_bitCount_0f7a4 : MethodName := ⟨RJ6, "bitCount", "(I)I"⟩
def RJ13 : String := "java/lang/Long"
def TJ13 : u_T := fun k => match k with
  | _ => ("", "", "", false)
def tyJ13 : Nat → FieldType := fun k => match k with
  | _ => .int
abbrev wsJ130 : List Cond := u_ws RJ13 TJ13 0
theorem nmJ13 : ∀ a, a < 0 → ∀ b, b < 0 → a ≠ b → (TJ13 a).2.1 ≠ (TJ13 b).2.1 := by decide +kernel
theorem tyJ13_ok : ∀ k, k < 0 → parseFieldDescriptor (TJ13 k).2.2.1 = some (tyJ13 k) := by decide +kernel
abbrev cJ13_bitCount_95d88 : ByteArray := prog_11_method_50_code
def yJ13_bitCount_95d88 : MethodName := ⟨RJ13, "bitCount", "(J)I"⟩
def RJ9 : String := "java/lang/Math"
def TJ9 : u_T := fun k => match k with
  | _ => ("", "", "", false)
def tyJ9 : Nat → FieldType := fun k => match k with
  | _ => .int
abbrev wsJ90 : List Cond := u_ws RJ9 TJ9 0
theorem nmJ9 : ∀ a, a < 0 → ∀ b, b < 0 → a ≠ b → (TJ9 a).2.1 ≠ (TJ9 b).2.1 := by decide +kernel
theorem tyJ9_ok : ∀ k, k < 0 → parseFieldDescriptor (TJ9 k).2.2.1 = some (tyJ9 k) := by decide +kernel
abbrev cJ9_abs_0f7a4 : ByteArray := prog_12_method_59_code
def yJ9_abs_0f7a4 : MethodName := ⟨RJ9, "abs", "(I)I"⟩
abbrev cJ9_max_7cf53 : ByteArray := prog_12_method_65_code
def yJ9_max_7cf53 : MethodName := ⟨RJ9, "max", "(II)I"⟩
abbrev cJ9_min_7cf53 : ByteArray := prog_12_method_69_code
def yJ9_min_7cf53 : MethodName := ⟨RJ9, "min", "(II)I"⟩
def RJ0 : String := "java/lang/String"
def TJ0 : u_T := fun k => match k with
  | _ => ("", "", "", false)
def tyJ0 : Nat → FieldType := fun k => match k with
  | _ => .int
abbrev wsJ00 : List Cond := u_ws RJ0 TJ0 0
theorem nmJ0 : ∀ a, a < 0 → ∀ b, b < 0 → a ≠ b → (TJ0 a).2.1 ≠ (TJ0 b).2.1 := by decide +kernel
theorem tyJ0_ok : ∀ k, k < 0 → parseFieldDescriptor (TJ0 k).2.2.1 = some (tyJ0 k) := by decide +kernel
abbrev cJ0_length_8abf5 : ByteArray := prog_13_method_54_code
def yJ0_length_8abf5 : MethodName := ⟨RJ0, "length", "()I"⟩
abbrev cJ0_charAt_5068e : ByteArray := prog_13_method_56_code
def yJ0_charAt_5068e : MethodName := ⟨RJ0, "charAt", "(I)C"⟩
abbrev cJ0_coder_7d493 : ByteArray := prog_13_method_152_code
def yJ0_coder_7d493 : MethodName := ⟨RJ0, "coder", "()B"⟩
abbrev cJ0_isLatin1_aae02 : ByteArray := prog_13_method_154_code
def yJ0_isLatin1_aae02 : MethodName := ⟨RJ0, "isLatin1", "()Z"⟩
abbrev cJ0_checkIndex_df160 : ByteArray := prog_13_method_155_code
def yJ0_checkIndex_df160 : MethodName := ⟨RJ0, "checkIndex", "(II)V"⟩
def RJ1 : String := "java/lang/StringLatin1"
def TJ1 : u_T := fun k => match k with
  | _ => ("", "", "", false)
def tyJ1 : Nat → FieldType := fun k => match k with
  | _ => .int
abbrev wsJ10 : List Cond := u_ws RJ1 TJ1 0
theorem nmJ1 : ∀ a, a < 0 → ∀ b, b < 0 → a ≠ b → (TJ1 a).2.1 ≠ (TJ1 b).2.1 := by decide +kernel
theorem tyJ1_ok : ∀ k, k < 0 → parseFieldDescriptor (TJ1 k).2.2.1 = some (tyJ1 k) := by decide +kernel
abbrev cJ1_charAt_3b067 : ByteArray := prog_14_method_2_code
def yJ1_charAt_3b067 : MethodName := ⟨RJ1, "charAt", "([BI)C"⟩
def RJ2 : String := "java/lang/StringUTF16"
def TJ2 : u_T := fun k => match k with
  | _ => ("", "", "", false)
def tyJ2 : Nat → FieldType := fun k => match k with
  | _ => .int
abbrev wsJ20 : List Cond := u_ws RJ2 TJ2 0
theorem nmJ2 : ∀ a, a < 0 → ∀ b, b < 0 → a ≠ b → (TJ2 a).2.1 ≠ (TJ2 b).2.1 := by decide +kernel
theorem tyJ2_ok : ∀ k, k < 0 → parseFieldDescriptor (TJ2 k).2.2.1 = some (tyJ2 k) := by decide +kernel
abbrev cJ2_getChar_3b067 : ByteArray := prog_15_method_5_code
def yJ2_getChar_3b067 : MethodName := ⟨RJ2, "getChar", "([BI)C"⟩
abbrev cJ2_length_9d52b : ByteArray := prog_15_method_6_code
def yJ2_length_9d52b : MethodName := ⟨RJ2, "length", "([B)I"⟩
abbrev cJ2_charAt_3b067 : ByteArray := prog_15_method_83_code
def yJ2_charAt_3b067 : MethodName := ⟨RJ2, "charAt", "([BI)C"⟩
abbrev cJ2_checkIndex_2214a : ByteArray := prog_15_method_91_code
def yJ2_checkIndex_2214a : MethodName := ⟨RJ2, "checkIndex", "(I[B)V"⟩
def RJ10 : String := "java/lang/System"
def TJ10 : u_T := fun k => match k with
  | _ => ("", "", "", false)
def tyJ10 : Nat → FieldType := fun k => match k with
  | _ => .int
abbrev wsJ100 : List Cond := u_ws RJ10 TJ10 0
theorem nmJ10 : ∀ a, a < 0 → ∀ b, b < 0 → a ≠ b → (TJ10 a).2.1 ≠ (TJ10 b).2.1 := by decide +kernel
theorem tyJ10_ok : ∀ k, k < 0 → parseFieldDescriptor (TJ10 k).2.2.1 = some (tyJ10 k) := by decide +kernel
def RJxfd54e : String := "java/lang/constant/Constable"
def TJxfd54e : u_T := fun k => match k with
  | _ => ("", "", "", false)
def tyJxfd54e : Nat → FieldType := fun k => match k with
  | _ => .int
abbrev wsJxfd54e0 : List Cond := u_ws RJxfd54e TJxfd54e 0
theorem nmJxfd54e : ∀ a, a < 0 → ∀ b, b < 0 → a ≠ b → (TJxfd54e a).2.1 ≠ (TJxfd54e b).2.1 := by decide +kernel
theorem tyJxfd54e_ok : ∀ k, k < 0 → parseFieldDescriptor (TJxfd54e k).2.2.1 = some (tyJxfd54e k) := by decide +kernel
def RJx3cf43 : String := "java/lang/constant/ConstantDesc"
def TJx3cf43 : u_T := fun k => match k with
  | _ => ("", "", "", false)
def tyJx3cf43 : Nat → FieldType := fun k => match k with
  | _ => .int
abbrev wsJx3cf430 : List Cond := u_ws RJx3cf43 TJx3cf43 0
theorem nmJx3cf43 : ∀ a, a < 0 → ∀ b, b < 0 → a ≠ b → (TJx3cf43 a).2.1 ≠ (TJx3cf43 b).2.1 := by decide +kernel
theorem tyJx3cf43_ok : ∀ k, k < 0 → parseFieldDescriptor (TJx3cf43 k).2.2.1 = some (tyJx3cf43 k) := by decide +kernel
def RJ7 : String := "java/util/Arrays"
def TJ7 : u_T := fun k => match k with
  | _ => ("", "", "", false)
def tyJ7 : Nat → FieldType := fun k => match k with
  | _ => .int
abbrev wsJ70 : List Cond := u_ws RJ7 TJ7 0
theorem nmJ7 : ∀ a, a < 0 → ∀ b, b < 0 → a ≠ b → (TJ7 a).2.1 ≠ (TJ7 b).2.1 := by decide +kernel
theorem tyJ7_ok : ∀ k, k < 0 → parseFieldDescriptor (TJ7 k).2.2.1 = some (tyJ7 k) := by decide +kernel
abbrev cJ7_fill_d0a16 : ByteArray := prog_17_method_101_code
def yJ7_fill_d0a16 : MethodName := ⟨RJ7, "fill", "([JJ)V"⟩
abbrev cJ7_fill_53178 : ByteArray := prog_17_method_103_code
def yJ7_fill_53178 : MethodName := ⟨RJ7, "fill", "([II)V"⟩
def RJ3 : String := "jdk/internal/util/Preconditions"
def TJ3 : u_T := fun k => match k with
  | _ => ("", "", "", false)
def tyJ3 : Nat → FieldType := fun k => match k with
  | _ => .int
abbrev wsJ30 : List Cond := u_ws RJ3 TJ3 0
theorem nmJ3 : ∀ a, a < 0 → ∀ b, b < 0 → a ≠ b → (TJ3 a).2.1 ≠ (TJ3 b).2.1 := by decide +kernel
theorem tyJ3_ok : ∀ k, k < 0 → parseFieldDescriptor (TJ3 k).2.2.1 = some (tyJ3 k) := by decide +kernel
abbrev cJ3_checkIndex_8e157 : ByteArray := prog_18_method_11_code
def yJ3_checkIndex_8e157 : MethodName := ⟨RJ3, "checkIndex", "(IILjava/util/function/BiFunction;)I"⟩
def RL : String := "LinenSignsLaw"
abbrev cL_law : ByteArray := code
def yL_law : MethodName := ⟨RL, "law", "([I)Z"⟩
abbrev vwCl : List vw_C := [(RX0, TX0, 16), (RX1, TX1, 4), (RX2, TX2, 3), (RX3, TX3, 6), (RX4, TX4, 4), (RX5, TX5, 3), (RX6, TX6, 9), (RX7, TX7, 21)]
