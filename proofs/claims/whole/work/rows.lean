section
-- ===== PART A: goes FIRST, ahead of the names: the tables' words, and 'selects' of the private methods out of them =====
/-- a private method of a class that the tables say can be made, by its rows of tables_1 -/
def lw_okq (q : MethodName × Nat) : Prop := (q.1.cls ≠ "java/lang/invoke/MethodHandle" ∧ q.1.cls ≠ "java/lang/invoke/VarHandle") ∧ Cond.instantiable q.1.cls q.2 ∈ tables_1 ∧ Cond.privateMethod q.1 ∈ tables_1 ∧ Cond.instanceMethod q.1 ∈ tables_1
theorem lw_p0 : lw_okq (⟨"DocumentBytes$Reader", "readSize", "(III)V"⟩, 6) := ⟨⟨by decide +kernel, by decide +kernel⟩, List.mem_of_getElem? (i := 111) (by decide +kernel), List.mem_of_getElem? (i := 189) (by decide +kernel), List.mem_of_getElem? (i := 190) (by decide +kernel)⟩
theorem lw_p1 : lw_okq (⟨"DocumentBytes$Reader", "refuse", "(II)V"⟩, 6) := ⟨⟨by decide +kernel, by decide +kernel⟩, List.mem_of_getElem? (i := 111) (by decide +kernel), List.mem_of_getElem? (i := 193) (by decide +kernel), List.mem_of_getElem? (i := 194) (by decide +kernel)⟩
theorem lw_p2 : lw_okq (⟨"DocumentBytes$Nodes", "cell", "([II)I"⟩, 9) := ⟨⟨by decide +kernel, by decide +kernel⟩, List.mem_of_getElem? (i := 76) (by decide +kernel), List.mem_of_getElem? (i := 210) (by decide +kernel), List.mem_of_getElem? (i := 211) (by decide +kernel)⟩
theorem lw_p3 : lw_okq (⟨"DocumentBytes$Reader", "readLastByte", "()V"⟩, 6) := ⟨⟨by decide +kernel, by decide +kernel⟩, List.mem_of_getElem? (i := 111) (by decide +kernel), List.mem_of_getElem? (i := 225) (by decide +kernel), List.mem_of_getElem? (i := 226) (by decide +kernel)⟩
theorem lw_p4 : lw_okq (⟨"DocumentBytes$Reader", "readElement", "(I)V"⟩, 6) := ⟨⟨by decide +kernel, by decide +kernel⟩, List.mem_of_getElem? (i := 111) (by decide +kernel), List.mem_of_getElem? (i := 234) (by decide +kernel), List.mem_of_getElem? (i := 235) (by decide +kernel)⟩
theorem lw_p5 : lw_okq (⟨"DocumentBytes$Reader", "readName", "(I)V"⟩, 6) := ⟨⟨by decide +kernel, by decide +kernel⟩, List.mem_of_getElem? (i := 111) (by decide +kernel), List.mem_of_getElem? (i := 245) (by decide +kernel), List.mem_of_getElem? (i := 246) (by decide +kernel)⟩
theorem lw_p6 : lw_okq (⟨"DocumentBytes$Reader", "readText", "(I)V"⟩, 6) := ⟨⟨by decide +kernel, by decide +kernel⟩, List.mem_of_getElem? (i := 111) (by decide +kernel), List.mem_of_getElem? (i := 296) (by decide +kernel), List.mem_of_getElem? (i := 297) (by decide +kernel)⟩
theorem lw_p7 : lw_okq (⟨"DocumentBytes$Reader", "readNumber", "(II)V"⟩, 6) := ⟨⟨by decide +kernel, by decide +kernel⟩, List.mem_of_getElem? (i := 111) (by decide +kernel), List.mem_of_getElem? (i := 300) (by decide +kernel), List.mem_of_getElem? (i := 301) (by decide +kernel)⟩
theorem lw_p8 : lw_okq (⟨"DocumentBytes", "hasNode", "(II)Z"⟩, 7) := ⟨⟨by decide +kernel, by decide +kernel⟩, List.mem_of_getElem? (i := 12) (by decide +kernel), List.mem_of_getElem? (i := 329) (by decide +kernel), List.mem_of_getElem? (i := 330) (by decide +kernel)⟩
theorem lw_p9 : lw_okq (⟨"DocumentBytes", "mayHold", "(II)Z"⟩, 7) := ⟨⟨by decide +kernel, by decide +kernel⟩, List.mem_of_getElem? (i := 12) (by decide +kernel), List.mem_of_getElem? (i := 413) (by decide +kernel), List.mem_of_getElem? (i := 414) (by decide +kernel)⟩
theorem lw_p10 : lw_okq (⟨"DocumentBytes", "addFromTape", "(IIIJII)I"⟩, 7) := ⟨⟨by decide +kernel, by decide +kernel⟩, List.mem_of_getElem? (i := 12) (by decide +kernel), List.mem_of_getElem? (i := 418) (by decide +kernel), List.mem_of_getElem? (i := 419) (by decide +kernel)⟩
theorem lw_p11 : lw_okq (⟨"DocumentBytes", "nameCountFits", "(II)Z"⟩, 7) := ⟨⟨by decide +kernel, by decide +kernel⟩, List.mem_of_getElem? (i := 12) (by decide +kernel), List.mem_of_getElem? (i := 426) (by decide +kernel), List.mem_of_getElem? (i := 427) (by decide +kernel)⟩
theorem lw_p12 : lw_okq (⟨"DocumentBytes", "insertFresh", "(IIIII)I"⟩, 7) := ⟨⟨by decide +kernel, by decide +kernel⟩, List.mem_of_getElem? (i := 12) (by decide +kernel), List.mem_of_getElem? (i := 437) (by decide +kernel), List.mem_of_getElem? (i := 438) (by decide +kernel)⟩
theorem lw_p13 : lw_okq (⟨"DocumentBytes", "isFreeName", "(II)Z"⟩, 7) := ⟨⟨by decide +kernel, by decide +kernel⟩, List.mem_of_getElem? (i := 12) (by decide +kernel), List.mem_of_getElem? (i := 441) (by decide +kernel), List.mem_of_getElem? (i := 442) (by decide +kernel)⟩
theorem lw_p14 : lw_okq (⟨"DocumentBytes", "writeFresh", "(LDocumentBytes$Bytes;III)V"⟩, 7) := ⟨⟨by decide +kernel, by decide +kernel⟩, List.mem_of_getElem? (i := 12) (by decide +kernel), List.mem_of_getElem? (i := 448) (by decide +kernel), List.mem_of_getElem? (i := 449) (by decide +kernel)⟩
theorem lw_p15 : lw_okq (⟨"DocumentBytes", "resizeUpwards", "(LDocumentBytes$Bytes;II)V"⟩, 7) := ⟨⟨by decide +kernel, by decide +kernel⟩, List.mem_of_getElem? (i := 12) (by decide +kernel), List.mem_of_getElem? (i := 460) (by decide +kernel), List.mem_of_getElem? (i := 461) (by decide +kernel)⟩
def lw_privs_1 : List (MethodName × Nat) := [(⟨"DocumentBytes$Reader", "readSize", "(III)V"⟩, 6), (⟨"DocumentBytes$Reader", "refuse", "(II)V"⟩, 6), (⟨"DocumentBytes$Nodes", "cell", "([II)I"⟩, 9), (⟨"DocumentBytes$Reader", "readLastByte", "()V"⟩, 6), (⟨"DocumentBytes$Reader", "readElement", "(I)V"⟩, 6), (⟨"DocumentBytes$Reader", "readName", "(I)V"⟩, 6), (⟨"DocumentBytes$Reader", "readText", "(I)V"⟩, 6), (⟨"DocumentBytes$Reader", "readNumber", "(II)V"⟩, 6), (⟨"DocumentBytes", "hasNode", "(II)Z"⟩, 7), (⟨"DocumentBytes", "mayHold", "(II)Z"⟩, 7), (⟨"DocumentBytes", "addFromTape", "(IIIJII)I"⟩, 7), (⟨"DocumentBytes", "nameCountFits", "(II)Z"⟩, 7), (⟨"DocumentBytes", "insertFresh", "(IIIII)I"⟩, 7), (⟨"DocumentBytes", "isFreeName", "(II)Z"⟩, 7), (⟨"DocumentBytes", "writeFresh", "(LDocumentBytes$Bytes;III)V"⟩, 7), (⟨"DocumentBytes", "resizeUpwards", "(LDocumentBytes$Bytes;II)V"⟩, 7)]
theorem lw_r1 : ∀ q ∈ lw_privs_1, lw_okq q := List.forall_mem_cons.mpr ⟨lw_p0, List.forall_mem_cons.mpr ⟨lw_p1, List.forall_mem_cons.mpr ⟨lw_p2, List.forall_mem_cons.mpr ⟨lw_p3, List.forall_mem_cons.mpr ⟨lw_p4, List.forall_mem_cons.mpr ⟨lw_p5, List.forall_mem_cons.mpr ⟨lw_p6, List.forall_mem_cons.mpr ⟨lw_p7, List.forall_mem_cons.mpr ⟨lw_p8, List.forall_mem_cons.mpr ⟨lw_p9, List.forall_mem_cons.mpr ⟨lw_p10, List.forall_mem_cons.mpr ⟨lw_p11, List.forall_mem_cons.mpr ⟨lw_p12, List.forall_mem_cons.mpr ⟨lw_p13, List.forall_mem_cons.mpr ⟨lw_p14, List.forall_mem_cons.mpr ⟨lw_p15, fun _ h => absurd h List.not_mem_nil⟩⟩⟩⟩⟩⟩⟩⟩⟩⟩⟩⟩⟩⟩⟩⟩
theorem lw_p16 : lw_okq (⟨"DocumentBytes", "renumberBehind", "(LDocumentBytes$Bytes;II)V"⟩, 7) := ⟨⟨by decide +kernel, by decide +kernel⟩, List.mem_of_getElem? (i := 12) (by decide +kernel), List.mem_of_getElem? (i := 483) (by decide +kernel), List.mem_of_getElem? (i := 484) (by decide +kernel)⟩
theorem lw_p17 : lw_okq (⟨"DocumentBytesModel", "put", "(I)V"⟩, 23) := ⟨⟨by decide +kernel, by decide +kernel⟩, List.mem_of_getElem? (i := 491) (by decide +kernel), List.mem_of_getElem? (i := 570) (by decide +kernel), List.mem_of_getElem? (i := 571) (by decide +kernel)⟩
theorem lw_p18 : lw_okq (⟨"DocumentBytesModel", "goOver", "(I)V"⟩, 23) := ⟨⟨by decide +kernel, by decide +kernel⟩, List.mem_of_getElem? (i := 491) (by decide +kernel), List.mem_of_getElem? (i := 581) (by decide +kernel), List.mem_of_getElem? (i := 582) (by decide +kernel)⟩
theorem lw_p19 : lw_okq (⟨"DocumentBytesModel", "opens", "(IIIIZ)Z"⟩, 23) := ⟨⟨by decide +kernel, by decide +kernel⟩, List.mem_of_getElem? (i := 491) (by decide +kernel), List.mem_of_getElem? (i := 585) (by decide +kernel), List.mem_of_getElem? (i := 586) (by decide +kernel)⟩
theorem lw_p20 : lw_okq (⟨"DocumentBytesModel", "stop", "(II)V"⟩, 23) := ⟨⟨by decide +kernel, by decide +kernel⟩, List.mem_of_getElem? (i := 491) (by decide +kernel), List.mem_of_getElem? (i := 589) (by decide +kernel), List.mem_of_getElem? (i := 590) (by decide +kernel)⟩
theorem lw_p21 : lw_okq (⟨"DocumentBytesModel", "low", "(II)J"⟩, 23) := ⟨⟨by decide +kernel, by decide +kernel⟩, List.mem_of_getElem? (i := 491) (by decide +kernel), List.mem_of_getElem? (i := 593) (by decide +kernel), List.mem_of_getElem? (i := 594) (by decide +kernel)⟩
theorem lw_p22 : lw_okq (⟨"DocumentBytesModel", "isKind", "(I)Z"⟩, 23) := ⟨⟨by decide +kernel, by decide +kernel⟩, List.mem_of_getElem? (i := 491) (by decide +kernel), List.mem_of_getElem? (i := 598) (by decide +kernel), List.mem_of_getElem? (i := 599) (by decide +kernel)⟩
theorem lw_p23 : lw_okq (⟨"DocumentBytesModel", "element", "(III)I"⟩, 23) := ⟨⟨by decide +kernel, by decide +kernel⟩, List.mem_of_getElem? (i := 491) (by decide +kernel), List.mem_of_getElem? (i := 602) (by decide +kernel), List.mem_of_getElem? (i := 603) (by decide +kernel)⟩
theorem lw_p24 : lw_okq (⟨"DocumentBytesModel", "isName", "(III)Z"⟩, 23) := ⟨⟨by decide +kernel, by decide +kernel⟩, List.mem_of_getElem? (i := 491) (by decide +kernel), List.mem_of_getElem? (i := 616) (by decide +kernel), List.mem_of_getElem? (i := 617) (by decide +kernel)⟩
theorem lw_p25 : lw_okq (⟨"DocumentBytesModel", "value", "(III)I"⟩, 23) := ⟨⟨by decide +kernel, by decide +kernel⟩, List.mem_of_getElem? (i := 491) (by decide +kernel), List.mem_of_getElem? (i := 629) (by decide +kernel), List.mem_of_getElem? (i := 630) (by decide +kernel)⟩
theorem lw_p26 : lw_okq (⟨"DocumentBytesModel", "text", "(II)I"⟩, 23) := ⟨⟨by decide +kernel, by decide +kernel⟩, List.mem_of_getElem? (i := 491) (by decide +kernel), List.mem_of_getElem? (i := 633) (by decide +kernel), List.mem_of_getElem? (i := 634) (by decide +kernel)⟩
theorem lw_p27 : lw_okq (⟨"DocumentBytesModel", "store", "(I)V"⟩, 23) := ⟨⟨by decide +kernel, by decide +kernel⟩, List.mem_of_getElem? (i := 491) (by decide +kernel), List.mem_of_getElem? (i := 637) (by decide +kernel), List.mem_of_getElem? (i := 638) (by decide +kernel)⟩
theorem lw_p28 : lw_okq (⟨"DocumentBytesModel", "load", "(I)V"⟩, 23) := ⟨⟨by decide +kernel, by decide +kernel⟩, List.mem_of_getElem? (i := 491) (by decide +kernel), List.mem_of_getElem? (i := 649) (by decide +kernel), List.mem_of_getElem? (i := 650) (by decide +kernel)⟩
theorem lw_p29 : lw_okq (⟨"DocumentBytesModel", "isNode", "(II)Z"⟩, 23) := ⟨⟨by decide +kernel, by decide +kernel⟩, List.mem_of_getElem? (i := 491) (by decide +kernel), List.mem_of_getElem? (i := 661) (by decide +kernel), List.mem_of_getElem? (i := 662) (by decide +kernel)⟩
theorem lw_p30 : lw_okq (⟨"DocumentBytesModel", "kindOf", "(I)I"⟩, 23) := ⟨⟨by decide +kernel, by decide +kernel⟩, List.mem_of_getElem? (i := 491) (by decide +kernel), List.mem_of_getElem? (i := 665) (by decide +kernel), List.mem_of_getElem? (i := 666) (by decide +kernel)⟩
theorem lw_p31 : lw_okq (⟨"DocumentBytesModel", "nextIn", "(II)I"⟩, 23) := ⟨⟨by decide +kernel, by decide +kernel⟩, List.mem_of_getElem? (i := 491) (by decide +kernel), List.mem_of_getElem? (i := 669) (by decide +kernel), List.mem_of_getElem? (i := 670) (by decide +kernel)⟩
def lw_privs_2 : List (MethodName × Nat) := [(⟨"DocumentBytes", "renumberBehind", "(LDocumentBytes$Bytes;II)V"⟩, 7), (⟨"DocumentBytesModel", "put", "(I)V"⟩, 23), (⟨"DocumentBytesModel", "goOver", "(I)V"⟩, 23), (⟨"DocumentBytesModel", "opens", "(IIIIZ)Z"⟩, 23), (⟨"DocumentBytesModel", "stop", "(II)V"⟩, 23), (⟨"DocumentBytesModel", "low", "(II)J"⟩, 23), (⟨"DocumentBytesModel", "isKind", "(I)Z"⟩, 23), (⟨"DocumentBytesModel", "element", "(III)I"⟩, 23), (⟨"DocumentBytesModel", "isName", "(III)Z"⟩, 23), (⟨"DocumentBytesModel", "value", "(III)I"⟩, 23), (⟨"DocumentBytesModel", "text", "(II)I"⟩, 23), (⟨"DocumentBytesModel", "store", "(I)V"⟩, 23), (⟨"DocumentBytesModel", "load", "(I)V"⟩, 23), (⟨"DocumentBytesModel", "isNode", "(II)Z"⟩, 23), (⟨"DocumentBytesModel", "kindOf", "(I)I"⟩, 23), (⟨"DocumentBytesModel", "nextIn", "(II)I"⟩, 23)]
theorem lw_r2 : ∀ q ∈ lw_privs_2, lw_okq q := List.forall_mem_cons.mpr ⟨lw_p16, List.forall_mem_cons.mpr ⟨lw_p17, List.forall_mem_cons.mpr ⟨lw_p18, List.forall_mem_cons.mpr ⟨lw_p19, List.forall_mem_cons.mpr ⟨lw_p20, List.forall_mem_cons.mpr ⟨lw_p21, List.forall_mem_cons.mpr ⟨lw_p22, List.forall_mem_cons.mpr ⟨lw_p23, List.forall_mem_cons.mpr ⟨lw_p24, List.forall_mem_cons.mpr ⟨lw_p25, List.forall_mem_cons.mpr ⟨lw_p26, List.forall_mem_cons.mpr ⟨lw_p27, List.forall_mem_cons.mpr ⟨lw_p28, List.forall_mem_cons.mpr ⟨lw_p29, List.forall_mem_cons.mpr ⟨lw_p30, List.forall_mem_cons.mpr ⟨lw_p31, fun _ h => absurd h List.not_mem_nil⟩⟩⟩⟩⟩⟩⟩⟩⟩⟩⟩⟩⟩⟩⟩⟩
theorem lw_p32 : lw_okq (⟨"DocumentBytesModel", "valueAt", "(I)I"⟩, 23) := ⟨⟨by decide +kernel, by decide +kernel⟩, List.mem_of_getElem? (i := 491) (by decide +kernel), List.mem_of_getElem? (i := 673) (by decide +kernel), List.mem_of_getElem? (i := 674) (by decide +kernel)⟩
theorem lw_p33 : lw_okq (⟨"DocumentBytesModel", "isBox", "(I)Z"⟩, 23) := ⟨⟨by decide +kernel, by decide +kernel⟩, List.mem_of_getElem? (i := 491) (by decide +kernel), List.mem_of_getElem? (i := 677) (by decide +kernel), List.mem_of_getElem? (i := 678) (by decide +kernel)⟩
theorem lw_p34 : lw_okq (⟨"DocumentBytesModel", "elements", "(I)I"⟩, 23) := ⟨⟨by decide +kernel, by decide +kernel⟩, List.mem_of_getElem? (i := 491) (by decide +kernel), List.mem_of_getElem? (i := 681) (by decide +kernel), List.mem_of_getElem? (i := 682) (by decide +kernel)⟩
theorem lw_p35 : lw_okq (⟨"DocumentBytesModel", "numberOf", "(I)J"⟩, 23) := ⟨⟨by decide +kernel, by decide +kernel⟩, List.mem_of_getElem? (i := 491) (by decide +kernel), List.mem_of_getElem? (i := 689) (by decide +kernel), List.mem_of_getElem? (i := 690) (by decide +kernel)⟩
theorem lw_p36 : lw_okq (⟨"DocumentBytesModel", "findName", "(II)I"⟩, 23) := ⟨⟨by decide +kernel, by decide +kernel⟩, List.mem_of_getElem? (i := 491) (by decide +kernel), List.mem_of_getElem? (i := 701) (by decide +kernel), List.mem_of_getElem? (i := 702) (by decide +kernel)⟩
theorem lw_p37 : lw_okq (⟨"DocumentBytesModel", "canBe", "(IIJII)Z"⟩, 23) := ⟨⟨by decide +kernel, by decide +kernel⟩, List.mem_of_getElem? (i := 491) (by decide +kernel), List.mem_of_getElem? (i := 709) (by decide +kernel), List.mem_of_getElem? (i := 710) (by decide +kernel)⟩
theorem lw_p38 : lw_okq (⟨"DocumentBytesModel", "isNameFree", "(II)Z"⟩, 23) := ⟨⟨by decide +kernel, by decide +kernel⟩, List.mem_of_getElem? (i := 491) (by decide +kernel), List.mem_of_getElem? (i := 715) (by decide +kernel), List.mem_of_getElem? (i := 716) (by decide +kernel)⟩
theorem lw_p39 : lw_okq (⟨"DocumentBytesModel", "writeHead", "(III)V"⟩, 23) := ⟨⟨by decide +kernel, by decide +kernel⟩, List.mem_of_getElem? (i := 491) (by decide +kernel), List.mem_of_getElem? (i := 719) (by decide +kernel), List.mem_of_getElem? (i := 720) (by decide +kernel)⟩
theorem lw_p40 : lw_okq (⟨"DocumentBytesModel", "write", "(I)V"⟩, 23) := ⟨⟨by decide +kernel, by decide +kernel⟩, List.mem_of_getElem? (i := 491) (by decide +kernel), List.mem_of_getElem? (i := 723) (by decide +kernel), List.mem_of_getElem? (i := 724) (by decide +kernel)⟩
theorem lw_p41 : lw_okq (⟨"DocumentBytesModel", "writeLow", "(JI)V"⟩, 23) := ⟨⟨by decide +kernel, by decide +kernel⟩, List.mem_of_getElem? (i := 491) (by decide +kernel), List.mem_of_getElem? (i := 727) (by decide +kernel), List.mem_of_getElem? (i := 728) (by decide +kernel)⟩
theorem lw_p42 : lw_okq (⟨"DocumentBytesModel", "insert", "(II)I"⟩, 23) := ⟨⟨by decide +kernel, by decide +kernel⟩, List.mem_of_getElem? (i := 491) (by decide +kernel), List.mem_of_getElem? (i := 732) (by decide +kernel), List.mem_of_getElem? (i := 733) (by decide +kernel)⟩
theorem lw_p43 : lw_okq (⟨"DocumentBytesModel", "lastOf", "(I)I"⟩, 23) := ⟨⟨by decide +kernel, by decide +kernel⟩, List.mem_of_getElem? (i := 491) (by decide +kernel), List.mem_of_getElem? (i := 736) (by decide +kernel), List.mem_of_getElem? (i := 737) (by decide +kernel)⟩
theorem lw_p44 : lw_okq (⟨"DocumentBytesModel", "splice", "(III)V"⟩, 23) := ⟨⟨by decide +kernel, by decide +kernel⟩, List.mem_of_getElem? (i := 491) (by decide +kernel), List.mem_of_getElem? (i := 740) (by decide +kernel), List.mem_of_getElem? (i := 741) (by decide +kernel)⟩
theorem lw_p45 : lw_okq (⟨"DocumentBytesModel", "putLow", "(IJ)V"⟩, 23) := ⟨⟨by decide +kernel, by decide +kernel⟩, List.mem_of_getElem? (i := 491) (by decide +kernel), List.mem_of_getElem? (i := 744) (by decide +kernel), List.mem_of_getElem? (i := 745) (by decide +kernel)⟩
theorem lw_p46 : lw_okq (⟨"DocumentBytesModel", "deepIn", "(I)I"⟩, 23) := ⟨⟨by decide +kernel, by decide +kernel⟩, List.mem_of_getElem? (i := 491) (by decide +kernel), List.mem_of_getElem? (i := 752) (by decide +kernel), List.mem_of_getElem? (i := 753) (by decide +kernel)⟩
theorem lw_p47 : lw_okq (⟨"DocumentBytesModel", "renumber", "()V"⟩, 23) := ⟨⟨by decide +kernel, by decide +kernel⟩, List.mem_of_getElem? (i := 491) (by decide +kernel), List.mem_of_getElem? (i := 764) (by decide +kernel), List.mem_of_getElem? (i := 765) (by decide +kernel)⟩
def lw_privs_3 : List (MethodName × Nat) := [(⟨"DocumentBytesModel", "valueAt", "(I)I"⟩, 23), (⟨"DocumentBytesModel", "isBox", "(I)Z"⟩, 23), (⟨"DocumentBytesModel", "elements", "(I)I"⟩, 23), (⟨"DocumentBytesModel", "numberOf", "(I)J"⟩, 23), (⟨"DocumentBytesModel", "findName", "(II)I"⟩, 23), (⟨"DocumentBytesModel", "canBe", "(IIJII)Z"⟩, 23), (⟨"DocumentBytesModel", "isNameFree", "(II)Z"⟩, 23), (⟨"DocumentBytesModel", "writeHead", "(III)V"⟩, 23), (⟨"DocumentBytesModel", "write", "(I)V"⟩, 23), (⟨"DocumentBytesModel", "writeLow", "(JI)V"⟩, 23), (⟨"DocumentBytesModel", "insert", "(II)I"⟩, 23), (⟨"DocumentBytesModel", "lastOf", "(I)I"⟩, 23), (⟨"DocumentBytesModel", "splice", "(III)V"⟩, 23), (⟨"DocumentBytesModel", "putLow", "(IJ)V"⟩, 23), (⟨"DocumentBytesModel", "deepIn", "(I)I"⟩, 23), (⟨"DocumentBytesModel", "renumber", "()V"⟩, 23)]
theorem lw_r3 : ∀ q ∈ lw_privs_3, lw_okq q := List.forall_mem_cons.mpr ⟨lw_p32, List.forall_mem_cons.mpr ⟨lw_p33, List.forall_mem_cons.mpr ⟨lw_p34, List.forall_mem_cons.mpr ⟨lw_p35, List.forall_mem_cons.mpr ⟨lw_p36, List.forall_mem_cons.mpr ⟨lw_p37, List.forall_mem_cons.mpr ⟨lw_p38, List.forall_mem_cons.mpr ⟨lw_p39, List.forall_mem_cons.mpr ⟨lw_p40, List.forall_mem_cons.mpr ⟨lw_p41, List.forall_mem_cons.mpr ⟨lw_p42, List.forall_mem_cons.mpr ⟨lw_p43, List.forall_mem_cons.mpr ⟨lw_p44, List.forall_mem_cons.mpr ⟨lw_p45, List.forall_mem_cons.mpr ⟨lw_p46, List.forall_mem_cons.mpr ⟨lw_p47, fun _ h => absurd h List.not_mem_nil⟩⟩⟩⟩⟩⟩⟩⟩⟩⟩⟩⟩⟩⟩⟩⟩
theorem lw_p48 : lw_okq (⟨"DocumentBytesModel", "goOverAgain", "()V"⟩, 23) := ⟨⟨by decide +kernel, by decide +kernel⟩, List.mem_of_getElem? (i := 491) (by decide +kernel), List.mem_of_getElem? (i := 768) (by decide +kernel), List.mem_of_getElem? (i := 769) (by decide +kernel)⟩
theorem lw_p49 : lw_okq (⟨"DocumentBytesModel", "itemOf", "(II)I"⟩, 23) := ⟨⟨by decide +kernel, by decide +kernel⟩, List.mem_of_getElem? (i := 491) (by decide +kernel), List.mem_of_getElem? (i := 772) (by decide +kernel), List.mem_of_getElem? (i := 773) (by decide +kernel)⟩
def lw_privs_4 : List (MethodName × Nat) := [(⟨"DocumentBytesModel", "goOverAgain", "()V"⟩, 23), (⟨"DocumentBytesModel", "itemOf", "(II)I"⟩, 23)]
theorem lw_r4 : ∀ q ∈ lw_privs_4, lw_okq q := List.forall_mem_cons.mpr ⟨lw_p48, List.forall_mem_cons.mpr ⟨lw_p49, fun _ h => absurd h List.not_mem_nil⟩⟩
def lw_privs : List (MethodName × Nat) := lw_privs_1 ++ (lw_privs_2 ++ (lw_privs_3 ++ (lw_privs_4)))
def lw_tbl : List Cond := k2_sels lw_privs ++ tables_1
theorem lw_privs_ok : ∀ q ∈ lw_privs, lw_okq q := by
  show ∀ q ∈ lw_privs_1 ++ (lw_privs_2 ++ (lw_privs_3 ++ (lw_privs_4))), lw_okq q
  exact List.forall_mem_append.mpr ⟨lw_r1, List.forall_mem_append.mpr ⟨lw_r2, List.forall_mem_append.mpr ⟨lw_r3, lw_r4⟩⟩⟩
end
section
/-! the words of the tables, by their places; wA: those that go on to callees -/
def wA : List Cond := lw_tbl.filter goodWord
theorem wA_of {w : Cond} (h : w ∈ lw_tbl) (g : goodWord w = true) : w ∈ wA := List.mem_filter.mpr ⟨h, g⟩
theorem wA_in {w : Cond} (h : w ∈ wA) : w ∈ lw_tbl := (List.mem_filter.mp h).1
theorem wA_good : GoodIn wA wA := fun w h => ⟨h, good_of_word (List.mem_filter.mp h).2⟩
theorem gW {c : Cond} (h : c ∈ wA) : GoodIn wA (c :: wA) := fun w hw => (List.mem_cons.mp hw).elim (fun e => by rw [e]; exact wA_good c h) (wA_good w)
theorem gA {a b : List Cond} (ha : GoodIn wA a) (hb : GoodIn wA b) : GoodIn wA (a ++ b) := fun w h => (List.mem_append.mp h).elim (ha w) (hb w)
theorem g1 {c : Cond} (h : c ∈ wA) : GoodIn wA [c] := fun w hw => by rw [List.mem_singleton.mp hw]; exact wA_good c h
theorem gV {own C : String} {idx : Nat} {y : MethodName} {c : Cond} (h1 : Cond.methodLink own idx y ∈ wA) (h2 : Cond.instanceMethod y ∈ wA) (h3 : Cond.selects C y y ∈ wA) (h4 : Cond.initialized C ∈ wA) (h5 : c ∈ wA) : GoodIn wA (wsV own idx C y (c :: wA)) := gA (gA (g1 h1) (gA (g1 h2) (gA (g1 h3) (g1 h4)))) (gW h5)
theorem gS {own : String} {idx : Nat} {y : MethodName} {c : Cond} (h1 : Cond.methodLink own idx y ∈ wA) (h2 : Cond.static y ∈ wA) (h3 : Cond.initialized own ∈ wA) (h5 : c ∈ wA) : GoodIn wA (wsS own idx y (c :: wA)) := gA (gA (g1 h1) (gA (g1 h2) (g1 h3))) (gW h5)
theorem gT {own : String} {idx : Nat} {y : MethodName} {c : Cond} (h1 : Cond.methodLink own idx y ∈ wA) (h2 : Cond.static y ∈ wA) (h3 : Cond.initialized y.cls ∈ wA) (h5 : c ∈ wA) : GoodIn wA (va_wsS own idx y (c :: wA)) := gA (gA (g1 h1) (gA (g1 h2) (g1 h3))) (gW h5)
theorem m_0 : (Jvm.Cond.selects "DocumentBytes$Reader" ({ cls := "DocumentBytes$Reader", name := "readSize", desc := "(III)V" } : Jvm.MethodName) ({ cls := "DocumentBytes$Reader", name := "readSize", desc := "(III)V" } : Jvm.MethodName)) ∈ wA := wA_of (List.mem_of_getElem? (i := 0) (by decide +kernel)) (by decide +kernel)
theorem m_1 : (Jvm.Cond.selects "DocumentBytes$Reader" ({ cls := "DocumentBytes$Reader", name := "refuse", desc := "(II)V" } : Jvm.MethodName) ({ cls := "DocumentBytes$Reader", name := "refuse", desc := "(II)V" } : Jvm.MethodName)) ∈ wA := wA_of (List.mem_of_getElem? (i := 1) (by decide +kernel)) (by decide +kernel)
theorem m_2 : (Jvm.Cond.selects "DocumentBytes$Nodes" ({ cls := "DocumentBytes$Nodes", name := "cell", desc := "([II)I" } : Jvm.MethodName) ({ cls := "DocumentBytes$Nodes", name := "cell", desc := "([II)I" } : Jvm.MethodName)) ∈ wA := wA_of (List.mem_of_getElem? (i := 2) (by decide +kernel)) (by decide +kernel)
theorem m_3 : (Jvm.Cond.selects "DocumentBytes$Reader" ({ cls := "DocumentBytes$Reader", name := "readLastByte", desc := "()V" } : Jvm.MethodName) ({ cls := "DocumentBytes$Reader", name := "readLastByte", desc := "()V" } : Jvm.MethodName)) ∈ wA := wA_of (List.mem_of_getElem? (i := 3) (by decide +kernel)) (by decide +kernel)
theorem m_4 : (Jvm.Cond.selects "DocumentBytes$Reader" ({ cls := "DocumentBytes$Reader", name := "readElement", desc := "(I)V" } : Jvm.MethodName) ({ cls := "DocumentBytes$Reader", name := "readElement", desc := "(I)V" } : Jvm.MethodName)) ∈ wA := wA_of (List.mem_of_getElem? (i := 4) (by decide +kernel)) (by decide +kernel)
theorem m_5 : (Jvm.Cond.selects "DocumentBytes$Reader" ({ cls := "DocumentBytes$Reader", name := "readName", desc := "(I)V" } : Jvm.MethodName) ({ cls := "DocumentBytes$Reader", name := "readName", desc := "(I)V" } : Jvm.MethodName)) ∈ wA := wA_of (List.mem_of_getElem? (i := 5) (by decide +kernel)) (by decide +kernel)
theorem m_6 : (Jvm.Cond.selects "DocumentBytes$Reader" ({ cls := "DocumentBytes$Reader", name := "readText", desc := "(I)V" } : Jvm.MethodName) ({ cls := "DocumentBytes$Reader", name := "readText", desc := "(I)V" } : Jvm.MethodName)) ∈ wA := wA_of (List.mem_of_getElem? (i := 6) (by decide +kernel)) (by decide +kernel)
theorem m_7 : (Jvm.Cond.selects "DocumentBytes$Reader" ({ cls := "DocumentBytes$Reader", name := "readNumber", desc := "(II)V" } : Jvm.MethodName) ({ cls := "DocumentBytes$Reader", name := "readNumber", desc := "(II)V" } : Jvm.MethodName)) ∈ wA := wA_of (List.mem_of_getElem? (i := 7) (by decide +kernel)) (by decide +kernel)
theorem m_8 : (Jvm.Cond.selects "DocumentBytes" ({ cls := "DocumentBytes", name := "hasNode", desc := "(II)Z" } : Jvm.MethodName) ({ cls := "DocumentBytes", name := "hasNode", desc := "(II)Z" } : Jvm.MethodName)) ∈ wA := wA_of (List.mem_of_getElem? (i := 8) (by decide +kernel)) (by decide +kernel)
theorem m_9 : (Jvm.Cond.selects "DocumentBytes" ({ cls := "DocumentBytes", name := "mayHold", desc := "(II)Z" } : Jvm.MethodName) ({ cls := "DocumentBytes", name := "mayHold", desc := "(II)Z" } : Jvm.MethodName)) ∈ wA := wA_of (List.mem_of_getElem? (i := 9) (by decide +kernel)) (by decide +kernel)
theorem m_10 : (Jvm.Cond.selects "DocumentBytes" ({ cls := "DocumentBytes", name := "addFromTape", desc := "(IIIJII)I" } : Jvm.MethodName) ({ cls := "DocumentBytes", name := "addFromTape", desc := "(IIIJII)I" } : Jvm.MethodName)) ∈ wA := wA_of (List.mem_of_getElem? (i := 10) (by decide +kernel)) (by decide +kernel)
theorem m_11 : (Jvm.Cond.selects "DocumentBytes" ({ cls := "DocumentBytes", name := "nameCountFits", desc := "(II)Z" } : Jvm.MethodName) ({ cls := "DocumentBytes", name := "nameCountFits", desc := "(II)Z" } : Jvm.MethodName)) ∈ wA := wA_of (List.mem_of_getElem? (i := 11) (by decide +kernel)) (by decide +kernel)
theorem m_12 : (Jvm.Cond.selects "DocumentBytes" ({ cls := "DocumentBytes", name := "insertFresh", desc := "(IIIII)I" } : Jvm.MethodName) ({ cls := "DocumentBytes", name := "insertFresh", desc := "(IIIII)I" } : Jvm.MethodName)) ∈ wA := wA_of (List.mem_of_getElem? (i := 12) (by decide +kernel)) (by decide +kernel)
theorem m_13 : (Jvm.Cond.selects "DocumentBytes" ({ cls := "DocumentBytes", name := "isFreeName", desc := "(II)Z" } : Jvm.MethodName) ({ cls := "DocumentBytes", name := "isFreeName", desc := "(II)Z" } : Jvm.MethodName)) ∈ wA := wA_of (List.mem_of_getElem? (i := 13) (by decide +kernel)) (by decide +kernel)
theorem m_14 : (Jvm.Cond.selects "DocumentBytes" ({ cls := "DocumentBytes", name := "writeFresh", desc := "(LDocumentBytes$Bytes;III)V" } : Jvm.MethodName) ({ cls := "DocumentBytes", name := "writeFresh", desc := "(LDocumentBytes$Bytes;III)V" } : Jvm.MethodName)) ∈ wA := wA_of (List.mem_of_getElem? (i := 14) (by decide +kernel)) (by decide +kernel)
theorem m_15 : (Jvm.Cond.selects "DocumentBytes" ({ cls := "DocumentBytes", name := "resizeUpwards", desc := "(LDocumentBytes$Bytes;II)V" } : Jvm.MethodName) ({ cls := "DocumentBytes", name := "resizeUpwards", desc := "(LDocumentBytes$Bytes;II)V" } : Jvm.MethodName)) ∈ wA := wA_of (List.mem_of_getElem? (i := 15) (by decide +kernel)) (by decide +kernel)
theorem m_16 : (Jvm.Cond.selects "DocumentBytes" ({ cls := "DocumentBytes", name := "renumberBehind", desc := "(LDocumentBytes$Bytes;II)V" } : Jvm.MethodName) ({ cls := "DocumentBytes", name := "renumberBehind", desc := "(LDocumentBytes$Bytes;II)V" } : Jvm.MethodName)) ∈ wA := wA_of (List.mem_of_getElem? (i := 16) (by decide +kernel)) (by decide +kernel)
theorem m_17 : (Jvm.Cond.selects "DocumentBytesModel" ({ cls := "DocumentBytesModel", name := "put", desc := "(I)V" } : Jvm.MethodName) ({ cls := "DocumentBytesModel", name := "put", desc := "(I)V" } : Jvm.MethodName)) ∈ wA := wA_of (List.mem_of_getElem? (i := 17) (by decide +kernel)) (by decide +kernel)
theorem m_18 : (Jvm.Cond.selects "DocumentBytesModel" ({ cls := "DocumentBytesModel", name := "goOver", desc := "(I)V" } : Jvm.MethodName) ({ cls := "DocumentBytesModel", name := "goOver", desc := "(I)V" } : Jvm.MethodName)) ∈ wA := wA_of (List.mem_of_getElem? (i := 18) (by decide +kernel)) (by decide +kernel)
theorem m_19 : (Jvm.Cond.selects "DocumentBytesModel" ({ cls := "DocumentBytesModel", name := "opens", desc := "(IIIIZ)Z" } : Jvm.MethodName) ({ cls := "DocumentBytesModel", name := "opens", desc := "(IIIIZ)Z" } : Jvm.MethodName)) ∈ wA := wA_of (List.mem_of_getElem? (i := 19) (by decide +kernel)) (by decide +kernel)
theorem m_20 : (Jvm.Cond.selects "DocumentBytesModel" ({ cls := "DocumentBytesModel", name := "stop", desc := "(II)V" } : Jvm.MethodName) ({ cls := "DocumentBytesModel", name := "stop", desc := "(II)V" } : Jvm.MethodName)) ∈ wA := wA_of (List.mem_of_getElem? (i := 20) (by decide +kernel)) (by decide +kernel)
theorem m_21 : (Jvm.Cond.selects "DocumentBytesModel" ({ cls := "DocumentBytesModel", name := "low", desc := "(II)J" } : Jvm.MethodName) ({ cls := "DocumentBytesModel", name := "low", desc := "(II)J" } : Jvm.MethodName)) ∈ wA := wA_of (List.mem_of_getElem? (i := 21) (by decide +kernel)) (by decide +kernel)
theorem m_22 : (Jvm.Cond.selects "DocumentBytesModel" ({ cls := "DocumentBytesModel", name := "isKind", desc := "(I)Z" } : Jvm.MethodName) ({ cls := "DocumentBytesModel", name := "isKind", desc := "(I)Z" } : Jvm.MethodName)) ∈ wA := wA_of (List.mem_of_getElem? (i := 22) (by decide +kernel)) (by decide +kernel)
theorem m_23 : (Jvm.Cond.selects "DocumentBytesModel" ({ cls := "DocumentBytesModel", name := "element", desc := "(III)I" } : Jvm.MethodName) ({ cls := "DocumentBytesModel", name := "element", desc := "(III)I" } : Jvm.MethodName)) ∈ wA := wA_of (List.mem_of_getElem? (i := 23) (by decide +kernel)) (by decide +kernel)
theorem m_24 : (Jvm.Cond.selects "DocumentBytesModel" ({ cls := "DocumentBytesModel", name := "isName", desc := "(III)Z" } : Jvm.MethodName) ({ cls := "DocumentBytesModel", name := "isName", desc := "(III)Z" } : Jvm.MethodName)) ∈ wA := wA_of (List.mem_of_getElem? (i := 24) (by decide +kernel)) (by decide +kernel)
theorem m_25 : (Jvm.Cond.selects "DocumentBytesModel" ({ cls := "DocumentBytesModel", name := "value", desc := "(III)I" } : Jvm.MethodName) ({ cls := "DocumentBytesModel", name := "value", desc := "(III)I" } : Jvm.MethodName)) ∈ wA := wA_of (List.mem_of_getElem? (i := 25) (by decide +kernel)) (by decide +kernel)
theorem m_26 : (Jvm.Cond.selects "DocumentBytesModel" ({ cls := "DocumentBytesModel", name := "text", desc := "(II)I" } : Jvm.MethodName) ({ cls := "DocumentBytesModel", name := "text", desc := "(II)I" } : Jvm.MethodName)) ∈ wA := wA_of (List.mem_of_getElem? (i := 26) (by decide +kernel)) (by decide +kernel)
theorem m_27 : (Jvm.Cond.selects "DocumentBytesModel" ({ cls := "DocumentBytesModel", name := "store", desc := "(I)V" } : Jvm.MethodName) ({ cls := "DocumentBytesModel", name := "store", desc := "(I)V" } : Jvm.MethodName)) ∈ wA := wA_of (List.mem_of_getElem? (i := 27) (by decide +kernel)) (by decide +kernel)
theorem m_28 : (Jvm.Cond.selects "DocumentBytesModel" ({ cls := "DocumentBytesModel", name := "load", desc := "(I)V" } : Jvm.MethodName) ({ cls := "DocumentBytesModel", name := "load", desc := "(I)V" } : Jvm.MethodName)) ∈ wA := wA_of (List.mem_of_getElem? (i := 28) (by decide +kernel)) (by decide +kernel)
theorem m_29 : (Jvm.Cond.selects "DocumentBytesModel" ({ cls := "DocumentBytesModel", name := "isNode", desc := "(II)Z" } : Jvm.MethodName) ({ cls := "DocumentBytesModel", name := "isNode", desc := "(II)Z" } : Jvm.MethodName)) ∈ wA := wA_of (List.mem_of_getElem? (i := 29) (by decide +kernel)) (by decide +kernel)
theorem m_30 : (Jvm.Cond.selects "DocumentBytesModel" ({ cls := "DocumentBytesModel", name := "kindOf", desc := "(I)I" } : Jvm.MethodName) ({ cls := "DocumentBytesModel", name := "kindOf", desc := "(I)I" } : Jvm.MethodName)) ∈ wA := wA_of (List.mem_of_getElem? (i := 30) (by decide +kernel)) (by decide +kernel)
theorem m_31 : (Jvm.Cond.selects "DocumentBytesModel" ({ cls := "DocumentBytesModel", name := "nextIn", desc := "(II)I" } : Jvm.MethodName) ({ cls := "DocumentBytesModel", name := "nextIn", desc := "(II)I" } : Jvm.MethodName)) ∈ wA := wA_of (List.mem_of_getElem? (i := 31) (by decide +kernel)) (by decide +kernel)
theorem m_32 : (Jvm.Cond.selects "DocumentBytesModel" ({ cls := "DocumentBytesModel", name := "valueAt", desc := "(I)I" } : Jvm.MethodName) ({ cls := "DocumentBytesModel", name := "valueAt", desc := "(I)I" } : Jvm.MethodName)) ∈ wA := wA_of (List.mem_of_getElem? (i := 32) (by decide +kernel)) (by decide +kernel)
theorem m_33 : (Jvm.Cond.selects "DocumentBytesModel" ({ cls := "DocumentBytesModel", name := "isBox", desc := "(I)Z" } : Jvm.MethodName) ({ cls := "DocumentBytesModel", name := "isBox", desc := "(I)Z" } : Jvm.MethodName)) ∈ wA := wA_of (List.mem_of_getElem? (i := 33) (by decide +kernel)) (by decide +kernel)
theorem m_34 : (Jvm.Cond.selects "DocumentBytesModel" ({ cls := "DocumentBytesModel", name := "elements", desc := "(I)I" } : Jvm.MethodName) ({ cls := "DocumentBytesModel", name := "elements", desc := "(I)I" } : Jvm.MethodName)) ∈ wA := wA_of (List.mem_of_getElem? (i := 34) (by decide +kernel)) (by decide +kernel)
theorem m_35 : (Jvm.Cond.selects "DocumentBytesModel" ({ cls := "DocumentBytesModel", name := "numberOf", desc := "(I)J" } : Jvm.MethodName) ({ cls := "DocumentBytesModel", name := "numberOf", desc := "(I)J" } : Jvm.MethodName)) ∈ wA := wA_of (List.mem_of_getElem? (i := 35) (by decide +kernel)) (by decide +kernel)
theorem m_36 : (Jvm.Cond.selects "DocumentBytesModel" ({ cls := "DocumentBytesModel", name := "findName", desc := "(II)I" } : Jvm.MethodName) ({ cls := "DocumentBytesModel", name := "findName", desc := "(II)I" } : Jvm.MethodName)) ∈ wA := wA_of (List.mem_of_getElem? (i := 36) (by decide +kernel)) (by decide +kernel)
theorem m_37 : (Jvm.Cond.selects "DocumentBytesModel" ({ cls := "DocumentBytesModel", name := "canBe", desc := "(IIJII)Z" } : Jvm.MethodName) ({ cls := "DocumentBytesModel", name := "canBe", desc := "(IIJII)Z" } : Jvm.MethodName)) ∈ wA := wA_of (List.mem_of_getElem? (i := 37) (by decide +kernel)) (by decide +kernel)
theorem m_38 : (Jvm.Cond.selects "DocumentBytesModel" ({ cls := "DocumentBytesModel", name := "isNameFree", desc := "(II)Z" } : Jvm.MethodName) ({ cls := "DocumentBytesModel", name := "isNameFree", desc := "(II)Z" } : Jvm.MethodName)) ∈ wA := wA_of (List.mem_of_getElem? (i := 38) (by decide +kernel)) (by decide +kernel)
theorem m_39 : (Jvm.Cond.selects "DocumentBytesModel" ({ cls := "DocumentBytesModel", name := "writeHead", desc := "(III)V" } : Jvm.MethodName) ({ cls := "DocumentBytesModel", name := "writeHead", desc := "(III)V" } : Jvm.MethodName)) ∈ wA := wA_of (List.mem_of_getElem? (i := 39) (by decide +kernel)) (by decide +kernel)
theorem m_40 : (Jvm.Cond.selects "DocumentBytesModel" ({ cls := "DocumentBytesModel", name := "write", desc := "(I)V" } : Jvm.MethodName) ({ cls := "DocumentBytesModel", name := "write", desc := "(I)V" } : Jvm.MethodName)) ∈ wA := wA_of (List.mem_of_getElem? (i := 40) (by decide +kernel)) (by decide +kernel)
theorem m_41 : (Jvm.Cond.selects "DocumentBytesModel" ({ cls := "DocumentBytesModel", name := "writeLow", desc := "(JI)V" } : Jvm.MethodName) ({ cls := "DocumentBytesModel", name := "writeLow", desc := "(JI)V" } : Jvm.MethodName)) ∈ wA := wA_of (List.mem_of_getElem? (i := 41) (by decide +kernel)) (by decide +kernel)
theorem m_42 : (Jvm.Cond.selects "DocumentBytesModel" ({ cls := "DocumentBytesModel", name := "insert", desc := "(II)I" } : Jvm.MethodName) ({ cls := "DocumentBytesModel", name := "insert", desc := "(II)I" } : Jvm.MethodName)) ∈ wA := wA_of (List.mem_of_getElem? (i := 42) (by decide +kernel)) (by decide +kernel)
theorem m_43 : (Jvm.Cond.selects "DocumentBytesModel" ({ cls := "DocumentBytesModel", name := "lastOf", desc := "(I)I" } : Jvm.MethodName) ({ cls := "DocumentBytesModel", name := "lastOf", desc := "(I)I" } : Jvm.MethodName)) ∈ wA := wA_of (List.mem_of_getElem? (i := 43) (by decide +kernel)) (by decide +kernel)
theorem m_44 : (Jvm.Cond.selects "DocumentBytesModel" ({ cls := "DocumentBytesModel", name := "splice", desc := "(III)V" } : Jvm.MethodName) ({ cls := "DocumentBytesModel", name := "splice", desc := "(III)V" } : Jvm.MethodName)) ∈ wA := wA_of (List.mem_of_getElem? (i := 44) (by decide +kernel)) (by decide +kernel)
theorem m_45 : (Jvm.Cond.selects "DocumentBytesModel" ({ cls := "DocumentBytesModel", name := "putLow", desc := "(IJ)V" } : Jvm.MethodName) ({ cls := "DocumentBytesModel", name := "putLow", desc := "(IJ)V" } : Jvm.MethodName)) ∈ wA := wA_of (List.mem_of_getElem? (i := 45) (by decide +kernel)) (by decide +kernel)
theorem m_46 : (Jvm.Cond.selects "DocumentBytesModel" ({ cls := "DocumentBytesModel", name := "deepIn", desc := "(I)I" } : Jvm.MethodName) ({ cls := "DocumentBytesModel", name := "deepIn", desc := "(I)I" } : Jvm.MethodName)) ∈ wA := wA_of (List.mem_of_getElem? (i := 46) (by decide +kernel)) (by decide +kernel)
theorem m_47 : (Jvm.Cond.selects "DocumentBytesModel" ({ cls := "DocumentBytesModel", name := "renumber", desc := "()V" } : Jvm.MethodName) ({ cls := "DocumentBytesModel", name := "renumber", desc := "()V" } : Jvm.MethodName)) ∈ wA := wA_of (List.mem_of_getElem? (i := 47) (by decide +kernel)) (by decide +kernel)
theorem m_48 : (Jvm.Cond.selects "DocumentBytesModel" ({ cls := "DocumentBytesModel", name := "goOverAgain", desc := "()V" } : Jvm.MethodName) ({ cls := "DocumentBytesModel", name := "goOverAgain", desc := "()V" } : Jvm.MethodName)) ∈ wA := wA_of (List.mem_of_getElem? (i := 48) (by decide +kernel)) (by decide +kernel)
theorem m_49 : (Jvm.Cond.selects "DocumentBytesModel" ({ cls := "DocumentBytesModel", name := "itemOf", desc := "(II)I" } : Jvm.MethodName) ({ cls := "DocumentBytesModel", name := "itemOf", desc := "(II)I" } : Jvm.MethodName)) ∈ wA := wA_of (List.mem_of_getElem? (i := 49) (by decide +kernel)) (by decide +kernel)
theorem m_50 : (Jvm.Cond.initialized "DocumentBytesLaw") ∈ wA := wA_of (List.mem_of_getElem? (i := 50) (by decide +kernel)) (by decide +kernel)
theorem m_51 : (Jvm.Cond.initialized "DocumentBytes") ∈ wA := wA_of (List.mem_of_getElem? (i := 51) (by decide +kernel)) (by decide +kernel)
theorem m_52 : (Jvm.Cond.initialized "DocumentBytes$Bytes") ∈ wA := wA_of (List.mem_of_getElem? (i := 52) (by decide +kernel)) (by decide +kernel)
theorem m_53 : (Jvm.Cond.initialized "java/util/Arrays") ∈ wA := wA_of (List.mem_of_getElem? (i := 53) (by decide +kernel)) (by decide +kernel)
theorem m_54 : (Jvm.Cond.initialized "java/lang/Math") ∈ wA := wA_of (List.mem_of_getElem? (i := 54) (by decide +kernel)) (by decide +kernel)
theorem m_55 : (Jvm.Cond.initialized "java/lang/System") ∈ wA := wA_of (List.mem_of_getElem? (i := 55) (by decide +kernel)) (by decide +kernel)
theorem m_56 : (Jvm.Cond.initialized "DocumentBytes$Nodes") ∈ wA := wA_of (List.mem_of_getElem? (i := 56) (by decide +kernel)) (by decide +kernel)
theorem m_57 : (Jvm.Cond.initialized "DocumentBytes$Reader") ∈ wA := wA_of (List.mem_of_getElem? (i := 57) (by decide +kernel)) (by decide +kernel)
theorem m_58 : (Jvm.Cond.initialized "DocumentBytesModel") ∈ wA := wA_of (List.mem_of_getElem? (i := 58) (by decide +kernel)) (by decide +kernel)
theorem m_59 : (Jvm.Cond.initialized "DocumentBytes$Kinds") ∈ wA := wA_of (List.mem_of_getElem? (i := 59) (by decide +kernel)) (by decide +kernel)
theorem m_60 : (Jvm.Cond.initialized "DocumentBytes$Utf8") ∈ wA := wA_of (List.mem_of_getElem? (i := 60) (by decide +kernel)) (by decide +kernel)
theorem m_61 : (Jvm.Cond.classLink "DocumentBytesLaw" (7 : Nat) "DocumentBytes") ∈ wA := wA_of (List.mem_of_getElem? (i := 61) (by decide +kernel)) (by decide +kernel)
theorem m_62 : (Jvm.Cond.instantiable "DocumentBytes" (7 : Nat)) ∈ wA := wA_of (List.mem_of_getElem? (i := 62) (by decide +kernel)) (by decide +kernel)
theorem m_63 : (Jvm.Cond.methodLink "DocumentBytesLaw" (9 : Nat) ({ cls := "DocumentBytes", name := "<init>", desc := "()V" } : Jvm.MethodName)) ∈ wA := wA_of (List.mem_of_getElem? (i := 63) (by decide +kernel)) (by decide +kernel)
theorem m_64 : (Jvm.Cond.instanceMethod ({ cls := "DocumentBytes", name := "<init>", desc := "()V" } : Jvm.MethodName)) ∈ wA := wA_of (List.mem_of_getElem? (i := 64) (by decide +kernel)) (by decide +kernel)
theorem m_65 : (Jvm.Cond.code ({ cls := "DocumentBytes", name := "<init>", desc := "()V" } : Jvm.MethodName) prog_1_method_1_code (2 : Nat) (Option.none : Option Jvm.ClassFile.FieldType)) ∈ wA := wA_of (List.mem_of_getElem? (i := 65) (by decide +kernel)) (by decide +kernel)
theorem m_66 : (Jvm.Cond.methodLink "DocumentBytes" (3 : Nat) ({ cls := "java/lang/Object", name := "<init>", desc := "()V" } : Jvm.MethodName)) ∈ wA := wA_of (List.mem_of_getElem? (i := 66) (by decide +kernel)) (by decide +kernel)
theorem m_67 : (Jvm.Cond.instanceMethod ({ cls := "java/lang/Object", name := "<init>", desc := "()V" } : Jvm.MethodName)) ∈ wA := wA_of (List.mem_of_getElem? (i := 67) (by decide +kernel)) (by decide +kernel)
theorem m_68 : (Jvm.Cond.code ({ cls := "java/lang/Object", name := "<init>", desc := "()V" } : Jvm.MethodName) object_method_1_code (1 : Nat) (Option.none : Option Jvm.ClassFile.FieldType)) ∈ wA := wA_of (List.mem_of_getElem? (i := 68) (by decide +kernel)) (by decide +kernel)
theorem m_69 : (Jvm.Cond.classLink "DocumentBytes" (9 : Nat) "DocumentBytes$Bytes") ∈ wA := wA_of (List.mem_of_getElem? (i := 69) (by decide +kernel)) (by decide +kernel)
theorem m_70 : (Jvm.Cond.instantiable "DocumentBytes$Bytes" (3 : Nat)) ∈ wA := wA_of (List.mem_of_getElem? (i := 70) (by decide +kernel)) (by decide +kernel)
theorem m_71 : (Jvm.Cond.methodLink "DocumentBytes" (11 : Nat) ({ cls := "DocumentBytes$Bytes", name := "<init>", desc := "(I)V" } : Jvm.MethodName)) ∈ wA := wA_of (List.mem_of_getElem? (i := 71) (by decide +kernel)) (by decide +kernel)
theorem m_72 : (Jvm.Cond.instanceMethod ({ cls := "DocumentBytes$Bytes", name := "<init>", desc := "(I)V" } : Jvm.MethodName)) ∈ wA := wA_of (List.mem_of_getElem? (i := 72) (by decide +kernel)) (by decide +kernel)
theorem m_73 : (Jvm.Cond.code ({ cls := "DocumentBytes$Bytes", name := "<init>", desc := "(I)V" } : Jvm.MethodName) prog_2_method_1_code (2 : Nat) (Option.none : Option Jvm.ClassFile.FieldType)) ∈ wA := wA_of (List.mem_of_getElem? (i := 73) (by decide +kernel)) (by decide +kernel)
theorem m_74 : (Jvm.Cond.methodLink "DocumentBytes$Bytes" (3 : Nat) ({ cls := "java/lang/Object", name := "<init>", desc := "()V" } : Jvm.MethodName)) ∈ wA := wA_of (List.mem_of_getElem? (i := 74) (by decide +kernel)) (by decide +kernel)
theorem m_75 : (Jvm.Cond.fieldLink "DocumentBytes$Bytes" (9 : Nat) "DocumentBytes$Bytes" "most" "I") ∈ wA := wA_of (List.mem_of_getElem? (i := 75) (by decide +kernel)) (by decide +kernel)
theorem m_76 : (Jvm.Cond.fieldLink "DocumentBytes$Bytes" (15 : Nat) "DocumentBytes$Bytes" "row" "[B") ∈ wA := wA_of (List.mem_of_getElem? (i := 76) (by decide +kernel)) (by decide +kernel)
theorem m_77 : (Jvm.Cond.fieldLink "DocumentBytes$Bytes" (19 : Nat) "DocumentBytes$Bytes" "size" "I") ∈ wA := wA_of (List.mem_of_getElem? (i := 77) (by decide +kernel)) (by decide +kernel)
theorem m_78 : (Jvm.Cond.laysFinal "DocumentBytes$Bytes" "DocumentBytes$Bytes" "most" "I") ∈ wA := wA_of (List.mem_of_getElem? (i := 78) (by decide +kernel)) (by decide +kernel)
theorem m_79 : (Jvm.Cond.soleField "DocumentBytes$Bytes" "most") ∈ wA := wA_of (List.mem_of_getElem? (i := 79) (by decide +kernel)) (by decide +kernel)
theorem m_80 : (Jvm.Cond.lays "DocumentBytes$Bytes" "DocumentBytes$Bytes" "row" "[B") ∈ wA := wA_of (List.mem_of_getElem? (i := 80) (by decide +kernel)) (by decide +kernel)
theorem m_81 : (Jvm.Cond.soleField "DocumentBytes$Bytes" "row") ∈ wA := wA_of (List.mem_of_getElem? (i := 81) (by decide +kernel)) (by decide +kernel)
theorem m_82 : (Jvm.Cond.lays "DocumentBytes$Bytes" "DocumentBytes$Bytes" "size" "I") ∈ wA := wA_of (List.mem_of_getElem? (i := 82) (by decide +kernel)) (by decide +kernel)
theorem m_83 : (Jvm.Cond.soleField "DocumentBytes$Bytes" "size") ∈ wA := wA_of (List.mem_of_getElem? (i := 83) (by decide +kernel)) (by decide +kernel)
theorem m_84 : (Jvm.Cond.superclass "DocumentBytes$Bytes" "java/lang/Object") ∈ wA := wA_of (List.mem_of_getElem? (i := 84) (by decide +kernel)) (by decide +kernel)
theorem m_85 : (Jvm.Cond.arrayClass Jvm.ClassFile.FieldType.byte) ∈ wA := wA_of (List.mem_of_getElem? (i := 85) (by decide +kernel)) (by decide +kernel)
theorem m_87 : (Jvm.Cond.methodLink "DocumentBytes" (25 : Nat) ({ cls := "DocumentBytes$Bytes", name := "appendEmptyDocument", desc := "()V" } : Jvm.MethodName)) ∈ wA := wA_of (List.mem_of_getElem? (i := 87) (by decide +kernel)) (by decide +kernel)
theorem m_88 : (Jvm.Cond.instanceMethod ({ cls := "DocumentBytes$Bytes", name := "appendEmptyDocument", desc := "()V" } : Jvm.MethodName)) ∈ wA := wA_of (List.mem_of_getElem? (i := 88) (by decide +kernel)) (by decide +kernel)
theorem m_89 : (Jvm.Cond.selects "DocumentBytes$Bytes" ({ cls := "DocumentBytes$Bytes", name := "appendEmptyDocument", desc := "()V" } : Jvm.MethodName) ({ cls := "DocumentBytes$Bytes", name := "appendEmptyDocument", desc := "()V" } : Jvm.MethodName)) ∈ wA := wA_of (List.mem_of_getElem? (i := 89) (by decide +kernel)) (by decide +kernel)
theorem m_90 : (Jvm.Cond.code ({ cls := "DocumentBytes$Bytes", name := "appendEmptyDocument", desc := "()V" } : Jvm.MethodName) prog_2_method_20_code (1 : Nat) (Option.none : Option Jvm.ClassFile.FieldType)) ∈ wA := wA_of (List.mem_of_getElem? (i := 90) (by decide +kernel)) (by decide +kernel)
theorem m_91 : (Jvm.Cond.constantLong "DocumentBytes$Bytes" (56 : Nat) (5 : Int64)) ∈ wA := wA_of (List.mem_of_getElem? (i := 91) (by decide +kernel)) (by decide +kernel)
theorem m_92 : (Jvm.Cond.methodLink "DocumentBytes$Bytes" (58 : Nat) ({ cls := "DocumentBytes$Bytes", name := "appendNumber", desc := "(JI)V" } : Jvm.MethodName)) ∈ wA := wA_of (List.mem_of_getElem? (i := 92) (by decide +kernel)) (by decide +kernel)
theorem m_93 : (Jvm.Cond.instanceMethod ({ cls := "DocumentBytes$Bytes", name := "appendNumber", desc := "(JI)V" } : Jvm.MethodName)) ∈ wA := wA_of (List.mem_of_getElem? (i := 93) (by decide +kernel)) (by decide +kernel)
theorem m_94 : (Jvm.Cond.selects "DocumentBytes$Bytes" ({ cls := "DocumentBytes$Bytes", name := "appendNumber", desc := "(JI)V" } : Jvm.MethodName) ({ cls := "DocumentBytes$Bytes", name := "appendNumber", desc := "(JI)V" } : Jvm.MethodName)) ∈ wA := wA_of (List.mem_of_getElem? (i := 94) (by decide +kernel)) (by decide +kernel)
theorem m_95 : (Jvm.Cond.code ({ cls := "DocumentBytes$Bytes", name := "appendNumber", desc := "(JI)V" } : Jvm.MethodName) prog_2_method_18_code (5 : Nat) (Option.none : Option Jvm.ClassFile.FieldType)) ∈ wA := wA_of (List.mem_of_getElem? (i := 95) (by decide +kernel)) (by decide +kernel)
theorem m_96 : (Jvm.Cond.methodLink "DocumentBytes$Bytes" (45 : Nat) ({ cls := "DocumentBytes$Bytes", name := "openGap", desc := "(II)V" } : Jvm.MethodName)) ∈ wA := wA_of (List.mem_of_getElem? (i := 96) (by decide +kernel)) (by decide +kernel)
theorem m_97 : (Jvm.Cond.instanceMethod ({ cls := "DocumentBytes$Bytes", name := "openGap", desc := "(II)V" } : Jvm.MethodName)) ∈ wA := wA_of (List.mem_of_getElem? (i := 97) (by decide +kernel)) (by decide +kernel)
theorem m_98 : (Jvm.Cond.selects "DocumentBytes$Bytes" ({ cls := "DocumentBytes$Bytes", name := "openGap", desc := "(II)V" } : Jvm.MethodName) ({ cls := "DocumentBytes$Bytes", name := "openGap", desc := "(II)V" } : Jvm.MethodName)) ∈ wA := wA_of (List.mem_of_getElem? (i := 98) (by decide +kernel)) (by decide +kernel)
theorem m_99 : (Jvm.Cond.code ({ cls := "DocumentBytes$Bytes", name := "openGap", desc := "(II)V" } : Jvm.MethodName) prog_2_method_14_code (3 : Nat) (Option.none : Option Jvm.ClassFile.FieldType)) ∈ wA := wA_of (List.mem_of_getElem? (i := 99) (by decide +kernel)) (by decide +kernel)
theorem m_100 : (Jvm.Cond.methodLink "DocumentBytes$Bytes" (33 : Nat) ({ cls := "java/util/Arrays", name := "copyOf", desc := "([BI)[B" } : Jvm.MethodName)) ∈ wA := wA_of (List.mem_of_getElem? (i := 100) (by decide +kernel)) (by decide +kernel)
theorem m_101 : (Jvm.Cond.static ({ cls := "java/util/Arrays", name := "copyOf", desc := "([BI)[B" } : Jvm.MethodName)) ∈ wA := wA_of (List.mem_of_getElem? (i := 101) (by decide +kernel)) (by decide +kernel)
theorem m_102 : (Jvm.Cond.code ({ cls := "java/util/Arrays", name := "copyOf", desc := "([BI)[B" } : Jvm.MethodName) prog_12_method_121_code (3 : Nat) (Option.some (Jvm.ClassFile.FieldType.array Jvm.ClassFile.FieldType.byte))) ∈ wA := wA_of (List.mem_of_getElem? (i := 102) (by decide +kernel)) (by decide +kernel)
theorem m_103 : (Jvm.Cond.methodLink "java/util/Arrays" (310 : Nat) ({ cls := "[B", name := "clone", desc := "()Ljava/lang/Object;" } : Jvm.MethodName)) ∈ wA := wA_of (List.mem_of_getElem? (i := 103) (by decide +kernel)) (by decide +kernel)
theorem m_105 : (Jvm.Cond.native ({ cls := "java/lang/Object", name := "clone", desc := "()Ljava/lang/Object;" } : Jvm.MethodName)) ∈ wA := wA_of (List.mem_of_getElem? (i := 105) (by decide +kernel)) (by decide +kernel)
theorem m_106 : (Jvm.Cond.instanceMethod ({ cls := "java/lang/Object", name := "clone", desc := "()Ljava/lang/Object;" } : Jvm.MethodName)) ∈ wA := wA_of (List.mem_of_getElem? (i := 106) (by decide +kernel)) (by decide +kernel)
theorem m_107 : (Jvm.Cond.selects "[B" ({ cls := "[B", name := "clone", desc := "()Ljava/lang/Object;" } : Jvm.MethodName) ({ cls := "java/lang/Object", name := "clone", desc := "()Ljava/lang/Object;" } : Jvm.MethodName)) ∈ wA := wA_of (List.mem_of_getElem? (i := 107) (by decide +kernel)) (by decide +kernel)
theorem m_109 : (Jvm.Cond.classLink "java/util/Arrays" (311 : Nat) "[B") ∈ wA := wA_of (List.mem_of_getElem? (i := 109) (by decide +kernel)) (by decide +kernel)
theorem m_110 : (Jvm.Cond.methodLink "java/util/Arrays" (304 : Nat) ({ cls := "java/lang/Math", name := "min", desc := "(II)I" } : Jvm.MethodName)) ∈ wA := wA_of (List.mem_of_getElem? (i := 110) (by decide +kernel)) (by decide +kernel)
theorem m_111 : (Jvm.Cond.static ({ cls := "java/lang/Math", name := "min", desc := "(II)I" } : Jvm.MethodName)) ∈ wA := wA_of (List.mem_of_getElem? (i := 111) (by decide +kernel)) (by decide +kernel)
theorem m_112 : (Jvm.Cond.code ({ cls := "java/lang/Math", name := "min", desc := "(II)I" } : Jvm.MethodName) prog_10_method_69_code (2 : Nat) (Option.some Jvm.ClassFile.FieldType.int)) ∈ wA := wA_of (List.mem_of_getElem? (i := 112) (by decide +kernel)) (by decide +kernel)
theorem m_113 : (Jvm.Cond.methodLink "java/util/Arrays" (150 : Nat) ({ cls := "java/lang/System", name := "arraycopy", desc := "(Ljava/lang/Object;ILjava/lang/Object;II)V" } : Jvm.MethodName)) ∈ wA := wA_of (List.mem_of_getElem? (i := 113) (by decide +kernel)) (by decide +kernel)
theorem m_114 : (Jvm.Cond.static ({ cls := "java/lang/System", name := "arraycopy", desc := "(Ljava/lang/Object;ILjava/lang/Object;II)V" } : Jvm.MethodName)) ∈ wA := wA_of (List.mem_of_getElem? (i := 114) (by decide +kernel)) (by decide +kernel)
theorem m_115 : (Jvm.Cond.native ({ cls := "java/lang/System", name := "arraycopy", desc := "(Ljava/lang/Object;ILjava/lang/Object;II)V" } : Jvm.MethodName)) ∈ wA := wA_of (List.mem_of_getElem? (i := 115) (by decide +kernel)) (by decide +kernel)
theorem m_116 : (Jvm.Cond.methodLink "DocumentBytes$Bytes" (39 : Nat) ({ cls := "java/lang/System", name := "arraycopy", desc := "(Ljava/lang/Object;ILjava/lang/Object;II)V" } : Jvm.MethodName)) ∈ wA := wA_of (List.mem_of_getElem? (i := 116) (by decide +kernel)) (by decide +kernel)
theorem m_117 : (Jvm.Cond.methodLink "DocumentBytes$Bytes" (52 : Nat) ({ cls := "DocumentBytes$Bytes", name := "putNumber", desc := "(IIJ)V" } : Jvm.MethodName)) ∈ wA := wA_of (List.mem_of_getElem? (i := 117) (by decide +kernel)) (by decide +kernel)
theorem m_118 : (Jvm.Cond.instanceMethod ({ cls := "DocumentBytes$Bytes", name := "putNumber", desc := "(IIJ)V" } : Jvm.MethodName)) ∈ wA := wA_of (List.mem_of_getElem? (i := 118) (by decide +kernel)) (by decide +kernel)
theorem m_119 : (Jvm.Cond.selects "DocumentBytes$Bytes" ({ cls := "DocumentBytes$Bytes", name := "putNumber", desc := "(IIJ)V" } : Jvm.MethodName) ({ cls := "DocumentBytes$Bytes", name := "putNumber", desc := "(IIJ)V" } : Jvm.MethodName)) ∈ wA := wA_of (List.mem_of_getElem? (i := 119) (by decide +kernel)) (by decide +kernel)
theorem m_120 : (Jvm.Cond.code ({ cls := "DocumentBytes$Bytes", name := "putNumber", desc := "(IIJ)V" } : Jvm.MethodName) prog_2_method_9_code (6 : Nat) (Option.none : Option Jvm.ClassFile.FieldType)) ∈ wA := wA_of (List.mem_of_getElem? (i := 120) (by decide +kernel)) (by decide +kernel)
theorem m_121 : (Jvm.Cond.methodLink "DocumentBytes$Bytes" (26 : Nat) ({ cls := "DocumentBytes$Bytes", name := "put", desc := "(II)V" } : Jvm.MethodName)) ∈ wA := wA_of (List.mem_of_getElem? (i := 121) (by decide +kernel)) (by decide +kernel)
theorem m_122 : (Jvm.Cond.instanceMethod ({ cls := "DocumentBytes$Bytes", name := "put", desc := "(II)V" } : Jvm.MethodName)) ∈ wA := wA_of (List.mem_of_getElem? (i := 122) (by decide +kernel)) (by decide +kernel)
theorem m_123 : (Jvm.Cond.selects "DocumentBytes$Bytes" ({ cls := "DocumentBytes$Bytes", name := "put", desc := "(II)V" } : Jvm.MethodName) ({ cls := "DocumentBytes$Bytes", name := "put", desc := "(II)V" } : Jvm.MethodName)) ∈ wA := wA_of (List.mem_of_getElem? (i := 123) (by decide +kernel)) (by decide +kernel)
theorem m_124 : (Jvm.Cond.code ({ cls := "DocumentBytes$Bytes", name := "put", desc := "(II)V" } : Jvm.MethodName) prog_2_method_6_code (3 : Nat) (Option.none : Option Jvm.ClassFile.FieldType)) ∈ wA := wA_of (List.mem_of_getElem? (i := 124) (by decide +kernel)) (by decide +kernel)
theorem m_125 : (Jvm.Cond.classLink "DocumentBytes" (28 : Nat) "DocumentBytes$Nodes") ∈ wA := wA_of (List.mem_of_getElem? (i := 125) (by decide +kernel)) (by decide +kernel)
theorem m_126 : (Jvm.Cond.instantiable "DocumentBytes$Nodes" (9 : Nat)) ∈ wA := wA_of (List.mem_of_getElem? (i := 126) (by decide +kernel)) (by decide +kernel)
theorem m_127 : (Jvm.Cond.methodLink "DocumentBytes" (30 : Nat) ({ cls := "DocumentBytes$Nodes", name := "<init>", desc := "(LDocumentBytes$Bytes;)V" } : Jvm.MethodName)) ∈ wA := wA_of (List.mem_of_getElem? (i := 127) (by decide +kernel)) (by decide +kernel)
theorem m_128 : (Jvm.Cond.instanceMethod ({ cls := "DocumentBytes$Nodes", name := "<init>", desc := "(LDocumentBytes$Bytes;)V" } : Jvm.MethodName)) ∈ wA := wA_of (List.mem_of_getElem? (i := 128) (by decide +kernel)) (by decide +kernel)
theorem m_129 : (Jvm.Cond.code ({ cls := "DocumentBytes$Nodes", name := "<init>", desc := "(LDocumentBytes$Bytes;)V" } : Jvm.MethodName) prog_4_method_1_code (2 : Nat) (Option.none : Option Jvm.ClassFile.FieldType)) ∈ wA := wA_of (List.mem_of_getElem? (i := 129) (by decide +kernel)) (by decide +kernel)
theorem m_130 : (Jvm.Cond.methodLink "DocumentBytes$Nodes" (3 : Nat) ({ cls := "java/lang/Object", name := "<init>", desc := "()V" } : Jvm.MethodName)) ∈ wA := wA_of (List.mem_of_getElem? (i := 130) (by decide +kernel)) (by decide +kernel)
theorem m_131 : (Jvm.Cond.fieldLink "DocumentBytes$Nodes" (9 : Nat) "DocumentBytes$Nodes" "kinds" "[I") ∈ wA := wA_of (List.mem_of_getElem? (i := 131) (by decide +kernel)) (by decide +kernel)
theorem m_132 : (Jvm.Cond.fieldLink "DocumentBytes$Nodes" (15 : Nat) "DocumentBytes$Nodes" "parents" "[I") ∈ wA := wA_of (List.mem_of_getElem? (i := 132) (by decide +kernel)) (by decide +kernel)
theorem m_133 : (Jvm.Cond.fieldLink "DocumentBytes$Nodes" (18 : Nat) "DocumentBytes$Nodes" "depths" "[I") ∈ wA := wA_of (List.mem_of_getElem? (i := 133) (by decide +kernel)) (by decide +kernel)
theorem m_134 : (Jvm.Cond.fieldLink "DocumentBytes$Nodes" (21 : Nat) "DocumentBytes$Nodes" "names" "[I") ∈ wA := wA_of (List.mem_of_getElem? (i := 134) (by decide +kernel)) (by decide +kernel)
theorem m_135 : (Jvm.Cond.fieldLink "DocumentBytes$Nodes" (24 : Nat) "DocumentBytes$Nodes" "values" "[I") ∈ wA := wA_of (List.mem_of_getElem? (i := 135) (by decide +kernel)) (by decide +kernel)
theorem m_136 : (Jvm.Cond.fieldLink "DocumentBytes$Nodes" (27 : Nat) "DocumentBytes$Nodes" "valueLengths" "[I") ∈ wA := wA_of (List.mem_of_getElem? (i := 136) (by decide +kernel)) (by decide +kernel)
theorem m_137 : (Jvm.Cond.fieldLink "DocumentBytes$Nodes" (30 : Nat) "DocumentBytes$Nodes" "elementCounts" "[I") ∈ wA := wA_of (List.mem_of_getElem? (i := 137) (by decide +kernel)) (by decide +kernel)
theorem m_138 : (Jvm.Cond.fieldLink "DocumentBytes$Nodes" (33 : Nat) "DocumentBytes$Nodes" "document" "LDocumentBytes$Bytes;") ∈ wA := wA_of (List.mem_of_getElem? (i := 138) (by decide +kernel)) (by decide +kernel)
theorem m_139 : (Jvm.Cond.fieldLink "DocumentBytes$Nodes" (37 : Nat) "DocumentBytes$Nodes" "count" "I") ∈ wA := wA_of (List.mem_of_getElem? (i := 139) (by decide +kernel)) (by decide +kernel)
theorem m_140 : (Jvm.Cond.laysFinal "DocumentBytes$Nodes" "DocumentBytes$Nodes" "kinds" "[I") ∈ wA := wA_of (List.mem_of_getElem? (i := 140) (by decide +kernel)) (by decide +kernel)
theorem m_141 : (Jvm.Cond.soleField "DocumentBytes$Nodes" "kinds") ∈ wA := wA_of (List.mem_of_getElem? (i := 141) (by decide +kernel)) (by decide +kernel)
theorem m_142 : (Jvm.Cond.laysFinal "DocumentBytes$Nodes" "DocumentBytes$Nodes" "parents" "[I") ∈ wA := wA_of (List.mem_of_getElem? (i := 142) (by decide +kernel)) (by decide +kernel)
theorem m_143 : (Jvm.Cond.soleField "DocumentBytes$Nodes" "parents") ∈ wA := wA_of (List.mem_of_getElem? (i := 143) (by decide +kernel)) (by decide +kernel)
theorem m_144 : (Jvm.Cond.laysFinal "DocumentBytes$Nodes" "DocumentBytes$Nodes" "depths" "[I") ∈ wA := wA_of (List.mem_of_getElem? (i := 144) (by decide +kernel)) (by decide +kernel)
theorem m_145 : (Jvm.Cond.soleField "DocumentBytes$Nodes" "depths") ∈ wA := wA_of (List.mem_of_getElem? (i := 145) (by decide +kernel)) (by decide +kernel)
theorem m_146 : (Jvm.Cond.laysFinal "DocumentBytes$Nodes" "DocumentBytes$Nodes" "names" "[I") ∈ wA := wA_of (List.mem_of_getElem? (i := 146) (by decide +kernel)) (by decide +kernel)
theorem m_147 : (Jvm.Cond.soleField "DocumentBytes$Nodes" "names") ∈ wA := wA_of (List.mem_of_getElem? (i := 147) (by decide +kernel)) (by decide +kernel)
theorem m_148 : (Jvm.Cond.laysFinal "DocumentBytes$Nodes" "DocumentBytes$Nodes" "values" "[I") ∈ wA := wA_of (List.mem_of_getElem? (i := 148) (by decide +kernel)) (by decide +kernel)
theorem m_149 : (Jvm.Cond.soleField "DocumentBytes$Nodes" "values") ∈ wA := wA_of (List.mem_of_getElem? (i := 149) (by decide +kernel)) (by decide +kernel)
theorem m_150 : (Jvm.Cond.laysFinal "DocumentBytes$Nodes" "DocumentBytes$Nodes" "valueLengths" "[I") ∈ wA := wA_of (List.mem_of_getElem? (i := 150) (by decide +kernel)) (by decide +kernel)
theorem m_151 : (Jvm.Cond.soleField "DocumentBytes$Nodes" "valueLengths") ∈ wA := wA_of (List.mem_of_getElem? (i := 151) (by decide +kernel)) (by decide +kernel)
theorem m_152 : (Jvm.Cond.laysFinal "DocumentBytes$Nodes" "DocumentBytes$Nodes" "elementCounts" "[I") ∈ wA := wA_of (List.mem_of_getElem? (i := 152) (by decide +kernel)) (by decide +kernel)
theorem m_153 : (Jvm.Cond.soleField "DocumentBytes$Nodes" "elementCounts") ∈ wA := wA_of (List.mem_of_getElem? (i := 153) (by decide +kernel)) (by decide +kernel)
theorem m_154 : (Jvm.Cond.lays "DocumentBytes$Nodes" "DocumentBytes$Nodes" "document" "LDocumentBytes$Bytes;") ∈ wA := wA_of (List.mem_of_getElem? (i := 154) (by decide +kernel)) (by decide +kernel)
theorem m_155 : (Jvm.Cond.soleField "DocumentBytes$Nodes" "document") ∈ wA := wA_of (List.mem_of_getElem? (i := 155) (by decide +kernel)) (by decide +kernel)
theorem m_156 : (Jvm.Cond.lays "DocumentBytes$Nodes" "DocumentBytes$Nodes" "count" "I") ∈ wA := wA_of (List.mem_of_getElem? (i := 156) (by decide +kernel)) (by decide +kernel)
theorem m_157 : (Jvm.Cond.soleField "DocumentBytes$Nodes" "count") ∈ wA := wA_of (List.mem_of_getElem? (i := 157) (by decide +kernel)) (by decide +kernel)
theorem m_158 : (Jvm.Cond.superclass "DocumentBytes$Nodes" "java/lang/Object") ∈ wA := wA_of (List.mem_of_getElem? (i := 158) (by decide +kernel)) (by decide +kernel)
theorem m_159 : (Jvm.Cond.arrayClass Jvm.ClassFile.FieldType.int) ∈ wA := wA_of (List.mem_of_getElem? (i := 159) (by decide +kernel)) (by decide +kernel)
theorem m_160 : (Jvm.Cond.classLink "DocumentBytes" (37 : Nat) "DocumentBytes$Reader") ∈ wA := wA_of (List.mem_of_getElem? (i := 160) (by decide +kernel)) (by decide +kernel)
theorem m_161 : (Jvm.Cond.instantiable "DocumentBytes$Reader" (6 : Nat)) ∈ wA := wA_of (List.mem_of_getElem? (i := 161) (by decide +kernel)) (by decide +kernel)
theorem m_162 : (Jvm.Cond.methodLink "DocumentBytes" (39 : Nat) ({ cls := "DocumentBytes$Reader", name := "<init>", desc := "(LDocumentBytes$Nodes;LDocumentBytes$Bytes;)V" } : Jvm.MethodName)) ∈ wA := wA_of (List.mem_of_getElem? (i := 162) (by decide +kernel)) (by decide +kernel)
theorem m_163 : (Jvm.Cond.instanceMethod ({ cls := "DocumentBytes$Reader", name := "<init>", desc := "(LDocumentBytes$Nodes;LDocumentBytes$Bytes;)V" } : Jvm.MethodName)) ∈ wA := wA_of (List.mem_of_getElem? (i := 163) (by decide +kernel)) (by decide +kernel)
theorem m_164 : (Jvm.Cond.code ({ cls := "DocumentBytes$Reader", name := "<init>", desc := "(LDocumentBytes$Nodes;LDocumentBytes$Bytes;)V" } : Jvm.MethodName) prog_5_method_1_code (3 : Nat) (Option.none : Option Jvm.ClassFile.FieldType)) ∈ wA := wA_of (List.mem_of_getElem? (i := 164) (by decide +kernel)) (by decide +kernel)
theorem m_165 : (Jvm.Cond.methodLink "DocumentBytes$Reader" (3 : Nat) ({ cls := "java/lang/Object", name := "<init>", desc := "()V" } : Jvm.MethodName)) ∈ wA := wA_of (List.mem_of_getElem? (i := 165) (by decide +kernel)) (by decide +kernel)
theorem m_166 : (Jvm.Cond.fieldLink "DocumentBytes$Reader" (9 : Nat) "DocumentBytes$Reader" "nodes" "LDocumentBytes$Nodes;") ∈ wA := wA_of (List.mem_of_getElem? (i := 166) (by decide +kernel)) (by decide +kernel)
theorem m_167 : (Jvm.Cond.fieldLink "DocumentBytes$Reader" (15 : Nat) "DocumentBytes$Reader" "bytes" "LDocumentBytes$Bytes;") ∈ wA := wA_of (List.mem_of_getElem? (i := 167) (by decide +kernel)) (by decide +kernel)
theorem m_168 : (Jvm.Cond.fieldLink "DocumentBytes$Reader" (19 : Nat) "DocumentBytes$Reader" "at" "I") ∈ wA := wA_of (List.mem_of_getElem? (i := 168) (by decide +kernel)) (by decide +kernel)
theorem m_169 : (Jvm.Cond.fieldLink "DocumentBytes$Reader" (23 : Nat) "DocumentBytes$Reader" "inside" "I") ∈ wA := wA_of (List.mem_of_getElem? (i := 169) (by decide +kernel)) (by decide +kernel)
theorem m_170 : (Jvm.Cond.fieldLink "DocumentBytes$Reader" (26 : Nat) "DocumentBytes$Reader" "fault" "I") ∈ wA := wA_of (List.mem_of_getElem? (i := 170) (by decide +kernel)) (by decide +kernel)
theorem m_171 : (Jvm.Cond.fieldLink "DocumentBytes$Reader" (29 : Nat) "DocumentBytes$Reader" "faultPlace" "I") ∈ wA := wA_of (List.mem_of_getElem? (i := 171) (by decide +kernel)) (by decide +kernel)
theorem m_172 : (Jvm.Cond.laysFinal "DocumentBytes$Reader" "DocumentBytes$Reader" "nodes" "LDocumentBytes$Nodes;") ∈ wA := wA_of (List.mem_of_getElem? (i := 172) (by decide +kernel)) (by decide +kernel)
theorem m_173 : (Jvm.Cond.soleField "DocumentBytes$Reader" "nodes") ∈ wA := wA_of (List.mem_of_getElem? (i := 173) (by decide +kernel)) (by decide +kernel)
theorem m_174 : (Jvm.Cond.laysFinal "DocumentBytes$Reader" "DocumentBytes$Reader" "bytes" "LDocumentBytes$Bytes;") ∈ wA := wA_of (List.mem_of_getElem? (i := 174) (by decide +kernel)) (by decide +kernel)
theorem m_175 : (Jvm.Cond.soleField "DocumentBytes$Reader" "bytes") ∈ wA := wA_of (List.mem_of_getElem? (i := 175) (by decide +kernel)) (by decide +kernel)
theorem m_176 : (Jvm.Cond.lays "DocumentBytes$Reader" "DocumentBytes$Reader" "at" "I") ∈ wA := wA_of (List.mem_of_getElem? (i := 176) (by decide +kernel)) (by decide +kernel)
theorem m_177 : (Jvm.Cond.soleField "DocumentBytes$Reader" "at") ∈ wA := wA_of (List.mem_of_getElem? (i := 177) (by decide +kernel)) (by decide +kernel)
theorem m_178 : (Jvm.Cond.lays "DocumentBytes$Reader" "DocumentBytes$Reader" "inside" "I") ∈ wA := wA_of (List.mem_of_getElem? (i := 178) (by decide +kernel)) (by decide +kernel)
theorem m_179 : (Jvm.Cond.soleField "DocumentBytes$Reader" "inside") ∈ wA := wA_of (List.mem_of_getElem? (i := 179) (by decide +kernel)) (by decide +kernel)
theorem m_180 : (Jvm.Cond.lays "DocumentBytes$Reader" "DocumentBytes$Reader" "fault" "I") ∈ wA := wA_of (List.mem_of_getElem? (i := 180) (by decide +kernel)) (by decide +kernel)
theorem m_181 : (Jvm.Cond.soleField "DocumentBytes$Reader" "fault") ∈ wA := wA_of (List.mem_of_getElem? (i := 181) (by decide +kernel)) (by decide +kernel)
theorem m_182 : (Jvm.Cond.lays "DocumentBytes$Reader" "DocumentBytes$Reader" "faultPlace" "I") ∈ wA := wA_of (List.mem_of_getElem? (i := 182) (by decide +kernel)) (by decide +kernel)
theorem m_183 : (Jvm.Cond.soleField "DocumentBytes$Reader" "faultPlace") ∈ wA := wA_of (List.mem_of_getElem? (i := 183) (by decide +kernel)) (by decide +kernel)
theorem m_184 : (Jvm.Cond.superclass "DocumentBytes$Reader" "java/lang/Object") ∈ wA := wA_of (List.mem_of_getElem? (i := 184) (by decide +kernel)) (by decide +kernel)
theorem m_185 : (Jvm.Cond.fieldLink "DocumentBytes" (14 : Nat) "DocumentBytes" "tape" "LDocumentBytes$Bytes;") ∈ wA := wA_of (List.mem_of_getElem? (i := 185) (by decide +kernel)) (by decide +kernel)
theorem m_186 : (Jvm.Cond.fieldLink "DocumentBytes" (21 : Nat) "DocumentBytes" "slots" "[LDocumentBytes$Bytes;") ∈ wA := wA_of (List.mem_of_getElem? (i := 186) (by decide +kernel)) (by decide +kernel)
theorem m_187 : (Jvm.Cond.fieldLink "DocumentBytes" (18 : Nat) "DocumentBytes" "fresh" "LDocumentBytes$Bytes;") ∈ wA := wA_of (List.mem_of_getElem? (i := 187) (by decide +kernel)) (by decide +kernel)
theorem m_188 : (Jvm.Cond.fieldLink "DocumentBytes" (33 : Nat) "DocumentBytes" "nodes" "LDocumentBytes$Nodes;") ∈ wA := wA_of (List.mem_of_getElem? (i := 188) (by decide +kernel)) (by decide +kernel)
theorem m_189 : (Jvm.Cond.fieldLink "DocumentBytes" (42 : Nat) "DocumentBytes" "reader" "LDocumentBytes$Reader;") ∈ wA := wA_of (List.mem_of_getElem? (i := 189) (by decide +kernel)) (by decide +kernel)
theorem m_190 : (Jvm.Cond.fieldLink "DocumentBytes" (46 : Nat) "DocumentBytes" "scanned" "I") ∈ wA := wA_of (List.mem_of_getElem? (i := 190) (by decide +kernel)) (by decide +kernel)
theorem m_191 : (Jvm.Cond.fieldLink "DocumentBytes" (50 : Nat) "DocumentBytes" "faultPlace" "I") ∈ wA := wA_of (List.mem_of_getElem? (i := 191) (by decide +kernel)) (by decide +kernel)
theorem m_192 : (Jvm.Cond.laysFinal "DocumentBytes" "DocumentBytes" "tape" "LDocumentBytes$Bytes;") ∈ wA := wA_of (List.mem_of_getElem? (i := 192) (by decide +kernel)) (by decide +kernel)
theorem m_193 : (Jvm.Cond.soleField "DocumentBytes" "tape") ∈ wA := wA_of (List.mem_of_getElem? (i := 193) (by decide +kernel)) (by decide +kernel)
theorem m_194 : (Jvm.Cond.laysFinal "DocumentBytes" "DocumentBytes" "slots" "[LDocumentBytes$Bytes;") ∈ wA := wA_of (List.mem_of_getElem? (i := 194) (by decide +kernel)) (by decide +kernel)
theorem m_195 : (Jvm.Cond.soleField "DocumentBytes" "slots") ∈ wA := wA_of (List.mem_of_getElem? (i := 195) (by decide +kernel)) (by decide +kernel)
theorem m_196 : (Jvm.Cond.laysFinal "DocumentBytes" "DocumentBytes" "fresh" "LDocumentBytes$Bytes;") ∈ wA := wA_of (List.mem_of_getElem? (i := 196) (by decide +kernel)) (by decide +kernel)
theorem m_197 : (Jvm.Cond.soleField "DocumentBytes" "fresh") ∈ wA := wA_of (List.mem_of_getElem? (i := 197) (by decide +kernel)) (by decide +kernel)
theorem m_198 : (Jvm.Cond.laysFinal "DocumentBytes" "DocumentBytes" "nodes" "LDocumentBytes$Nodes;") ∈ wA := wA_of (List.mem_of_getElem? (i := 198) (by decide +kernel)) (by decide +kernel)
theorem m_199 : (Jvm.Cond.soleField "DocumentBytes" "nodes") ∈ wA := wA_of (List.mem_of_getElem? (i := 199) (by decide +kernel)) (by decide +kernel)
theorem m_200 : (Jvm.Cond.laysFinal "DocumentBytes" "DocumentBytes" "reader" "LDocumentBytes$Reader;") ∈ wA := wA_of (List.mem_of_getElem? (i := 200) (by decide +kernel)) (by decide +kernel)
theorem m_201 : (Jvm.Cond.soleField "DocumentBytes" "reader") ∈ wA := wA_of (List.mem_of_getElem? (i := 201) (by decide +kernel)) (by decide +kernel)
theorem m_202 : (Jvm.Cond.lays "DocumentBytes" "DocumentBytes" "scanned" "I") ∈ wA := wA_of (List.mem_of_getElem? (i := 202) (by decide +kernel)) (by decide +kernel)
theorem m_203 : (Jvm.Cond.soleField "DocumentBytes" "scanned") ∈ wA := wA_of (List.mem_of_getElem? (i := 203) (by decide +kernel)) (by decide +kernel)
theorem m_204 : (Jvm.Cond.lays "DocumentBytes" "DocumentBytes" "faultPlace" "I") ∈ wA := wA_of (List.mem_of_getElem? (i := 204) (by decide +kernel)) (by decide +kernel)
theorem m_205 : (Jvm.Cond.soleField "DocumentBytes" "faultPlace") ∈ wA := wA_of (List.mem_of_getElem? (i := 205) (by decide +kernel)) (by decide +kernel)
theorem m_206 : (Jvm.Cond.superclass "DocumentBytes" "java/lang/Object") ∈ wA := wA_of (List.mem_of_getElem? (i := 206) (by decide +kernel)) (by decide +kernel)
theorem m_207 : (Jvm.Cond.methodLink "DocumentBytesLaw" (13 : Nat) ({ cls := "DocumentBytes", name := "feed", desc := "(IIIII)I" } : Jvm.MethodName)) ∈ wA := wA_of (List.mem_of_getElem? (i := 207) (by decide +kernel)) (by decide +kernel)
theorem m_208 : (Jvm.Cond.instanceMethod ({ cls := "DocumentBytes", name := "feed", desc := "(IIIII)I" } : Jvm.MethodName)) ∈ wA := wA_of (List.mem_of_getElem? (i := 208) (by decide +kernel)) (by decide +kernel)
theorem m_209 : (Jvm.Cond.selects "DocumentBytes" ({ cls := "DocumentBytes", name := "feed", desc := "(IIIII)I" } : Jvm.MethodName) ({ cls := "DocumentBytes", name := "feed", desc := "(IIIII)I" } : Jvm.MethodName)) ∈ wA := wA_of (List.mem_of_getElem? (i := 209) (by decide +kernel)) (by decide +kernel)
theorem m_210 : (Jvm.Cond.code ({ cls := "DocumentBytes", name := "feed", desc := "(IIIII)I" } : Jvm.MethodName) prog_1_method_2_code (6 : Nat) (Option.some Jvm.ClassFile.FieldType.int)) ∈ wA := wA_of (List.mem_of_getElem? (i := 210) (by decide +kernel)) (by decide +kernel)
theorem m_211 : (Jvm.Cond.methodLink "DocumentBytes" (53 : Nat) ({ cls := "DocumentBytes$Bytes", name := "size", desc := "()I" } : Jvm.MethodName)) ∈ wA := wA_of (List.mem_of_getElem? (i := 211) (by decide +kernel)) (by decide +kernel)
theorem m_212 : (Jvm.Cond.instanceMethod ({ cls := "DocumentBytes$Bytes", name := "size", desc := "()I" } : Jvm.MethodName)) ∈ wA := wA_of (List.mem_of_getElem? (i := 212) (by decide +kernel)) (by decide +kernel)
theorem m_213 : (Jvm.Cond.selects "DocumentBytes$Bytes" ({ cls := "DocumentBytes$Bytes", name := "size", desc := "()I" } : Jvm.MethodName) ({ cls := "DocumentBytes$Bytes", name := "size", desc := "()I" } : Jvm.MethodName)) ∈ wA := wA_of (List.mem_of_getElem? (i := 213) (by decide +kernel)) (by decide +kernel)
theorem m_214 : (Jvm.Cond.code ({ cls := "DocumentBytes$Bytes", name := "size", desc := "()I" } : Jvm.MethodName) prog_2_method_2_code (1 : Nat) (Option.some Jvm.ClassFile.FieldType.int)) ∈ wA := wA_of (List.mem_of_getElem? (i := 214) (by decide +kernel)) (by decide +kernel)
theorem m_215 : (Jvm.Cond.methodLink "DocumentBytes" (57 : Nat) ({ cls := "DocumentBytes$Bytes", name := "appendHighestFirst", desc := "(I)V" } : Jvm.MethodName)) ∈ wA := wA_of (List.mem_of_getElem? (i := 215) (by decide +kernel)) (by decide +kernel)
theorem m_216 : (Jvm.Cond.instanceMethod ({ cls := "DocumentBytes$Bytes", name := "appendHighestFirst", desc := "(I)V" } : Jvm.MethodName)) ∈ wA := wA_of (List.mem_of_getElem? (i := 216) (by decide +kernel)) (by decide +kernel)
theorem m_217 : (Jvm.Cond.selects "DocumentBytes$Bytes" ({ cls := "DocumentBytes$Bytes", name := "appendHighestFirst", desc := "(I)V" } : Jvm.MethodName) ({ cls := "DocumentBytes$Bytes", name := "appendHighestFirst", desc := "(I)V" } : Jvm.MethodName)) ∈ wA := wA_of (List.mem_of_getElem? (i := 217) (by decide +kernel)) (by decide +kernel)
theorem m_218 : (Jvm.Cond.code ({ cls := "DocumentBytes$Bytes", name := "appendHighestFirst", desc := "(I)V" } : Jvm.MethodName) prog_2_method_19_code (4 : Nat) (Option.none : Option Jvm.ClassFile.FieldType)) ∈ wA := wA_of (List.mem_of_getElem? (i := 218) (by decide +kernel)) (by decide +kernel)
theorem m_219 : (Jvm.Cond.methodLink "DocumentBytesLaw" (18 : Nat) ({ cls := "DocumentBytes", name := "read", desc := "(II)I" } : Jvm.MethodName)) ∈ wA := wA_of (List.mem_of_getElem? (i := 219) (by decide +kernel)) (by decide +kernel)
theorem m_220 : (Jvm.Cond.instanceMethod ({ cls := "DocumentBytes", name := "read", desc := "(II)I" } : Jvm.MethodName)) ∈ wA := wA_of (List.mem_of_getElem? (i := 220) (by decide +kernel)) (by decide +kernel)
theorem m_221 : (Jvm.Cond.selects "DocumentBytes" ({ cls := "DocumentBytes", name := "read", desc := "(II)I" } : Jvm.MethodName) ({ cls := "DocumentBytes", name := "read", desc := "(II)I" } : Jvm.MethodName)) ∈ wA := wA_of (List.mem_of_getElem? (i := 221) (by decide +kernel)) (by decide +kernel)
theorem m_222 : (Jvm.Cond.code ({ cls := "DocumentBytes", name := "read", desc := "(II)I" } : Jvm.MethodName) prog_1_method_3_code (4 : Nat) (Option.some Jvm.ClassFile.FieldType.int)) ∈ wA := wA_of (List.mem_of_getElem? (i := 222) (by decide +kernel)) (by decide +kernel)
theorem m_223 : (Jvm.Cond.methodLink "DocumentBytes" (60 : Nat) ({ cls := "DocumentBytes", name := "isSlot", desc := "(I)Z" } : Jvm.MethodName)) ∈ wA := wA_of (List.mem_of_getElem? (i := 223) (by decide +kernel)) (by decide +kernel)
theorem m_224 : (Jvm.Cond.static ({ cls := "DocumentBytes", name := "isSlot", desc := "(I)Z" } : Jvm.MethodName)) ∈ wA := wA_of (List.mem_of_getElem? (i := 224) (by decide +kernel)) (by decide +kernel)
theorem m_225 : (Jvm.Cond.code ({ cls := "DocumentBytes", name := "isSlot", desc := "(I)Z" } : Jvm.MethodName) prog_1_method_15_code (1 : Nat) (Option.some Jvm.ClassFile.FieldType.boolean)) ∈ wA := wA_of (List.mem_of_getElem? (i := 225) (by decide +kernel)) (by decide +kernel)
theorem m_226 : (Jvm.Cond.methodLink "DocumentBytes" (64 : Nat) ({ cls := "DocumentBytes$Bytes", name := "has", desc := "(II)Z" } : Jvm.MethodName)) ∈ wA := wA_of (List.mem_of_getElem? (i := 226) (by decide +kernel)) (by decide +kernel)
theorem m_227 : (Jvm.Cond.instanceMethod ({ cls := "DocumentBytes$Bytes", name := "has", desc := "(II)Z" } : Jvm.MethodName)) ∈ wA := wA_of (List.mem_of_getElem? (i := 227) (by decide +kernel)) (by decide +kernel)
theorem m_228 : (Jvm.Cond.selects "DocumentBytes$Bytes" ({ cls := "DocumentBytes$Bytes", name := "has", desc := "(II)Z" } : Jvm.MethodName) ({ cls := "DocumentBytes$Bytes", name := "has", desc := "(II)Z" } : Jvm.MethodName)) ∈ wA := wA_of (List.mem_of_getElem? (i := 228) (by decide +kernel)) (by decide +kernel)
theorem m_229 : (Jvm.Cond.code ({ cls := "DocumentBytes$Bytes", name := "has", desc := "(II)Z" } : Jvm.MethodName) prog_2_method_4_code (3 : Nat) (Option.some Jvm.ClassFile.FieldType.boolean)) ∈ wA := wA_of (List.mem_of_getElem? (i := 229) (by decide +kernel)) (by decide +kernel)
theorem m_230 : (Jvm.Cond.methodLink "DocumentBytes" (68 : Nat) ({ cls := "DocumentBytes$Reader", name := "readAll", desc := "(I)I" } : Jvm.MethodName)) ∈ wA := wA_of (List.mem_of_getElem? (i := 230) (by decide +kernel)) (by decide +kernel)
theorem m_231 : (Jvm.Cond.instanceMethod ({ cls := "DocumentBytes$Reader", name := "readAll", desc := "(I)I" } : Jvm.MethodName)) ∈ wA := wA_of (List.mem_of_getElem? (i := 231) (by decide +kernel)) (by decide +kernel)
theorem m_232 : (Jvm.Cond.selects "DocumentBytes$Reader" ({ cls := "DocumentBytes$Reader", name := "readAll", desc := "(I)I" } : Jvm.MethodName) ({ cls := "DocumentBytes$Reader", name := "readAll", desc := "(I)I" } : Jvm.MethodName)) ∈ wA := wA_of (List.mem_of_getElem? (i := 232) (by decide +kernel)) (by decide +kernel)
theorem m_233 : (Jvm.Cond.code ({ cls := "DocumentBytes$Reader", name := "readAll", desc := "(I)I" } : Jvm.MethodName) prog_5_method_3_code (4 : Nat) (Option.some Jvm.ClassFile.FieldType.int)) ∈ wA := wA_of (List.mem_of_getElem? (i := 233) (by decide +kernel)) (by decide +kernel)
theorem m_234 : (Jvm.Cond.methodLink "DocumentBytes$Reader" (32 : Nat) ({ cls := "DocumentBytes$Nodes", name := "begin", desc := "(LDocumentBytes$Bytes;)V" } : Jvm.MethodName)) ∈ wA := wA_of (List.mem_of_getElem? (i := 234) (by decide +kernel)) (by decide +kernel)
theorem m_235 : (Jvm.Cond.instanceMethod ({ cls := "DocumentBytes$Nodes", name := "begin", desc := "(LDocumentBytes$Bytes;)V" } : Jvm.MethodName)) ∈ wA := wA_of (List.mem_of_getElem? (i := 235) (by decide +kernel)) (by decide +kernel)
theorem m_236 : (Jvm.Cond.selects "DocumentBytes$Nodes" ({ cls := "DocumentBytes$Nodes", name := "begin", desc := "(LDocumentBytes$Bytes;)V" } : Jvm.MethodName) ({ cls := "DocumentBytes$Nodes", name := "begin", desc := "(LDocumentBytes$Bytes;)V" } : Jvm.MethodName)) ∈ wA := wA_of (List.mem_of_getElem? (i := 236) (by decide +kernel)) (by decide +kernel)
theorem m_237 : (Jvm.Cond.code ({ cls := "DocumentBytes$Nodes", name := "begin", desc := "(LDocumentBytes$Bytes;)V" } : Jvm.MethodName) prog_4_method_2_code (2 : Nat) (Option.none : Option Jvm.ClassFile.FieldType)) ∈ wA := wA_of (List.mem_of_getElem? (i := 237) (by decide +kernel)) (by decide +kernel)
theorem m_238 : (Jvm.Cond.methodLink "DocumentBytes$Reader" (38 : Nat) ({ cls := "DocumentBytes$Reader", name := "readSize", desc := "(III)V" } : Jvm.MethodName)) ∈ wA := wA_of (List.mem_of_getElem? (i := 238) (by decide +kernel)) (by decide +kernel)
theorem m_240 : (Jvm.Cond.instanceMethod ({ cls := "DocumentBytes$Reader", name := "readSize", desc := "(III)V" } : Jvm.MethodName)) ∈ wA := wA_of (List.mem_of_getElem? (i := 240) (by decide +kernel)) (by decide +kernel)
theorem m_241 : (Jvm.Cond.code ({ cls := "DocumentBytes$Reader", name := "readSize", desc := "(III)V" } : Jvm.MethodName) prog_5_method_8_code (7 : Nat) (Option.none : Option Jvm.ClassFile.FieldType)) ∈ wA := wA_of (List.mem_of_getElem? (i := 241) (by decide +kernel)) (by decide +kernel)
theorem m_242 : (Jvm.Cond.methodLink "DocumentBytes$Reader" (58 : Nat) ({ cls := "DocumentBytes$Reader", name := "refuse", desc := "(II)V" } : Jvm.MethodName)) ∈ wA := wA_of (List.mem_of_getElem? (i := 242) (by decide +kernel)) (by decide +kernel)
theorem m_244 : (Jvm.Cond.instanceMethod ({ cls := "DocumentBytes$Reader", name := "refuse", desc := "(II)V" } : Jvm.MethodName)) ∈ wA := wA_of (List.mem_of_getElem? (i := 244) (by decide +kernel)) (by decide +kernel)
theorem m_245 : (Jvm.Cond.code ({ cls := "DocumentBytes$Reader", name := "refuse", desc := "(II)V" } : Jvm.MethodName) prog_5_method_4_code (3 : Nat) (Option.none : Option Jvm.ClassFile.FieldType)) ∈ wA := wA_of (List.mem_of_getElem? (i := 245) (by decide +kernel)) (by decide +kernel)
theorem m_246 : (Jvm.Cond.methodLink "DocumentBytes$Reader" (111 : Nat) ({ cls := "DocumentBytes$Bytes", name := "numberAt", desc := "(II)J" } : Jvm.MethodName)) ∈ wA := wA_of (List.mem_of_getElem? (i := 246) (by decide +kernel)) (by decide +kernel)
theorem m_247 : (Jvm.Cond.instanceMethod ({ cls := "DocumentBytes$Bytes", name := "numberAt", desc := "(II)J" } : Jvm.MethodName)) ∈ wA := wA_of (List.mem_of_getElem? (i := 247) (by decide +kernel)) (by decide +kernel)
theorem m_248 : (Jvm.Cond.selects "DocumentBytes$Bytes" ({ cls := "DocumentBytes$Bytes", name := "numberAt", desc := "(II)J" } : Jvm.MethodName) ({ cls := "DocumentBytes$Bytes", name := "numberAt", desc := "(II)J" } : Jvm.MethodName)) ∈ wA := wA_of (List.mem_of_getElem? (i := 248) (by decide +kernel)) (by decide +kernel)
theorem m_249 : (Jvm.Cond.code ({ cls := "DocumentBytes$Bytes", name := "numberAt", desc := "(II)J" } : Jvm.MethodName) prog_2_method_8_code (6 : Nat) (Option.some Jvm.ClassFile.FieldType.long)) ∈ wA := wA_of (List.mem_of_getElem? (i := 249) (by decide +kernel)) (by decide +kernel)
theorem m_250 : (Jvm.Cond.methodLink "DocumentBytes$Bytes" (22 : Nat) ({ cls := "DocumentBytes$Bytes", name := "get", desc := "(I)I" } : Jvm.MethodName)) ∈ wA := wA_of (List.mem_of_getElem? (i := 250) (by decide +kernel)) (by decide +kernel)
theorem m_251 : (Jvm.Cond.instanceMethod ({ cls := "DocumentBytes$Bytes", name := "get", desc := "(I)I" } : Jvm.MethodName)) ∈ wA := wA_of (List.mem_of_getElem? (i := 251) (by decide +kernel)) (by decide +kernel)
theorem m_252 : (Jvm.Cond.selects "DocumentBytes$Bytes" ({ cls := "DocumentBytes$Bytes", name := "get", desc := "(I)I" } : Jvm.MethodName) ({ cls := "DocumentBytes$Bytes", name := "get", desc := "(I)I" } : Jvm.MethodName)) ∈ wA := wA_of (List.mem_of_getElem? (i := 252) (by decide +kernel)) (by decide +kernel)
theorem m_253 : (Jvm.Cond.code ({ cls := "DocumentBytes$Bytes", name := "get", desc := "(I)I" } : Jvm.MethodName) prog_2_method_5_code (2 : Nat) (Option.some Jvm.ClassFile.FieldType.int)) ∈ wA := wA_of (List.mem_of_getElem? (i := 253) (by decide +kernel)) (by decide +kernel)
theorem m_254 : (Jvm.Cond.constantLong "DocumentBytes$Reader" (115 : Nat) (5 : Int64)) ∈ wA := wA_of (List.mem_of_getElem? (i := 254) (by decide +kernel)) (by decide +kernel)
theorem m_255 : (Jvm.Cond.methodLink "DocumentBytes$Reader" (117 : Nat) ({ cls := "DocumentBytes$Nodes", name := "depth", desc := "(I)I" } : Jvm.MethodName)) ∈ wA := wA_of (List.mem_of_getElem? (i := 255) (by decide +kernel)) (by decide +kernel)
theorem m_256 : (Jvm.Cond.instanceMethod ({ cls := "DocumentBytes$Nodes", name := "depth", desc := "(I)I" } : Jvm.MethodName)) ∈ wA := wA_of (List.mem_of_getElem? (i := 256) (by decide +kernel)) (by decide +kernel)
theorem m_257 : (Jvm.Cond.selects "DocumentBytes$Nodes" ({ cls := "DocumentBytes$Nodes", name := "depth", desc := "(I)I" } : Jvm.MethodName) ({ cls := "DocumentBytes$Nodes", name := "depth", desc := "(I)I" } : Jvm.MethodName)) ∈ wA := wA_of (List.mem_of_getElem? (i := 257) (by decide +kernel)) (by decide +kernel)
theorem m_258 : (Jvm.Cond.code ({ cls := "DocumentBytes$Nodes", name := "depth", desc := "(I)I" } : Jvm.MethodName) prog_4_method_9_code (2 : Nat) (Option.some Jvm.ClassFile.FieldType.int)) ∈ wA := wA_of (List.mem_of_getElem? (i := 258) (by decide +kernel)) (by decide +kernel)
theorem m_259 : (Jvm.Cond.methodLink "DocumentBytes$Nodes" (79 : Nat) ({ cls := "DocumentBytes$Nodes", name := "cell", desc := "([II)I" } : Jvm.MethodName)) ∈ wA := wA_of (List.mem_of_getElem? (i := 259) (by decide +kernel)) (by decide +kernel)
theorem m_261 : (Jvm.Cond.instanceMethod ({ cls := "DocumentBytes$Nodes", name := "cell", desc := "([II)I" } : Jvm.MethodName)) ∈ wA := wA_of (List.mem_of_getElem? (i := 261) (by decide +kernel)) (by decide +kernel)
theorem m_262 : (Jvm.Cond.code ({ cls := "DocumentBytes$Nodes", name := "cell", desc := "([II)I" } : Jvm.MethodName) prog_4_method_6_code (3 : Nat) (Option.some Jvm.ClassFile.FieldType.int)) ∈ wA := wA_of (List.mem_of_getElem? (i := 262) (by decide +kernel)) (by decide +kernel)
theorem m_263 : (Jvm.Cond.methodLink "DocumentBytes$Reader" (83 : Nat) ({ cls := "DocumentBytes$Nodes", name := "append", desc := "(IIIII)I" } : Jvm.MethodName)) ∈ wA := wA_of (List.mem_of_getElem? (i := 263) (by decide +kernel)) (by decide +kernel)
theorem m_264 : (Jvm.Cond.instanceMethod ({ cls := "DocumentBytes$Nodes", name := "append", desc := "(IIIII)I" } : Jvm.MethodName)) ∈ wA := wA_of (List.mem_of_getElem? (i := 264) (by decide +kernel)) (by decide +kernel)
theorem m_265 : (Jvm.Cond.selects "DocumentBytes$Nodes" ({ cls := "DocumentBytes$Nodes", name := "append", desc := "(IIIII)I" } : Jvm.MethodName) ({ cls := "DocumentBytes$Nodes", name := "append", desc := "(IIIII)I" } : Jvm.MethodName)) ∈ wA := wA_of (List.mem_of_getElem? (i := 265) (by decide +kernel)) (by decide +kernel)
theorem m_266 : (Jvm.Cond.code ({ cls := "DocumentBytes$Nodes", name := "append", desc := "(IIIII)I" } : Jvm.MethodName) prog_4_method_3_code (7 : Nat) (Option.some Jvm.ClassFile.FieldType.int)) ∈ wA := wA_of (List.mem_of_getElem? (i := 266) (by decide +kernel)) (by decide +kernel)
theorem m_267 : (Jvm.Cond.methodLink "DocumentBytes$Nodes" (41 : Nat) ({ cls := "DocumentBytes$Kinds", name := "holdsElements", desc := "(I)Z" } : Jvm.MethodName)) ∈ wA := wA_of (List.mem_of_getElem? (i := 267) (by decide +kernel)) (by decide +kernel)
theorem m_268 : (Jvm.Cond.static ({ cls := "DocumentBytes$Kinds", name := "holdsElements", desc := "(I)Z" } : Jvm.MethodName)) ∈ wA := wA_of (List.mem_of_getElem? (i := 268) (by decide +kernel)) (by decide +kernel)
theorem m_269 : (Jvm.Cond.code ({ cls := "DocumentBytes$Kinds", name := "holdsElements", desc := "(I)Z" } : Jvm.MethodName) prog_3_method_3_code (1 : Nat) (Option.some Jvm.ClassFile.FieldType.boolean)) ∈ wA := wA_of (List.mem_of_getElem? (i := 269) (by decide +kernel)) (by decide +kernel)
theorem m_270 : (Jvm.Cond.methodLink "DocumentBytes$Reader" (42 : Nat) ({ cls := "DocumentBytes$Nodes", name := "lastByte", desc := "(I)I" } : Jvm.MethodName)) ∈ wA := wA_of (List.mem_of_getElem? (i := 270) (by decide +kernel)) (by decide +kernel)
theorem m_271 : (Jvm.Cond.instanceMethod ({ cls := "DocumentBytes$Nodes", name := "lastByte", desc := "(I)I" } : Jvm.MethodName)) ∈ wA := wA_of (List.mem_of_getElem? (i := 271) (by decide +kernel)) (by decide +kernel)
theorem m_272 : (Jvm.Cond.selects "DocumentBytes$Nodes" ({ cls := "DocumentBytes$Nodes", name := "lastByte", desc := "(I)I" } : Jvm.MethodName) ({ cls := "DocumentBytes$Nodes", name := "lastByte", desc := "(I)I" } : Jvm.MethodName)) ∈ wA := wA_of (List.mem_of_getElem? (i := 272) (by decide +kernel)) (by decide +kernel)
theorem m_273 : (Jvm.Cond.code ({ cls := "DocumentBytes$Nodes", name := "lastByte", desc := "(I)I" } : Jvm.MethodName) prog_4_method_16_code (2 : Nat) (Option.some Jvm.ClassFile.FieldType.int)) ∈ wA := wA_of (List.mem_of_getElem? (i := 273) (by decide +kernel)) (by decide +kernel)
theorem m_274 : (Jvm.Cond.methodLink "DocumentBytes$Reader" (46 : Nat) ({ cls := "DocumentBytes$Reader", name := "readLastByte", desc := "()V" } : Jvm.MethodName)) ∈ wA := wA_of (List.mem_of_getElem? (i := 274) (by decide +kernel)) (by decide +kernel)
theorem m_276 : (Jvm.Cond.instanceMethod ({ cls := "DocumentBytes$Reader", name := "readLastByte", desc := "()V" } : Jvm.MethodName)) ∈ wA := wA_of (List.mem_of_getElem? (i := 276) (by decide +kernel)) (by decide +kernel)
theorem m_277 : (Jvm.Cond.code ({ cls := "DocumentBytes$Reader", name := "readLastByte", desc := "()V" } : Jvm.MethodName) prog_5_method_5_code (1 : Nat) (Option.none : Option Jvm.ClassFile.FieldType)) ∈ wA := wA_of (List.mem_of_getElem? (i := 277) (by decide +kernel)) (by decide +kernel)
theorem m_278 : (Jvm.Cond.methodLink "DocumentBytes$Reader" (53 : Nat) ({ cls := "DocumentBytes$Bytes", name := "get", desc := "(I)I" } : Jvm.MethodName)) ∈ wA := wA_of (List.mem_of_getElem? (i := 278) (by decide +kernel)) (by decide +kernel)
theorem m_279 : (Jvm.Cond.methodLink "DocumentBytes$Reader" (62 : Nat) ({ cls := "DocumentBytes$Nodes", name := "parent", desc := "(I)I" } : Jvm.MethodName)) ∈ wA := wA_of (List.mem_of_getElem? (i := 279) (by decide +kernel)) (by decide +kernel)
theorem m_280 : (Jvm.Cond.instanceMethod ({ cls := "DocumentBytes$Nodes", name := "parent", desc := "(I)I" } : Jvm.MethodName)) ∈ wA := wA_of (List.mem_of_getElem? (i := 280) (by decide +kernel)) (by decide +kernel)
theorem m_281 : (Jvm.Cond.selects "DocumentBytes$Nodes" ({ cls := "DocumentBytes$Nodes", name := "parent", desc := "(I)I" } : Jvm.MethodName) ({ cls := "DocumentBytes$Nodes", name := "parent", desc := "(I)I" } : Jvm.MethodName)) ∈ wA := wA_of (List.mem_of_getElem? (i := 281) (by decide +kernel)) (by decide +kernel)
theorem m_282 : (Jvm.Cond.code ({ cls := "DocumentBytes$Nodes", name := "parent", desc := "(I)I" } : Jvm.MethodName) prog_4_method_8_code (2 : Nat) (Option.some Jvm.ClassFile.FieldType.int)) ∈ wA := wA_of (List.mem_of_getElem? (i := 282) (by decide +kernel)) (by decide +kernel)
theorem m_283 : (Jvm.Cond.methodLink "DocumentBytes$Reader" (49 : Nat) ({ cls := "DocumentBytes$Reader", name := "readElement", desc := "(I)V" } : Jvm.MethodName)) ∈ wA := wA_of (List.mem_of_getElem? (i := 283) (by decide +kernel)) (by decide +kernel)
theorem m_285 : (Jvm.Cond.instanceMethod ({ cls := "DocumentBytes$Reader", name := "readElement", desc := "(I)V" } : Jvm.MethodName)) ∈ wA := wA_of (List.mem_of_getElem? (i := 285) (by decide +kernel)) (by decide +kernel)
theorem m_286 : (Jvm.Cond.code ({ cls := "DocumentBytes$Reader", name := "readElement", desc := "(I)V" } : Jvm.MethodName) prog_5_method_6_code (5 : Nat) (Option.none : Option Jvm.ClassFile.FieldType)) ∈ wA := wA_of (List.mem_of_getElem? (i := 286) (by decide +kernel)) (by decide +kernel)
theorem m_287 : (Jvm.Cond.methodLink "DocumentBytes$Reader" (65 : Nat) ({ cls := "DocumentBytes$Kinds", name := "isKind", desc := "(I)Z" } : Jvm.MethodName)) ∈ wA := wA_of (List.mem_of_getElem? (i := 287) (by decide +kernel)) (by decide +kernel)
theorem m_288 : (Jvm.Cond.static ({ cls := "DocumentBytes$Kinds", name := "isKind", desc := "(I)Z" } : Jvm.MethodName)) ∈ wA := wA_of (List.mem_of_getElem? (i := 288) (by decide +kernel)) (by decide +kernel)
theorem m_289 : (Jvm.Cond.code ({ cls := "DocumentBytes$Kinds", name := "isKind", desc := "(I)Z" } : Jvm.MethodName) prog_3_method_2_code (1 : Nat) (Option.some Jvm.ClassFile.FieldType.boolean)) ∈ wA := wA_of (List.mem_of_getElem? (i := 289) (by decide +kernel)) (by decide +kernel)
theorem m_290 : (Jvm.Cond.methodLink "DocumentBytes$Kinds" (9 : Nat) ({ cls := "DocumentBytes$Kinds", name := "holdsElements", desc := "(I)Z" } : Jvm.MethodName)) ∈ wA := wA_of (List.mem_of_getElem? (i := 290) (by decide +kernel)) (by decide +kernel)
theorem m_291 : (Jvm.Cond.methodLink "DocumentBytes$Kinds" (15 : Nat) ({ cls := "DocumentBytes$Kinds", name := "width", desc := "(I)I" } : Jvm.MethodName)) ∈ wA := wA_of (List.mem_of_getElem? (i := 291) (by decide +kernel)) (by decide +kernel)
theorem m_292 : (Jvm.Cond.static ({ cls := "DocumentBytes$Kinds", name := "width", desc := "(I)I" } : Jvm.MethodName)) ∈ wA := wA_of (List.mem_of_getElem? (i := 292) (by decide +kernel)) (by decide +kernel)
theorem m_293 : (Jvm.Cond.code ({ cls := "DocumentBytes$Kinds", name := "width", desc := "(I)I" } : Jvm.MethodName) prog_3_method_4_code (1 : Nat) (Option.some Jvm.ClassFile.FieldType.int)) ∈ wA := wA_of (List.mem_of_getElem? (i := 293) (by decide +kernel)) (by decide +kernel)
theorem m_294 : (Jvm.Cond.methodLink "DocumentBytes$Reader" (71 : Nat) ({ cls := "DocumentBytes$Reader", name := "readName", desc := "(I)V" } : Jvm.MethodName)) ∈ wA := wA_of (List.mem_of_getElem? (i := 294) (by decide +kernel)) (by decide +kernel)
theorem m_296 : (Jvm.Cond.instanceMethod ({ cls := "DocumentBytes$Reader", name := "readName", desc := "(I)V" } : Jvm.MethodName)) ∈ wA := wA_of (List.mem_of_getElem? (i := 296) (by decide +kernel)) (by decide +kernel)
theorem m_297 : (Jvm.Cond.code ({ cls := "DocumentBytes$Reader", name := "readName", desc := "(I)V" } : Jvm.MethodName) prog_5_method_7_code (5 : Nat) (Option.none : Option Jvm.ClassFile.FieldType)) ∈ wA := wA_of (List.mem_of_getElem? (i := 297) (by decide +kernel)) (by decide +kernel)
theorem m_298 : (Jvm.Cond.methodLink "DocumentBytes$Reader" (87 : Nat) ({ cls := "DocumentBytes$Bytes", name := "firstZero", desc := "(II)I" } : Jvm.MethodName)) ∈ wA := wA_of (List.mem_of_getElem? (i := 298) (by decide +kernel)) (by decide +kernel)
theorem m_299 : (Jvm.Cond.instanceMethod ({ cls := "DocumentBytes$Bytes", name := "firstZero", desc := "(II)I" } : Jvm.MethodName)) ∈ wA := wA_of (List.mem_of_getElem? (i := 299) (by decide +kernel)) (by decide +kernel)
theorem m_300 : (Jvm.Cond.selects "DocumentBytes$Bytes" ({ cls := "DocumentBytes$Bytes", name := "firstZero", desc := "(II)I" } : Jvm.MethodName) ({ cls := "DocumentBytes$Bytes", name := "firstZero", desc := "(II)I" } : Jvm.MethodName)) ∈ wA := wA_of (List.mem_of_getElem? (i := 300) (by decide +kernel)) (by decide +kernel)
theorem m_301 : (Jvm.Cond.code ({ cls := "DocumentBytes$Bytes", name := "firstZero", desc := "(II)I" } : Jvm.MethodName) prog_2_method_7_code (4 : Nat) (Option.some Jvm.ClassFile.FieldType.int)) ∈ wA := wA_of (List.mem_of_getElem? (i := 301) (by decide +kernel)) (by decide +kernel)
theorem m_302 : (Jvm.Cond.methodLink "DocumentBytes$Reader" (91 : Nat) ({ cls := "DocumentBytes$Utf8", name := "firstWrong", desc := "(LDocumentBytes$Bytes;II)I" } : Jvm.MethodName)) ∈ wA := wA_of (List.mem_of_getElem? (i := 302) (by decide +kernel)) (by decide +kernel)
theorem m_303 : (Jvm.Cond.static ({ cls := "DocumentBytes$Utf8", name := "firstWrong", desc := "(LDocumentBytes$Bytes;II)I" } : Jvm.MethodName)) ∈ wA := wA_of (List.mem_of_getElem? (i := 303) (by decide +kernel)) (by decide +kernel)
theorem m_304 : (Jvm.Cond.code ({ cls := "DocumentBytes$Utf8", name := "firstWrong", desc := "(LDocumentBytes$Bytes;II)I" } : Jvm.MethodName) prog_6_method_2_code (6 : Nat) (Option.some Jvm.ClassFile.FieldType.int)) ∈ wA := wA_of (List.mem_of_getElem? (i := 304) (by decide +kernel)) (by decide +kernel)
theorem m_305 : (Jvm.Cond.methodLink "DocumentBytes$Utf8" (9 : Nat) ({ cls := "DocumentBytes$Bytes", name := "get", desc := "(I)I" } : Jvm.MethodName)) ∈ wA := wA_of (List.mem_of_getElem? (i := 305) (by decide +kernel)) (by decide +kernel)
theorem m_306 : (Jvm.Cond.methodLink "DocumentBytes$Utf8" (15 : Nat) ({ cls := "DocumentBytes$Utf8", name := "lengthBehind", desc := "(I)I" } : Jvm.MethodName)) ∈ wA := wA_of (List.mem_of_getElem? (i := 306) (by decide +kernel)) (by decide +kernel)
theorem m_307 : (Jvm.Cond.static ({ cls := "DocumentBytes$Utf8", name := "lengthBehind", desc := "(I)I" } : Jvm.MethodName)) ∈ wA := wA_of (List.mem_of_getElem? (i := 307) (by decide +kernel)) (by decide +kernel)
theorem m_308 : (Jvm.Cond.code ({ cls := "DocumentBytes$Utf8", name := "lengthBehind", desc := "(I)I" } : Jvm.MethodName) prog_6_method_3_code (1 : Nat) (Option.some Jvm.ClassFile.FieldType.int)) ∈ wA := wA_of (List.mem_of_getElem? (i := 308) (by decide +kernel)) (by decide +kernel)
theorem m_309 : (Jvm.Cond.methodLink "DocumentBytes$Utf8" (20 : Nat) ({ cls := "DocumentBytes$Utf8", name := "isRight", desc := "(LDocumentBytes$Bytes;II)Z" } : Jvm.MethodName)) ∈ wA := wA_of (List.mem_of_getElem? (i := 309) (by decide +kernel)) (by decide +kernel)
theorem m_310 : (Jvm.Cond.static ({ cls := "DocumentBytes$Utf8", name := "isRight", desc := "(LDocumentBytes$Bytes;II)Z" } : Jvm.MethodName)) ∈ wA := wA_of (List.mem_of_getElem? (i := 310) (by decide +kernel)) (by decide +kernel)
theorem m_311 : (Jvm.Cond.code ({ cls := "DocumentBytes$Utf8", name := "isRight", desc := "(LDocumentBytes$Bytes;II)Z" } : Jvm.MethodName) prog_6_method_4_code (8 : Nat) (Option.some Jvm.ClassFile.FieldType.boolean)) ∈ wA := wA_of (List.mem_of_getElem? (i := 311) (by decide +kernel)) (by decide +kernel)
theorem m_312 : (Jvm.Cond.methodLink "DocumentBytes$Reader" (97 : Nat) ({ cls := "DocumentBytes$Nodes", name := "kind", desc := "(I)I" } : Jvm.MethodName)) ∈ wA := wA_of (List.mem_of_getElem? (i := 312) (by decide +kernel)) (by decide +kernel)
theorem m_313 : (Jvm.Cond.instanceMethod ({ cls := "DocumentBytes$Nodes", name := "kind", desc := "(I)I" } : Jvm.MethodName)) ∈ wA := wA_of (List.mem_of_getElem? (i := 313) (by decide +kernel)) (by decide +kernel)
theorem m_314 : (Jvm.Cond.selects "DocumentBytes$Nodes" ({ cls := "DocumentBytes$Nodes", name := "kind", desc := "(I)I" } : Jvm.MethodName) ({ cls := "DocumentBytes$Nodes", name := "kind", desc := "(I)I" } : Jvm.MethodName)) ∈ wA := wA_of (List.mem_of_getElem? (i := 314) (by decide +kernel)) (by decide +kernel)
theorem m_315 : (Jvm.Cond.code ({ cls := "DocumentBytes$Nodes", name := "kind", desc := "(I)I" } : Jvm.MethodName) prog_4_method_7_code (2 : Nat) (Option.some Jvm.ClassFile.FieldType.int)) ∈ wA := wA_of (List.mem_of_getElem? (i := 315) (by decide +kernel)) (by decide +kernel)
theorem m_316 : (Jvm.Cond.methodLink "DocumentBytes$Reader" (100 : Nat) ({ cls := "DocumentBytes$Nodes", name := "elements", desc := "(I)I" } : Jvm.MethodName)) ∈ wA := wA_of (List.mem_of_getElem? (i := 316) (by decide +kernel)) (by decide +kernel)
theorem m_317 : (Jvm.Cond.instanceMethod ({ cls := "DocumentBytes$Nodes", name := "elements", desc := "(I)I" } : Jvm.MethodName)) ∈ wA := wA_of (List.mem_of_getElem? (i := 317) (by decide +kernel)) (by decide +kernel)
theorem m_318 : (Jvm.Cond.selects "DocumentBytes$Nodes" ({ cls := "DocumentBytes$Nodes", name := "elements", desc := "(I)I" } : Jvm.MethodName) ({ cls := "DocumentBytes$Nodes", name := "elements", desc := "(I)I" } : Jvm.MethodName)) ∈ wA := wA_of (List.mem_of_getElem? (i := 318) (by decide +kernel)) (by decide +kernel)
theorem m_319 : (Jvm.Cond.code ({ cls := "DocumentBytes$Nodes", name := "elements", desc := "(I)I" } : Jvm.MethodName) prog_4_method_15_code (2 : Nat) (Option.some Jvm.ClassFile.FieldType.int)) ∈ wA := wA_of (List.mem_of_getElem? (i := 319) (by decide +kernel)) (by decide +kernel)
theorem m_320 : (Jvm.Cond.methodLink "DocumentBytes$Reader" (103 : Nat) ({ cls := "DocumentBytes$Bytes", name := "hasDecimal", desc := "(III)Z" } : Jvm.MethodName)) ∈ wA := wA_of (List.mem_of_getElem? (i := 320) (by decide +kernel)) (by decide +kernel)
theorem m_321 : (Jvm.Cond.instanceMethod ({ cls := "DocumentBytes$Bytes", name := "hasDecimal", desc := "(III)Z" } : Jvm.MethodName)) ∈ wA := wA_of (List.mem_of_getElem? (i := 321) (by decide +kernel)) (by decide +kernel)
theorem m_322 : (Jvm.Cond.selects "DocumentBytes$Bytes" ({ cls := "DocumentBytes$Bytes", name := "hasDecimal", desc := "(III)Z" } : Jvm.MethodName) ({ cls := "DocumentBytes$Bytes", name := "hasDecimal", desc := "(III)Z" } : Jvm.MethodName)) ∈ wA := wA_of (List.mem_of_getElem? (i := 322) (by decide +kernel)) (by decide +kernel)
theorem m_323 : (Jvm.Cond.code ({ cls := "DocumentBytes$Bytes", name := "hasDecimal", desc := "(III)Z" } : Jvm.MethodName) prog_2_method_12_code (6 : Nat) (Option.some Jvm.ClassFile.FieldType.boolean)) ∈ wA := wA_of (List.mem_of_getElem? (i := 323) (by decide +kernel)) (by decide +kernel)
theorem m_324 : (Jvm.Cond.methodLink "DocumentBytes$Bytes" (30 : Nat) ({ cls := "DocumentBytes$Bytes", name := "digits", desc := "(I)I" } : Jvm.MethodName)) ∈ wA := wA_of (List.mem_of_getElem? (i := 324) (by decide +kernel)) (by decide +kernel)
theorem m_325 : (Jvm.Cond.static ({ cls := "DocumentBytes$Bytes", name := "digits", desc := "(I)I" } : Jvm.MethodName)) ∈ wA := wA_of (List.mem_of_getElem? (i := 325) (by decide +kernel)) (by decide +kernel)
theorem m_326 : (Jvm.Cond.code ({ cls := "DocumentBytes$Bytes", name := "digits", desc := "(I)I" } : Jvm.MethodName) prog_2_method_10_code (1 : Nat) (Option.some Jvm.ClassFile.FieldType.int)) ∈ wA := wA_of (List.mem_of_getElem? (i := 326) (by decide +kernel)) (by decide +kernel)
theorem m_327 : (Jvm.Cond.methodLink "DocumentBytes$Reader" (107 : Nat) ({ cls := "DocumentBytes$Nodes", name := "named", desc := "(ILDocumentBytes$Bytes;II)I" } : Jvm.MethodName)) ∈ wA := wA_of (List.mem_of_getElem? (i := 327) (by decide +kernel)) (by decide +kernel)
theorem m_328 : (Jvm.Cond.instanceMethod ({ cls := "DocumentBytes$Nodes", name := "named", desc := "(ILDocumentBytes$Bytes;II)I" } : Jvm.MethodName)) ∈ wA := wA_of (List.mem_of_getElem? (i := 328) (by decide +kernel)) (by decide +kernel)
theorem m_329 : (Jvm.Cond.selects "DocumentBytes$Nodes" ({ cls := "DocumentBytes$Nodes", name := "named", desc := "(ILDocumentBytes$Bytes;II)I" } : Jvm.MethodName) ({ cls := "DocumentBytes$Nodes", name := "named", desc := "(ILDocumentBytes$Bytes;II)I" } : Jvm.MethodName)) ∈ wA := wA_of (List.mem_of_getElem? (i := 329) (by decide +kernel)) (by decide +kernel)
theorem m_330 : (Jvm.Cond.code ({ cls := "DocumentBytes$Nodes", name := "named", desc := "(ILDocumentBytes$Bytes;II)I" } : Jvm.MethodName) prog_4_method_21_code (6 : Nat) (Option.some Jvm.ClassFile.FieldType.int)) ∈ wA := wA_of (List.mem_of_getElem? (i := 330) (by decide +kernel)) (by decide +kernel)
theorem m_331 : (Jvm.Cond.methodLink "DocumentBytes$Nodes" (65 : Nat) ({ cls := "DocumentBytes$Nodes", name := "parent", desc := "(I)I" } : Jvm.MethodName)) ∈ wA := wA_of (List.mem_of_getElem? (i := 331) (by decide +kernel)) (by decide +kernel)
theorem m_332 : (Jvm.Cond.methodLink "DocumentBytes$Nodes" (100 : Nat) ({ cls := "DocumentBytes$Nodes", name := "nameLength", desc := "(I)I" } : Jvm.MethodName)) ∈ wA := wA_of (List.mem_of_getElem? (i := 332) (by decide +kernel)) (by decide +kernel)
theorem m_333 : (Jvm.Cond.instanceMethod ({ cls := "DocumentBytes$Nodes", name := "nameLength", desc := "(I)I" } : Jvm.MethodName)) ∈ wA := wA_of (List.mem_of_getElem? (i := 333) (by decide +kernel)) (by decide +kernel)
theorem m_334 : (Jvm.Cond.selects "DocumentBytes$Nodes" ({ cls := "DocumentBytes$Nodes", name := "nameLength", desc := "(I)I" } : Jvm.MethodName) ({ cls := "DocumentBytes$Nodes", name := "nameLength", desc := "(I)I" } : Jvm.MethodName)) ∈ wA := wA_of (List.mem_of_getElem? (i := 334) (by decide +kernel)) (by decide +kernel)
theorem m_335 : (Jvm.Cond.code ({ cls := "DocumentBytes$Nodes", name := "nameLength", desc := "(I)I" } : Jvm.MethodName) prog_4_method_11_code (2 : Nat) (Option.some Jvm.ClassFile.FieldType.int)) ∈ wA := wA_of (List.mem_of_getElem? (i := 335) (by decide +kernel)) (by decide +kernel)
theorem m_336 : (Jvm.Cond.methodLink "DocumentBytes$Nodes" (103 : Nat) ({ cls := "DocumentBytes$Nodes", name := "name", desc := "(I)I" } : Jvm.MethodName)) ∈ wA := wA_of (List.mem_of_getElem? (i := 336) (by decide +kernel)) (by decide +kernel)
theorem m_337 : (Jvm.Cond.instanceMethod ({ cls := "DocumentBytes$Nodes", name := "name", desc := "(I)I" } : Jvm.MethodName)) ∈ wA := wA_of (List.mem_of_getElem? (i := 337) (by decide +kernel)) (by decide +kernel)
theorem m_338 : (Jvm.Cond.selects "DocumentBytes$Nodes" ({ cls := "DocumentBytes$Nodes", name := "name", desc := "(I)I" } : Jvm.MethodName) ({ cls := "DocumentBytes$Nodes", name := "name", desc := "(I)I" } : Jvm.MethodName)) ∈ wA := wA_of (List.mem_of_getElem? (i := 338) (by decide +kernel)) (by decide +kernel)
theorem m_339 : (Jvm.Cond.code ({ cls := "DocumentBytes$Nodes", name := "name", desc := "(I)I" } : Jvm.MethodName) prog_4_method_10_code (2 : Nat) (Option.some Jvm.ClassFile.FieldType.int)) ∈ wA := wA_of (List.mem_of_getElem? (i := 339) (by decide +kernel)) (by decide +kernel)
theorem m_340 : (Jvm.Cond.methodLink "DocumentBytes$Nodes" (106 : Nat) ({ cls := "DocumentBytes$Bytes", name := "equalsAt", desc := "(ILDocumentBytes$Bytes;II)Z" } : Jvm.MethodName)) ∈ wA := wA_of (List.mem_of_getElem? (i := 340) (by decide +kernel)) (by decide +kernel)
theorem m_341 : (Jvm.Cond.instanceMethod ({ cls := "DocumentBytes$Bytes", name := "equalsAt", desc := "(ILDocumentBytes$Bytes;II)Z" } : Jvm.MethodName)) ∈ wA := wA_of (List.mem_of_getElem? (i := 341) (by decide +kernel)) (by decide +kernel)
theorem m_342 : (Jvm.Cond.selects "DocumentBytes$Bytes" ({ cls := "DocumentBytes$Bytes", name := "equalsAt", desc := "(ILDocumentBytes$Bytes;II)Z" } : Jvm.MethodName) ({ cls := "DocumentBytes$Bytes", name := "equalsAt", desc := "(ILDocumentBytes$Bytes;II)Z" } : Jvm.MethodName)) ∈ wA := wA_of (List.mem_of_getElem? (i := 342) (by decide +kernel)) (by decide +kernel)
theorem m_343 : (Jvm.Cond.code ({ cls := "DocumentBytes$Bytes", name := "equalsAt", desc := "(ILDocumentBytes$Bytes;II)Z" } : Jvm.MethodName) prog_2_method_13_code (6 : Nat) (Option.some Jvm.ClassFile.FieldType.boolean)) ∈ wA := wA_of (List.mem_of_getElem? (i := 343) (by decide +kernel)) (by decide +kernel)
theorem m_344 : (Jvm.Cond.methodLink "DocumentBytes$Reader" (74 : Nat) ({ cls := "DocumentBytes$Kinds", name := "holdsElements", desc := "(I)Z" } : Jvm.MethodName)) ∈ wA := wA_of (List.mem_of_getElem? (i := 344) (by decide +kernel)) (by decide +kernel)
theorem m_345 : (Jvm.Cond.methodLink "DocumentBytes$Reader" (77 : Nat) ({ cls := "DocumentBytes$Reader", name := "readText", desc := "(I)V" } : Jvm.MethodName)) ∈ wA := wA_of (List.mem_of_getElem? (i := 345) (by decide +kernel)) (by decide +kernel)
theorem m_347 : (Jvm.Cond.instanceMethod ({ cls := "DocumentBytes$Reader", name := "readText", desc := "(I)V" } : Jvm.MethodName)) ∈ wA := wA_of (List.mem_of_getElem? (i := 347) (by decide +kernel)) (by decide +kernel)
theorem m_348 : (Jvm.Cond.code ({ cls := "DocumentBytes$Reader", name := "readText", desc := "(I)V" } : Jvm.MethodName) prog_5_method_9_code (7 : Nat) (Option.none : Option Jvm.ClassFile.FieldType)) ∈ wA := wA_of (List.mem_of_getElem? (i := 348) (by decide +kernel)) (by decide +kernel)
theorem m_349 : (Jvm.Cond.methodLink "DocumentBytes$Reader" (80 : Nat) ({ cls := "DocumentBytes$Reader", name := "readNumber", desc := "(II)V" } : Jvm.MethodName)) ∈ wA := wA_of (List.mem_of_getElem? (i := 349) (by decide +kernel)) (by decide +kernel)
theorem m_351 : (Jvm.Cond.instanceMethod ({ cls := "DocumentBytes$Reader", name := "readNumber", desc := "(II)V" } : Jvm.MethodName)) ∈ wA := wA_of (List.mem_of_getElem? (i := 351) (by decide +kernel)) (by decide +kernel)
theorem m_352 : (Jvm.Cond.code ({ cls := "DocumentBytes$Reader", name := "readNumber", desc := "(II)V" } : Jvm.MethodName) prog_5_method_10_code (4 : Nat) (Option.none : Option Jvm.ClassFile.FieldType)) ∈ wA := wA_of (List.mem_of_getElem? (i := 352) (by decide +kernel)) (by decide +kernel)
theorem m_353 : (Jvm.Cond.methodLink "DocumentBytes$Reader" (120 : Nat) ({ cls := "DocumentBytes$Kinds", name := "width", desc := "(I)I" } : Jvm.MethodName)) ∈ wA := wA_of (List.mem_of_getElem? (i := 353) (by decide +kernel)) (by decide +kernel)
theorem m_354 : (Jvm.Cond.methodLink "DocumentBytes" (72 : Nat) ({ cls := "DocumentBytes$Reader", name := "faultPlace", desc := "()I" } : Jvm.MethodName)) ∈ wA := wA_of (List.mem_of_getElem? (i := 354) (by decide +kernel)) (by decide +kernel)
theorem m_355 : (Jvm.Cond.instanceMethod ({ cls := "DocumentBytes$Reader", name := "faultPlace", desc := "()I" } : Jvm.MethodName)) ∈ wA := wA_of (List.mem_of_getElem? (i := 355) (by decide +kernel)) (by decide +kernel)
theorem m_356 : (Jvm.Cond.selects "DocumentBytes$Reader" ({ cls := "DocumentBytes$Reader", name := "faultPlace", desc := "()I" } : Jvm.MethodName) ({ cls := "DocumentBytes$Reader", name := "faultPlace", desc := "()I" } : Jvm.MethodName)) ∈ wA := wA_of (List.mem_of_getElem? (i := 356) (by decide +kernel)) (by decide +kernel)
theorem m_357 : (Jvm.Cond.code ({ cls := "DocumentBytes$Reader", name := "faultPlace", desc := "()I" } : Jvm.MethodName) prog_5_method_2_code (1 : Nat) (Option.some Jvm.ClassFile.FieldType.int)) ∈ wA := wA_of (List.mem_of_getElem? (i := 357) (by decide +kernel)) (by decide +kernel)
theorem m_358 : (Jvm.Cond.methodLink "DocumentBytes" (74 : Nat) ({ cls := "DocumentBytes$Bytes", name := "clear", desc := "()V" } : Jvm.MethodName)) ∈ wA := wA_of (List.mem_of_getElem? (i := 358) (by decide +kernel)) (by decide +kernel)
theorem m_359 : (Jvm.Cond.instanceMethod ({ cls := "DocumentBytes$Bytes", name := "clear", desc := "()V" } : Jvm.MethodName)) ∈ wA := wA_of (List.mem_of_getElem? (i := 359) (by decide +kernel)) (by decide +kernel)
theorem m_360 : (Jvm.Cond.selects "DocumentBytes$Bytes" ({ cls := "DocumentBytes$Bytes", name := "clear", desc := "()V" } : Jvm.MethodName) ({ cls := "DocumentBytes$Bytes", name := "clear", desc := "()V" } : Jvm.MethodName)) ∈ wA := wA_of (List.mem_of_getElem? (i := 360) (by decide +kernel)) (by decide +kernel)
theorem m_361 : (Jvm.Cond.code ({ cls := "DocumentBytes$Bytes", name := "clear", desc := "()V" } : Jvm.MethodName) prog_2_method_3_code (1 : Nat) (Option.none : Option Jvm.ClassFile.FieldType)) ∈ wA := wA_of (List.mem_of_getElem? (i := 361) (by decide +kernel)) (by decide +kernel)
theorem m_362 : (Jvm.Cond.methodLink "DocumentBytes" (77 : Nat) ({ cls := "DocumentBytes$Bytes", name := "appendFrom", desc := "(LDocumentBytes$Bytes;II)V" } : Jvm.MethodName)) ∈ wA := wA_of (List.mem_of_getElem? (i := 362) (by decide +kernel)) (by decide +kernel)
theorem m_363 : (Jvm.Cond.instanceMethod ({ cls := "DocumentBytes$Bytes", name := "appendFrom", desc := "(LDocumentBytes$Bytes;II)V" } : Jvm.MethodName)) ∈ wA := wA_of (List.mem_of_getElem? (i := 363) (by decide +kernel)) (by decide +kernel)
theorem m_364 : (Jvm.Cond.selects "DocumentBytes$Bytes" ({ cls := "DocumentBytes$Bytes", name := "appendFrom", desc := "(LDocumentBytes$Bytes;II)V" } : Jvm.MethodName) ({ cls := "DocumentBytes$Bytes", name := "appendFrom", desc := "(LDocumentBytes$Bytes;II)V" } : Jvm.MethodName)) ∈ wA := wA_of (List.mem_of_getElem? (i := 364) (by decide +kernel)) (by decide +kernel)
theorem m_365 : (Jvm.Cond.code ({ cls := "DocumentBytes$Bytes", name := "appendFrom", desc := "(LDocumentBytes$Bytes;II)V" } : Jvm.MethodName) prog_2_method_17_code (5 : Nat) (Option.none : Option Jvm.ClassFile.FieldType)) ∈ wA := wA_of (List.mem_of_getElem? (i := 365) (by decide +kernel)) (by decide +kernel)
theorem m_366 : (Jvm.Cond.methodLink "DocumentBytes$Bytes" (48 : Nat) ({ cls := "DocumentBytes$Bytes", name := "putFrom", desc := "(ILDocumentBytes$Bytes;II)V" } : Jvm.MethodName)) ∈ wA := wA_of (List.mem_of_getElem? (i := 366) (by decide +kernel)) (by decide +kernel)
theorem m_367 : (Jvm.Cond.instanceMethod ({ cls := "DocumentBytes$Bytes", name := "putFrom", desc := "(ILDocumentBytes$Bytes;II)V" } : Jvm.MethodName)) ∈ wA := wA_of (List.mem_of_getElem? (i := 367) (by decide +kernel)) (by decide +kernel)
theorem m_368 : (Jvm.Cond.selects "DocumentBytes$Bytes" ({ cls := "DocumentBytes$Bytes", name := "putFrom", desc := "(ILDocumentBytes$Bytes;II)V" } : Jvm.MethodName) ({ cls := "DocumentBytes$Bytes", name := "putFrom", desc := "(ILDocumentBytes$Bytes;II)V" } : Jvm.MethodName)) ∈ wA := wA_of (List.mem_of_getElem? (i := 368) (by decide +kernel)) (by decide +kernel)
theorem m_369 : (Jvm.Cond.code ({ cls := "DocumentBytes$Bytes", name := "putFrom", desc := "(ILDocumentBytes$Bytes;II)V" } : Jvm.MethodName) prog_2_method_16_code (5 : Nat) (Option.none : Option Jvm.ClassFile.FieldType)) ∈ wA := wA_of (List.mem_of_getElem? (i := 369) (by decide +kernel)) (by decide +kernel)
theorem m_370 : (Jvm.Cond.methodLink "DocumentBytesLaw" (23 : Nat) ({ cls := "DocumentBytes", name := "place", desc := "()I" } : Jvm.MethodName)) ∈ wA := wA_of (List.mem_of_getElem? (i := 370) (by decide +kernel)) (by decide +kernel)
theorem m_371 : (Jvm.Cond.instanceMethod ({ cls := "DocumentBytes", name := "place", desc := "()I" } : Jvm.MethodName)) ∈ wA := wA_of (List.mem_of_getElem? (i := 371) (by decide +kernel)) (by decide +kernel)
theorem m_372 : (Jvm.Cond.selects "DocumentBytes" ({ cls := "DocumentBytes", name := "place", desc := "()I" } : Jvm.MethodName) ({ cls := "DocumentBytes", name := "place", desc := "()I" } : Jvm.MethodName)) ∈ wA := wA_of (List.mem_of_getElem? (i := 372) (by decide +kernel)) (by decide +kernel)
theorem m_373 : (Jvm.Cond.code ({ cls := "DocumentBytes", name := "place", desc := "()I" } : Jvm.MethodName) prog_1_method_4_code (1 : Nat) (Option.some Jvm.ClassFile.FieldType.int)) ∈ wA := wA_of (List.mem_of_getElem? (i := 373) (by decide +kernel)) (by decide +kernel)
theorem m_374 : (Jvm.Cond.methodLink "DocumentBytesLaw" (28 : Nat) ({ cls := "DocumentBytes", name := "many", desc := "(II)I" } : Jvm.MethodName)) ∈ wA := wA_of (List.mem_of_getElem? (i := 374) (by decide +kernel)) (by decide +kernel)
theorem m_375 : (Jvm.Cond.instanceMethod ({ cls := "DocumentBytes", name := "many", desc := "(II)I" } : Jvm.MethodName)) ∈ wA := wA_of (List.mem_of_getElem? (i := 375) (by decide +kernel)) (by decide +kernel)
theorem m_376 : (Jvm.Cond.selects "DocumentBytes" ({ cls := "DocumentBytes", name := "many", desc := "(II)I" } : Jvm.MethodName) ({ cls := "DocumentBytes", name := "many", desc := "(II)I" } : Jvm.MethodName)) ∈ wA := wA_of (List.mem_of_getElem? (i := 376) (by decide +kernel)) (by decide +kernel)
theorem m_377 : (Jvm.Cond.code ({ cls := "DocumentBytes", name := "many", desc := "(II)I" } : Jvm.MethodName) prog_1_method_5_code (3 : Nat) (Option.some Jvm.ClassFile.FieldType.int)) ∈ wA := wA_of (List.mem_of_getElem? (i := 377) (by decide +kernel)) (by decide +kernel)
theorem m_378 : (Jvm.Cond.methodLink "DocumentBytes" (81 : Nat) ({ cls := "DocumentBytes", name := "hasNode", desc := "(II)Z" } : Jvm.MethodName)) ∈ wA := wA_of (List.mem_of_getElem? (i := 378) (by decide +kernel)) (by decide +kernel)
theorem m_380 : (Jvm.Cond.instanceMethod ({ cls := "DocumentBytes", name := "hasNode", desc := "(II)Z" } : Jvm.MethodName)) ∈ wA := wA_of (List.mem_of_getElem? (i := 380) (by decide +kernel)) (by decide +kernel)
theorem m_381 : (Jvm.Cond.code ({ cls := "DocumentBytes", name := "hasNode", desc := "(II)Z" } : Jvm.MethodName) prog_1_method_16_code (3 : Nat) (Option.some Jvm.ClassFile.FieldType.boolean)) ∈ wA := wA_of (List.mem_of_getElem? (i := 381) (by decide +kernel)) (by decide +kernel)
theorem m_382 : (Jvm.Cond.methodLink "DocumentBytes" (174 : Nat) ({ cls := "DocumentBytes$Nodes", name := "scan", desc := "(LDocumentBytes$Bytes;)V" } : Jvm.MethodName)) ∈ wA := wA_of (List.mem_of_getElem? (i := 382) (by decide +kernel)) (by decide +kernel)
theorem m_383 : (Jvm.Cond.instanceMethod ({ cls := "DocumentBytes$Nodes", name := "scan", desc := "(LDocumentBytes$Bytes;)V" } : Jvm.MethodName)) ∈ wA := wA_of (List.mem_of_getElem? (i := 383) (by decide +kernel)) (by decide +kernel)
theorem m_384 : (Jvm.Cond.selects "DocumentBytes$Nodes" ({ cls := "DocumentBytes$Nodes", name := "scan", desc := "(LDocumentBytes$Bytes;)V" } : Jvm.MethodName) ({ cls := "DocumentBytes$Nodes", name := "scan", desc := "(LDocumentBytes$Bytes;)V" } : Jvm.MethodName)) ∈ wA := wA_of (List.mem_of_getElem? (i := 384) (by decide +kernel)) (by decide +kernel)
theorem m_385 : (Jvm.Cond.code ({ cls := "DocumentBytes$Nodes", name := "scan", desc := "(LDocumentBytes$Bytes;)V" } : Jvm.MethodName) prog_4_method_4_code (10 : Nat) (Option.none : Option Jvm.ClassFile.FieldType)) ∈ wA := wA_of (List.mem_of_getElem? (i := 385) (by decide +kernel)) (by decide +kernel)
theorem m_386 : (Jvm.Cond.methodLink "DocumentBytes$Nodes" (47 : Nat) ({ cls := "DocumentBytes$Nodes", name := "begin", desc := "(LDocumentBytes$Bytes;)V" } : Jvm.MethodName)) ∈ wA := wA_of (List.mem_of_getElem? (i := 386) (by decide +kernel)) (by decide +kernel)
theorem m_387 : (Jvm.Cond.methodLink "DocumentBytes$Nodes" (51 : Nat) ({ cls := "DocumentBytes$Bytes", name := "size", desc := "()I" } : Jvm.MethodName)) ∈ wA := wA_of (List.mem_of_getElem? (i := 387) (by decide +kernel)) (by decide +kernel)
theorem m_388 : (Jvm.Cond.methodLink "DocumentBytes$Nodes" (57 : Nat) ({ cls := "DocumentBytes$Nodes", name := "append", desc := "(IIIII)I" } : Jvm.MethodName)) ∈ wA := wA_of (List.mem_of_getElem? (i := 388) (by decide +kernel)) (by decide +kernel)
theorem m_389 : (Jvm.Cond.methodLink "DocumentBytes$Nodes" (61 : Nat) ({ cls := "DocumentBytes$Nodes", name := "lastByte", desc := "(I)I" } : Jvm.MethodName)) ∈ wA := wA_of (List.mem_of_getElem? (i := 389) (by decide +kernel)) (by decide +kernel)
theorem m_390 : (Jvm.Cond.methodLink "DocumentBytes$Nodes" (68 : Nat) ({ cls := "DocumentBytes$Bytes", name := "get", desc := "(I)I" } : Jvm.MethodName)) ∈ wA := wA_of (List.mem_of_getElem? (i := 390) (by decide +kernel)) (by decide +kernel)
theorem m_391 : (Jvm.Cond.methodLink "DocumentBytes$Nodes" (71 : Nat) ({ cls := "DocumentBytes$Bytes", name := "firstZero", desc := "(II)I" } : Jvm.MethodName)) ∈ wA := wA_of (List.mem_of_getElem? (i := 391) (by decide +kernel)) (by decide +kernel)
theorem m_392 : (Jvm.Cond.methodLink "DocumentBytes$Nodes" (75 : Nat) ({ cls := "DocumentBytes$Kinds", name := "valueLength", desc := "(ILDocumentBytes$Bytes;I)I" } : Jvm.MethodName)) ∈ wA := wA_of (List.mem_of_getElem? (i := 392) (by decide +kernel)) (by decide +kernel)
theorem m_393 : (Jvm.Cond.static ({ cls := "DocumentBytes$Kinds", name := "valueLength", desc := "(ILDocumentBytes$Bytes;I)I" } : Jvm.MethodName)) ∈ wA := wA_of (List.mem_of_getElem? (i := 393) (by decide +kernel)) (by decide +kernel)
theorem m_394 : (Jvm.Cond.code ({ cls := "DocumentBytes$Kinds", name := "valueLength", desc := "(ILDocumentBytes$Bytes;I)I" } : Jvm.MethodName) prog_3_method_5_code (3 : Nat) (Option.some Jvm.ClassFile.FieldType.int)) ∈ wA := wA_of (List.mem_of_getElem? (i := 394) (by decide +kernel)) (by decide +kernel)
theorem m_395 : (Jvm.Cond.methodLink "DocumentBytes$Kinds" (19 : Nat) ({ cls := "DocumentBytes$Bytes", name := "numberAt", desc := "(II)J" } : Jvm.MethodName)) ∈ wA := wA_of (List.mem_of_getElem? (i := 395) (by decide +kernel)) (by decide +kernel)
theorem m_396 : (Jvm.Cond.methodLink "DocumentBytes" (84 : Nat) ({ cls := "DocumentBytes$Nodes", name := "count", desc := "()I" } : Jvm.MethodName)) ∈ wA := wA_of (List.mem_of_getElem? (i := 396) (by decide +kernel)) (by decide +kernel)
theorem m_397 : (Jvm.Cond.instanceMethod ({ cls := "DocumentBytes$Nodes", name := "count", desc := "()I" } : Jvm.MethodName)) ∈ wA := wA_of (List.mem_of_getElem? (i := 397) (by decide +kernel)) (by decide +kernel)
theorem m_398 : (Jvm.Cond.selects "DocumentBytes$Nodes" ({ cls := "DocumentBytes$Nodes", name := "count", desc := "()I" } : Jvm.MethodName) ({ cls := "DocumentBytes$Nodes", name := "count", desc := "()I" } : Jvm.MethodName)) ∈ wA := wA_of (List.mem_of_getElem? (i := 398) (by decide +kernel)) (by decide +kernel)
theorem m_399 : (Jvm.Cond.code ({ cls := "DocumentBytes$Nodes", name := "count", desc := "()I" } : Jvm.MethodName) prog_4_method_5_code (1 : Nat) (Option.some Jvm.ClassFile.FieldType.int)) ∈ wA := wA_of (List.mem_of_getElem? (i := 399) (by decide +kernel)) (by decide +kernel)
theorem m_400 : (Jvm.Cond.methodLink "DocumentBytes" (87 : Nat) ({ cls := "DocumentBytes$Nodes", name := "deepestIn", desc := "(I)I" } : Jvm.MethodName)) ∈ wA := wA_of (List.mem_of_getElem? (i := 400) (by decide +kernel)) (by decide +kernel)
theorem m_401 : (Jvm.Cond.instanceMethod ({ cls := "DocumentBytes$Nodes", name := "deepestIn", desc := "(I)I" } : Jvm.MethodName)) ∈ wA := wA_of (List.mem_of_getElem? (i := 401) (by decide +kernel)) (by decide +kernel)
theorem m_402 : (Jvm.Cond.selects "DocumentBytes$Nodes" ({ cls := "DocumentBytes$Nodes", name := "deepestIn", desc := "(I)I" } : Jvm.MethodName) ({ cls := "DocumentBytes$Nodes", name := "deepestIn", desc := "(I)I" } : Jvm.MethodName)) ∈ wA := wA_of (List.mem_of_getElem? (i := 402) (by decide +kernel)) (by decide +kernel)
theorem m_403 : (Jvm.Cond.code ({ cls := "DocumentBytes$Nodes", name := "deepestIn", desc := "(I)I" } : Jvm.MethodName) prog_4_method_19_code (5 : Nat) (Option.some Jvm.ClassFile.FieldType.int)) ∈ wA := wA_of (List.mem_of_getElem? (i := 403) (by decide +kernel)) (by decide +kernel)
theorem m_404 : (Jvm.Cond.methodLink "DocumentBytes$Nodes" (86 : Nat) ({ cls := "DocumentBytes$Nodes", name := "depth", desc := "(I)I" } : Jvm.MethodName)) ∈ wA := wA_of (List.mem_of_getElem? (i := 404) (by decide +kernel)) (by decide +kernel)
theorem m_405 : (Jvm.Cond.methodLink "DocumentBytes$Nodes" (83 : Nat) ({ cls := "DocumentBytes$Nodes", name := "behind", desc := "(I)I" } : Jvm.MethodName)) ∈ wA := wA_of (List.mem_of_getElem? (i := 405) (by decide +kernel)) (by decide +kernel)
theorem m_406 : (Jvm.Cond.instanceMethod ({ cls := "DocumentBytes$Nodes", name := "behind", desc := "(I)I" } : Jvm.MethodName)) ∈ wA := wA_of (List.mem_of_getElem? (i := 406) (by decide +kernel)) (by decide +kernel)
theorem m_407 : (Jvm.Cond.selects "DocumentBytes$Nodes" ({ cls := "DocumentBytes$Nodes", name := "behind", desc := "(I)I" } : Jvm.MethodName) ({ cls := "DocumentBytes$Nodes", name := "behind", desc := "(I)I" } : Jvm.MethodName)) ∈ wA := wA_of (List.mem_of_getElem? (i := 407) (by decide +kernel)) (by decide +kernel)
theorem m_408 : (Jvm.Cond.code ({ cls := "DocumentBytes$Nodes", name := "behind", desc := "(I)I" } : Jvm.MethodName) prog_4_method_17_code (3 : Nat) (Option.some Jvm.ClassFile.FieldType.int)) ∈ wA := wA_of (List.mem_of_getElem? (i := 408) (by decide +kernel)) (by decide +kernel)
theorem m_409 : (Jvm.Cond.methodLink "DocumentBytes$Nodes" (89 : Nat) ({ cls := "java/lang/Math", name := "max", desc := "(II)I" } : Jvm.MethodName)) ∈ wA := wA_of (List.mem_of_getElem? (i := 409) (by decide +kernel)) (by decide +kernel)
theorem m_410 : (Jvm.Cond.static ({ cls := "java/lang/Math", name := "max", desc := "(II)I" } : Jvm.MethodName)) ∈ wA := wA_of (List.mem_of_getElem? (i := 410) (by decide +kernel)) (by decide +kernel)
theorem m_411 : (Jvm.Cond.code ({ cls := "java/lang/Math", name := "max", desc := "(II)I" } : Jvm.MethodName) prog_10_method_65_code (2 : Nat) (Option.some Jvm.ClassFile.FieldType.int)) ∈ wA := wA_of (List.mem_of_getElem? (i := 411) (by decide +kernel)) (by decide +kernel)
theorem m_412 : (Jvm.Cond.methodLink "DocumentBytesLaw" (32 : Nat) ({ cls := "DocumentBytes", name := "byteAt", desc := "(II)I" } : Jvm.MethodName)) ∈ wA := wA_of (List.mem_of_getElem? (i := 412) (by decide +kernel)) (by decide +kernel)
theorem m_413 : (Jvm.Cond.instanceMethod ({ cls := "DocumentBytes", name := "byteAt", desc := "(II)I" } : Jvm.MethodName)) ∈ wA := wA_of (List.mem_of_getElem? (i := 413) (by decide +kernel)) (by decide +kernel)
theorem m_414 : (Jvm.Cond.selects "DocumentBytes" ({ cls := "DocumentBytes", name := "byteAt", desc := "(II)I" } : Jvm.MethodName) ({ cls := "DocumentBytes", name := "byteAt", desc := "(II)I" } : Jvm.MethodName)) ∈ wA := wA_of (List.mem_of_getElem? (i := 414) (by decide +kernel)) (by decide +kernel)
theorem m_415 : (Jvm.Cond.code ({ cls := "DocumentBytes", name := "byteAt", desc := "(II)I" } : Jvm.MethodName) prog_1_method_6_code (3 : Nat) (Option.some Jvm.ClassFile.FieldType.int)) ∈ wA := wA_of (List.mem_of_getElem? (i := 415) (by decide +kernel)) (by decide +kernel)
theorem m_416 : (Jvm.Cond.methodLink "DocumentBytes" (90 : Nat) ({ cls := "DocumentBytes$Bytes", name := "get", desc := "(I)I" } : Jvm.MethodName)) ∈ wA := wA_of (List.mem_of_getElem? (i := 416) (by decide +kernel)) (by decide +kernel)
theorem m_417 : (Jvm.Cond.methodLink "DocumentBytesLaw" (36 : Nat) ({ cls := "DocumentBytes", name := "look", desc := "(III)I" } : Jvm.MethodName)) ∈ wA := wA_of (List.mem_of_getElem? (i := 417) (by decide +kernel)) (by decide +kernel)
theorem m_418 : (Jvm.Cond.instanceMethod ({ cls := "DocumentBytes", name := "look", desc := "(III)I" } : Jvm.MethodName)) ∈ wA := wA_of (List.mem_of_getElem? (i := 418) (by decide +kernel)) (by decide +kernel)
theorem m_419 : (Jvm.Cond.selects "DocumentBytes" ({ cls := "DocumentBytes", name := "look", desc := "(III)I" } : Jvm.MethodName) ({ cls := "DocumentBytes", name := "look", desc := "(III)I" } : Jvm.MethodName)) ∈ wA := wA_of (List.mem_of_getElem? (i := 419) (by decide +kernel)) (by decide +kernel)
theorem m_420 : (Jvm.Cond.code ({ cls := "DocumentBytes", name := "look", desc := "(III)I" } : Jvm.MethodName) prog_1_method_7_code (4 : Nat) (Option.some Jvm.ClassFile.FieldType.int)) ∈ wA := wA_of (List.mem_of_getElem? (i := 420) (by decide +kernel)) (by decide +kernel)
theorem m_421 : (Jvm.Cond.methodLink "DocumentBytes" (93 : Nat) ({ cls := "DocumentBytes$Nodes", name := "kind", desc := "(I)I" } : Jvm.MethodName)) ∈ wA := wA_of (List.mem_of_getElem? (i := 421) (by decide +kernel)) (by decide +kernel)
theorem m_422 : (Jvm.Cond.methodLink "DocumentBytes" (96 : Nat) ({ cls := "DocumentBytes$Nodes", name := "parent", desc := "(I)I" } : Jvm.MethodName)) ∈ wA := wA_of (List.mem_of_getElem? (i := 422) (by decide +kernel)) (by decide +kernel)
theorem m_423 : (Jvm.Cond.methodLink "DocumentBytes" (99 : Nat) ({ cls := "DocumentBytes$Nodes", name := "elements", desc := "(I)I" } : Jvm.MethodName)) ∈ wA := wA_of (List.mem_of_getElem? (i := 423) (by decide +kernel)) (by decide +kernel)
theorem m_424 : (Jvm.Cond.methodLink "DocumentBytes" (102 : Nat) ({ cls := "DocumentBytes$Nodes", name := "nextBeside", desc := "(I)I" } : Jvm.MethodName)) ∈ wA := wA_of (List.mem_of_getElem? (i := 424) (by decide +kernel)) (by decide +kernel)
theorem m_425 : (Jvm.Cond.instanceMethod ({ cls := "DocumentBytes$Nodes", name := "nextBeside", desc := "(I)I" } : Jvm.MethodName)) ∈ wA := wA_of (List.mem_of_getElem? (i := 425) (by decide +kernel)) (by decide +kernel)
theorem m_426 : (Jvm.Cond.selects "DocumentBytes$Nodes" ({ cls := "DocumentBytes$Nodes", name := "nextBeside", desc := "(I)I" } : Jvm.MethodName) ({ cls := "DocumentBytes$Nodes", name := "nextBeside", desc := "(I)I" } : Jvm.MethodName)) ∈ wA := wA_of (List.mem_of_getElem? (i := 426) (by decide +kernel)) (by decide +kernel)
theorem m_427 : (Jvm.Cond.code ({ cls := "DocumentBytes$Nodes", name := "nextBeside", desc := "(I)I" } : Jvm.MethodName) prog_4_method_18_code (3 : Nat) (Option.some Jvm.ClassFile.FieldType.int)) ∈ wA := wA_of (List.mem_of_getElem? (i := 427) (by decide +kernel)) (by decide +kernel)
theorem m_428 : (Jvm.Cond.methodLink "DocumentBytes" (105 : Nat) ({ cls := "DocumentBytes$Nodes", name := "nameLength", desc := "(I)I" } : Jvm.MethodName)) ∈ wA := wA_of (List.mem_of_getElem? (i := 428) (by decide +kernel)) (by decide +kernel)
theorem m_429 : (Jvm.Cond.methodLink "DocumentBytes" (108 : Nat) ({ cls := "DocumentBytes$Nodes", name := "valueLength", desc := "(I)I" } : Jvm.MethodName)) ∈ wA := wA_of (List.mem_of_getElem? (i := 429) (by decide +kernel)) (by decide +kernel)
theorem m_430 : (Jvm.Cond.instanceMethod ({ cls := "DocumentBytes$Nodes", name := "valueLength", desc := "(I)I" } : Jvm.MethodName)) ∈ wA := wA_of (List.mem_of_getElem? (i := 430) (by decide +kernel)) (by decide +kernel)
theorem m_431 : (Jvm.Cond.selects "DocumentBytes$Nodes" ({ cls := "DocumentBytes$Nodes", name := "valueLength", desc := "(I)I" } : Jvm.MethodName) ({ cls := "DocumentBytes$Nodes", name := "valueLength", desc := "(I)I" } : Jvm.MethodName)) ∈ wA := wA_of (List.mem_of_getElem? (i := 431) (by decide +kernel)) (by decide +kernel)
theorem m_432 : (Jvm.Cond.code ({ cls := "DocumentBytes$Nodes", name := "valueLength", desc := "(I)I" } : Jvm.MethodName) prog_4_method_13_code (2 : Nat) (Option.some Jvm.ClassFile.FieldType.int)) ∈ wA := wA_of (List.mem_of_getElem? (i := 432) (by decide +kernel)) (by decide +kernel)
theorem m_433 : (Jvm.Cond.methodLink "DocumentBytes" (111 : Nat) ({ cls := "DocumentBytes$Nodes", name := "textLength", desc := "(I)I" } : Jvm.MethodName)) ∈ wA := wA_of (List.mem_of_getElem? (i := 433) (by decide +kernel)) (by decide +kernel)
theorem m_434 : (Jvm.Cond.instanceMethod ({ cls := "DocumentBytes$Nodes", name := "textLength", desc := "(I)I" } : Jvm.MethodName)) ∈ wA := wA_of (List.mem_of_getElem? (i := 434) (by decide +kernel)) (by decide +kernel)
theorem m_435 : (Jvm.Cond.selects "DocumentBytes$Nodes" ({ cls := "DocumentBytes$Nodes", name := "textLength", desc := "(I)I" } : Jvm.MethodName) ({ cls := "DocumentBytes$Nodes", name := "textLength", desc := "(I)I" } : Jvm.MethodName)) ∈ wA := wA_of (List.mem_of_getElem? (i := 435) (by decide +kernel)) (by decide +kernel)
theorem m_436 : (Jvm.Cond.code ({ cls := "DocumentBytes$Nodes", name := "textLength", desc := "(I)I" } : Jvm.MethodName) prog_4_method_14_code (2 : Nat) (Option.some Jvm.ClassFile.FieldType.int)) ∈ wA := wA_of (List.mem_of_getElem? (i := 436) (by decide +kernel)) (by decide +kernel)
theorem m_437 : (Jvm.Cond.methodLink "DocumentBytes" (114 : Nat) ({ cls := "DocumentBytes$Nodes", name := "depth", desc := "(I)I" } : Jvm.MethodName)) ∈ wA := wA_of (List.mem_of_getElem? (i := 437) (by decide +kernel)) (by decide +kernel)
theorem m_438 : (Jvm.Cond.methodLink "DocumentBytesLaw" (41 : Nat) ({ cls := "DocumentBytes", name := "number", desc := "(II)J" } : Jvm.MethodName)) ∈ wA := wA_of (List.mem_of_getElem? (i := 438) (by decide +kernel)) (by decide +kernel)
theorem m_439 : (Jvm.Cond.instanceMethod ({ cls := "DocumentBytes", name := "number", desc := "(II)J" } : Jvm.MethodName)) ∈ wA := wA_of (List.mem_of_getElem? (i := 439) (by decide +kernel)) (by decide +kernel)
theorem m_440 : (Jvm.Cond.selects "DocumentBytes" ({ cls := "DocumentBytes", name := "number", desc := "(II)J" } : Jvm.MethodName) ({ cls := "DocumentBytes", name := "number", desc := "(II)J" } : Jvm.MethodName)) ∈ wA := wA_of (List.mem_of_getElem? (i := 440) (by decide +kernel)) (by decide +kernel)
theorem m_441 : (Jvm.Cond.code ({ cls := "DocumentBytes", name := "number", desc := "(II)J" } : Jvm.MethodName) prog_1_method_8_code (6 : Nat) (Option.some Jvm.ClassFile.FieldType.long)) ∈ wA := wA_of (List.mem_of_getElem? (i := 441) (by decide +kernel)) (by decide +kernel)
theorem m_442 : (Jvm.Cond.methodLink "DocumentBytes" (117 : Nat) ({ cls := "DocumentBytes$Nodes", name := "value", desc := "(I)I" } : Jvm.MethodName)) ∈ wA := wA_of (List.mem_of_getElem? (i := 442) (by decide +kernel)) (by decide +kernel)
theorem m_443 : (Jvm.Cond.instanceMethod ({ cls := "DocumentBytes$Nodes", name := "value", desc := "(I)I" } : Jvm.MethodName)) ∈ wA := wA_of (List.mem_of_getElem? (i := 443) (by decide +kernel)) (by decide +kernel)
theorem m_444 : (Jvm.Cond.selects "DocumentBytes$Nodes" ({ cls := "DocumentBytes$Nodes", name := "value", desc := "(I)I" } : Jvm.MethodName) ({ cls := "DocumentBytes$Nodes", name := "value", desc := "(I)I" } : Jvm.MethodName)) ∈ wA := wA_of (List.mem_of_getElem? (i := 444) (by decide +kernel)) (by decide +kernel)
theorem m_445 : (Jvm.Cond.code ({ cls := "DocumentBytes$Nodes", name := "value", desc := "(I)I" } : Jvm.MethodName) prog_4_method_12_code (2 : Nat) (Option.some Jvm.ClassFile.FieldType.int)) ∈ wA := wA_of (List.mem_of_getElem? (i := 445) (by decide +kernel)) (by decide +kernel)
theorem m_446 : (Jvm.Cond.methodLink "DocumentBytes" (120 : Nat) ({ cls := "DocumentBytes$Kinds", name := "width", desc := "(I)I" } : Jvm.MethodName)) ∈ wA := wA_of (List.mem_of_getElem? (i := 446) (by decide +kernel)) (by decide +kernel)
theorem m_447 : (Jvm.Cond.methodLink "DocumentBytes" (125 : Nat) ({ cls := "DocumentBytes$Bytes", name := "numberAt", desc := "(II)J" } : Jvm.MethodName)) ∈ wA := wA_of (List.mem_of_getElem? (i := 447) (by decide +kernel)) (by decide +kernel)
theorem m_448 : (Jvm.Cond.methodLink "DocumentBytesLaw" (46 : Nat) ({ cls := "DocumentBytes", name := "letter", desc := "(IIZI)I" } : Jvm.MethodName)) ∈ wA := wA_of (List.mem_of_getElem? (i := 448) (by decide +kernel)) (by decide +kernel)
theorem m_449 : (Jvm.Cond.instanceMethod ({ cls := "DocumentBytes", name := "letter", desc := "(IIZI)I" } : Jvm.MethodName)) ∈ wA := wA_of (List.mem_of_getElem? (i := 449) (by decide +kernel)) (by decide +kernel)
theorem m_450 : (Jvm.Cond.selects "DocumentBytes" ({ cls := "DocumentBytes", name := "letter", desc := "(IIZI)I" } : Jvm.MethodName) ({ cls := "DocumentBytes", name := "letter", desc := "(IIZI)I" } : Jvm.MethodName)) ∈ wA := wA_of (List.mem_of_getElem? (i := 450) (by decide +kernel)) (by decide +kernel)
theorem m_451 : (Jvm.Cond.code ({ cls := "DocumentBytes", name := "letter", desc := "(IIZI)I" } : Jvm.MethodName) prog_1_method_9_code (7 : Nat) (Option.some Jvm.ClassFile.FieldType.int)) ∈ wA := wA_of (List.mem_of_getElem? (i := 451) (by decide +kernel)) (by decide +kernel)
theorem m_452 : (Jvm.Cond.methodLink "DocumentBytes" (129 : Nat) ({ cls := "DocumentBytes$Nodes", name := "name", desc := "(I)I" } : Jvm.MethodName)) ∈ wA := wA_of (List.mem_of_getElem? (i := 452) (by decide +kernel)) (by decide +kernel)
theorem m_453 : (Jvm.Cond.methodLink "DocumentBytesLaw" (51 : Nat) ({ cls := "DocumentBytes", name := "find", desc := "(III)I" } : Jvm.MethodName)) ∈ wA := wA_of (List.mem_of_getElem? (i := 453) (by decide +kernel)) (by decide +kernel)
theorem m_454 : (Jvm.Cond.instanceMethod ({ cls := "DocumentBytes", name := "find", desc := "(III)I" } : Jvm.MethodName)) ∈ wA := wA_of (List.mem_of_getElem? (i := 454) (by decide +kernel)) (by decide +kernel)
theorem m_455 : (Jvm.Cond.selects "DocumentBytes" ({ cls := "DocumentBytes", name := "find", desc := "(III)I" } : Jvm.MethodName) ({ cls := "DocumentBytes", name := "find", desc := "(III)I" } : Jvm.MethodName)) ∈ wA := wA_of (List.mem_of_getElem? (i := 455) (by decide +kernel)) (by decide +kernel)
theorem m_456 : (Jvm.Cond.code ({ cls := "DocumentBytes", name := "find", desc := "(III)I" } : Jvm.MethodName) prog_1_method_10_code (5 : Nat) (Option.some Jvm.ClassFile.FieldType.int)) ∈ wA := wA_of (List.mem_of_getElem? (i := 456) (by decide +kernel)) (by decide +kernel)
theorem m_457 : (Jvm.Cond.methodLink "DocumentBytes" (132 : Nat) ({ cls := "DocumentBytes$Nodes", name := "named", desc := "(ILDocumentBytes$Bytes;II)I" } : Jvm.MethodName)) ∈ wA := wA_of (List.mem_of_getElem? (i := 457) (by decide +kernel)) (by decide +kernel)
theorem m_458 : (Jvm.Cond.methodLink "DocumentBytesLaw" (57 : Nat) ({ cls := "DocumentBytes", name := "add", desc := "(IIIJII)I" } : Jvm.MethodName)) ∈ wA := wA_of (List.mem_of_getElem? (i := 458) (by decide +kernel)) (by decide +kernel)
theorem m_459 : (Jvm.Cond.instanceMethod ({ cls := "DocumentBytes", name := "add", desc := "(IIIJII)I" } : Jvm.MethodName)) ∈ wA := wA_of (List.mem_of_getElem? (i := 459) (by decide +kernel)) (by decide +kernel)
theorem m_460 : (Jvm.Cond.selects "DocumentBytes" ({ cls := "DocumentBytes", name := "add", desc := "(IIIJII)I" } : Jvm.MethodName) ({ cls := "DocumentBytes", name := "add", desc := "(IIIJII)I" } : Jvm.MethodName)) ∈ wA := wA_of (List.mem_of_getElem? (i := 460) (by decide +kernel)) (by decide +kernel)
theorem m_461 : (Jvm.Cond.code ({ cls := "DocumentBytes", name := "add", desc := "(IIIJII)I" } : Jvm.MethodName) prog_1_method_11_code (9 : Nat) (Option.some Jvm.ClassFile.FieldType.int)) ∈ wA := wA_of (List.mem_of_getElem? (i := 461) (by decide +kernel)) (by decide +kernel)
theorem m_462 : (Jvm.Cond.methodLink "DocumentBytes" (136 : Nat) ({ cls := "DocumentBytes", name := "mayHold", desc := "(II)Z" } : Jvm.MethodName)) ∈ wA := wA_of (List.mem_of_getElem? (i := 462) (by decide +kernel)) (by decide +kernel)
theorem m_464 : (Jvm.Cond.instanceMethod ({ cls := "DocumentBytes", name := "mayHold", desc := "(II)Z" } : Jvm.MethodName)) ∈ wA := wA_of (List.mem_of_getElem? (i := 464) (by decide +kernel)) (by decide +kernel)
theorem m_465 : (Jvm.Cond.code ({ cls := "DocumentBytes", name := "mayHold", desc := "(II)Z" } : Jvm.MethodName) prog_1_method_17_code (3 : Nat) (Option.some Jvm.ClassFile.FieldType.boolean)) ∈ wA := wA_of (List.mem_of_getElem? (i := 465) (by decide +kernel)) (by decide +kernel)
theorem m_466 : (Jvm.Cond.methodLink "DocumentBytes" (177 : Nat) ({ cls := "DocumentBytes$Kinds", name := "holdsElements", desc := "(I)Z" } : Jvm.MethodName)) ∈ wA := wA_of (List.mem_of_getElem? (i := 466) (by decide +kernel)) (by decide +kernel)
theorem m_467 : (Jvm.Cond.methodLink "DocumentBytes" (139 : Nat) ({ cls := "DocumentBytes", name := "addFromTape", desc := "(IIIJII)I" } : Jvm.MethodName)) ∈ wA := wA_of (List.mem_of_getElem? (i := 467) (by decide +kernel)) (by decide +kernel)
theorem m_469 : (Jvm.Cond.instanceMethod ({ cls := "DocumentBytes", name := "addFromTape", desc := "(IIIJII)I" } : Jvm.MethodName)) ∈ wA := wA_of (List.mem_of_getElem? (i := 469) (by decide +kernel)) (by decide +kernel)
theorem m_470 : (Jvm.Cond.code ({ cls := "DocumentBytes", name := "addFromTape", desc := "(IIIJII)I" } : Jvm.MethodName) prog_1_method_18_code (9 : Nat) (Option.some Jvm.ClassFile.FieldType.int)) ∈ wA := wA_of (List.mem_of_getElem? (i := 470) (by decide +kernel)) (by decide +kernel)
theorem m_471 : (Jvm.Cond.methodLink "DocumentBytes" (180 : Nat) ({ cls := "DocumentBytes$Kinds", name := "isKind", desc := "(I)Z" } : Jvm.MethodName)) ∈ wA := wA_of (List.mem_of_getElem? (i := 471) (by decide +kernel)) (by decide +kernel)
theorem m_472 : (Jvm.Cond.methodLink "DocumentBytes" (153 : Nat) ({ cls := "DocumentBytes$Kinds", name := "allows", desc := "(IJ)Z" } : Jvm.MethodName)) ∈ wA := wA_of (List.mem_of_getElem? (i := 472) (by decide +kernel)) (by decide +kernel)
theorem m_473 : (Jvm.Cond.static ({ cls := "DocumentBytes$Kinds", name := "allows", desc := "(IJ)Z" } : Jvm.MethodName)) ∈ wA := wA_of (List.mem_of_getElem? (i := 473) (by decide +kernel)) (by decide +kernel)
theorem m_474 : (Jvm.Cond.code ({ cls := "DocumentBytes$Kinds", name := "allows", desc := "(IJ)Z" } : Jvm.MethodName) prog_3_method_6_code (3 : Nat) (Option.some Jvm.ClassFile.FieldType.boolean)) ∈ wA := wA_of (List.mem_of_getElem? (i := 474) (by decide +kernel)) (by decide +kernel)
theorem m_475 : (Jvm.Cond.methodLink "DocumentBytes" (146 : Nat) ({ cls := "DocumentBytes", name := "nameCountFits", desc := "(II)Z" } : Jvm.MethodName)) ∈ wA := wA_of (List.mem_of_getElem? (i := 475) (by decide +kernel)) (by decide +kernel)
theorem m_477 : (Jvm.Cond.instanceMethod ({ cls := "DocumentBytes", name := "nameCountFits", desc := "(II)Z" } : Jvm.MethodName)) ∈ wA := wA_of (List.mem_of_getElem? (i := 477) (by decide +kernel)) (by decide +kernel)
theorem m_478 : (Jvm.Cond.code ({ cls := "DocumentBytes", name := "nameCountFits", desc := "(II)Z" } : Jvm.MethodName) prog_1_method_19_code (3 : Nat) (Option.some Jvm.ClassFile.FieldType.boolean)) ∈ wA := wA_of (List.mem_of_getElem? (i := 478) (by decide +kernel)) (by decide +kernel)
theorem m_479 : (Jvm.Cond.methodLink "DocumentBytes" (183 : Nat) ({ cls := "DocumentBytes$Utf8", name := "firstWrong", desc := "(LDocumentBytes$Bytes;II)I" } : Jvm.MethodName)) ∈ wA := wA_of (List.mem_of_getElem? (i := 479) (by decide +kernel)) (by decide +kernel)
theorem m_480 : (Jvm.Cond.methodLink "DocumentBytes" (189 : Nat) ({ cls := "DocumentBytes$Bytes", name := "appendText", desc := "(LDocumentBytes$Bytes;II)V" } : Jvm.MethodName)) ∈ wA := wA_of (List.mem_of_getElem? (i := 480) (by decide +kernel)) (by decide +kernel)
theorem m_481 : (Jvm.Cond.instanceMethod ({ cls := "DocumentBytes$Bytes", name := "appendText", desc := "(LDocumentBytes$Bytes;II)V" } : Jvm.MethodName)) ∈ wA := wA_of (List.mem_of_getElem? (i := 481) (by decide +kernel)) (by decide +kernel)
theorem m_482 : (Jvm.Cond.selects "DocumentBytes$Bytes" ({ cls := "DocumentBytes$Bytes", name := "appendText", desc := "(LDocumentBytes$Bytes;II)V" } : Jvm.MethodName) ({ cls := "DocumentBytes$Bytes", name := "appendText", desc := "(LDocumentBytes$Bytes;II)V" } : Jvm.MethodName)) ∈ wA := wA_of (List.mem_of_getElem? (i := 482) (by decide +kernel)) (by decide +kernel)
theorem m_483 : (Jvm.Cond.code ({ cls := "DocumentBytes$Bytes", name := "appendText", desc := "(LDocumentBytes$Bytes;II)V" } : Jvm.MethodName) prog_2_method_21_code (4 : Nat) (Option.none : Option Jvm.ClassFile.FieldType)) ∈ wA := wA_of (List.mem_of_getElem? (i := 483) (by decide +kernel)) (by decide +kernel)
theorem m_484 : (Jvm.Cond.methodLink "DocumentBytes$Bytes" (62 : Nat) ({ cls := "DocumentBytes$Bytes", name := "appendFrom", desc := "(LDocumentBytes$Bytes;II)V" } : Jvm.MethodName)) ∈ wA := wA_of (List.mem_of_getElem? (i := 484) (by decide +kernel)) (by decide +kernel)
theorem m_485 : (Jvm.Cond.methodLink "DocumentBytes" (192 : Nat) ({ cls := "DocumentBytes$Bytes", name := "appendNumber", desc := "(JI)V" } : Jvm.MethodName)) ∈ wA := wA_of (List.mem_of_getElem? (i := 485) (by decide +kernel)) (by decide +kernel)
theorem m_486 : (Jvm.Cond.methodLink "DocumentBytes" (149 : Nat) ({ cls := "DocumentBytes", name := "insertFresh", desc := "(IIIII)I" } : Jvm.MethodName)) ∈ wA := wA_of (List.mem_of_getElem? (i := 486) (by decide +kernel)) (by decide +kernel)
theorem m_488 : (Jvm.Cond.instanceMethod ({ cls := "DocumentBytes", name := "insertFresh", desc := "(IIIII)I" } : Jvm.MethodName)) ∈ wA := wA_of (List.mem_of_getElem? (i := 488) (by decide +kernel)) (by decide +kernel)
theorem m_489 : (Jvm.Cond.code ({ cls := "DocumentBytes", name := "insertFresh", desc := "(IIIII)I" } : Jvm.MethodName) prog_1_method_20_code (10 : Nat) (Option.some Jvm.ClassFile.FieldType.int)) ∈ wA := wA_of (List.mem_of_getElem? (i := 489) (by decide +kernel)) (by decide +kernel)
theorem m_490 : (Jvm.Cond.methodLink "DocumentBytes" (196 : Nat) ({ cls := "DocumentBytes", name := "isFreeName", desc := "(II)Z" } : Jvm.MethodName)) ∈ wA := wA_of (List.mem_of_getElem? (i := 490) (by decide +kernel)) (by decide +kernel)
theorem m_492 : (Jvm.Cond.instanceMethod ({ cls := "DocumentBytes", name := "isFreeName", desc := "(II)Z" } : Jvm.MethodName)) ∈ wA := wA_of (List.mem_of_getElem? (i := 492) (by decide +kernel)) (by decide +kernel)
theorem m_493 : (Jvm.Cond.code ({ cls := "DocumentBytes", name := "isFreeName", desc := "(II)Z" } : Jvm.MethodName) prog_1_method_22_code (3 : Nat) (Option.some Jvm.ClassFile.FieldType.boolean)) ∈ wA := wA_of (List.mem_of_getElem? (i := 493) (by decide +kernel)) (by decide +kernel)
theorem m_494 : (Jvm.Cond.methodLink "DocumentBytes" (223 : Nat) ({ cls := "DocumentBytes$Bytes", name := "firstZero", desc := "(II)I" } : Jvm.MethodName)) ∈ wA := wA_of (List.mem_of_getElem? (i := 494) (by decide +kernel)) (by decide +kernel)
theorem m_495 : (Jvm.Cond.methodLink "DocumentBytes" (199 : Nat) ({ cls := "DocumentBytes$Bytes", name := "digits", desc := "(I)I" } : Jvm.MethodName)) ∈ wA := wA_of (List.mem_of_getElem? (i := 495) (by decide +kernel)) (by decide +kernel)
theorem m_496 : (Jvm.Cond.methodLink "DocumentBytes" (202 : Nat) ({ cls := "DocumentBytes$Nodes", name := "behind", desc := "(I)I" } : Jvm.MethodName)) ∈ wA := wA_of (List.mem_of_getElem? (i := 496) (by decide +kernel)) (by decide +kernel)
theorem m_497 : (Jvm.Cond.methodLink "DocumentBytes" (205 : Nat) ({ cls := "DocumentBytes", name := "writeFresh", desc := "(LDocumentBytes$Bytes;III)V" } : Jvm.MethodName)) ∈ wA := wA_of (List.mem_of_getElem? (i := 497) (by decide +kernel)) (by decide +kernel)
theorem m_499 : (Jvm.Cond.instanceMethod ({ cls := "DocumentBytes", name := "writeFresh", desc := "(LDocumentBytes$Bytes;III)V" } : Jvm.MethodName)) ∈ wA := wA_of (List.mem_of_getElem? (i := 499) (by decide +kernel)) (by decide +kernel)
theorem m_500 : (Jvm.Cond.code ({ cls := "DocumentBytes", name := "writeFresh", desc := "(LDocumentBytes$Bytes;III)V" } : Jvm.MethodName) prog_1_method_21_code (9 : Nat) (Option.none : Option Jvm.ClassFile.FieldType)) ∈ wA := wA_of (List.mem_of_getElem? (i := 500) (by decide +kernel)) (by decide +kernel)
theorem m_501 : (Jvm.Cond.methodLink "DocumentBytes" (164 : Nat) ({ cls := "DocumentBytes$Nodes", name := "lastByte", desc := "(I)I" } : Jvm.MethodName)) ∈ wA := wA_of (List.mem_of_getElem? (i := 501) (by decide +kernel)) (by decide +kernel)
theorem m_502 : (Jvm.Cond.methodLink "DocumentBytes" (209 : Nat) ({ cls := "DocumentBytes$Bytes", name := "openGap", desc := "(II)V" } : Jvm.MethodName)) ∈ wA := wA_of (List.mem_of_getElem? (i := 502) (by decide +kernel)) (by decide +kernel)
theorem m_503 : (Jvm.Cond.methodLink "DocumentBytes" (212 : Nat) ({ cls := "DocumentBytes$Bytes", name := "put", desc := "(II)V" } : Jvm.MethodName)) ∈ wA := wA_of (List.mem_of_getElem? (i := 503) (by decide +kernel)) (by decide +kernel)
theorem m_504 : (Jvm.Cond.methodLink "DocumentBytes" (215 : Nat) ({ cls := "DocumentBytes$Bytes", name := "putDecimal", desc := "(III)V" } : Jvm.MethodName)) ∈ wA := wA_of (List.mem_of_getElem? (i := 504) (by decide +kernel)) (by decide +kernel)
theorem m_505 : (Jvm.Cond.instanceMethod ({ cls := "DocumentBytes$Bytes", name := "putDecimal", desc := "(III)V" } : Jvm.MethodName)) ∈ wA := wA_of (List.mem_of_getElem? (i := 505) (by decide +kernel)) (by decide +kernel)
theorem m_506 : (Jvm.Cond.selects "DocumentBytes$Bytes" ({ cls := "DocumentBytes$Bytes", name := "putDecimal", desc := "(III)V" } : Jvm.MethodName) ({ cls := "DocumentBytes$Bytes", name := "putDecimal", desc := "(III)V" } : Jvm.MethodName)) ∈ wA := wA_of (List.mem_of_getElem? (i := 506) (by decide +kernel)) (by decide +kernel)
theorem m_507 : (Jvm.Cond.code ({ cls := "DocumentBytes$Bytes", name := "putDecimal", desc := "(III)V" } : Jvm.MethodName) prog_2_method_11_code (6 : Nat) (Option.none : Option Jvm.ClassFile.FieldType)) ∈ wA := wA_of (List.mem_of_getElem? (i := 507) (by decide +kernel)) (by decide +kernel)
theorem m_508 : (Jvm.Cond.methodLink "DocumentBytes" (219 : Nat) ({ cls := "DocumentBytes$Bytes", name := "putFrom", desc := "(ILDocumentBytes$Bytes;II)V" } : Jvm.MethodName)) ∈ wA := wA_of (List.mem_of_getElem? (i := 508) (by decide +kernel)) (by decide +kernel)
theorem m_509 : (Jvm.Cond.methodLink "DocumentBytes" (171 : Nat) ({ cls := "DocumentBytes", name := "resizeUpwards", desc := "(LDocumentBytes$Bytes;II)V" } : Jvm.MethodName)) ∈ wA := wA_of (List.mem_of_getElem? (i := 509) (by decide +kernel)) (by decide +kernel)
theorem m_511 : (Jvm.Cond.instanceMethod ({ cls := "DocumentBytes", name := "resizeUpwards", desc := "(LDocumentBytes$Bytes;II)V" } : Jvm.MethodName)) ∈ wA := wA_of (List.mem_of_getElem? (i := 511) (by decide +kernel)) (by decide +kernel)
theorem m_512 : (Jvm.Cond.code ({ cls := "DocumentBytes", name := "resizeUpwards", desc := "(LDocumentBytes$Bytes;II)V" } : Jvm.MethodName) prog_1_method_24_code (7 : Nat) (Option.none : Option Jvm.ClassFile.FieldType)) ∈ wA := wA_of (List.mem_of_getElem? (i := 512) (by decide +kernel)) (by decide +kernel)
theorem m_513 : (Jvm.Cond.methodLink "DocumentBytes" (157 : Nat) ({ cls := "DocumentBytes$Bytes", name := "putNumber", desc := "(IIJ)V" } : Jvm.MethodName)) ∈ wA := wA_of (List.mem_of_getElem? (i := 513) (by decide +kernel)) (by decide +kernel)
theorem m_514 : (Jvm.Cond.methodLink "DocumentBytesLaw" (62 : Nat) ({ cls := "DocumentBytes", name := "graft", desc := "(IIIII)I" } : Jvm.MethodName)) ∈ wA := wA_of (List.mem_of_getElem? (i := 514) (by decide +kernel)) (by decide +kernel)
theorem m_515 : (Jvm.Cond.instanceMethod ({ cls := "DocumentBytes", name := "graft", desc := "(IIIII)I" } : Jvm.MethodName)) ∈ wA := wA_of (List.mem_of_getElem? (i := 515) (by decide +kernel)) (by decide +kernel)
theorem m_516 : (Jvm.Cond.selects "DocumentBytes" ({ cls := "DocumentBytes", name := "graft", desc := "(IIIII)I" } : Jvm.MethodName) ({ cls := "DocumentBytes", name := "graft", desc := "(IIIII)I" } : Jvm.MethodName)) ∈ wA := wA_of (List.mem_of_getElem? (i := 516) (by decide +kernel)) (by decide +kernel)
theorem m_517 : (Jvm.Cond.code ({ cls := "DocumentBytes", name := "graft", desc := "(IIIII)I" } : Jvm.MethodName) prog_1_method_12_code (9 : Nat) (Option.some Jvm.ClassFile.FieldType.int)) ∈ wA := wA_of (List.mem_of_getElem? (i := 517) (by decide +kernel)) (by decide +kernel)
theorem m_518 : (Jvm.Cond.methodLink "DocumentBytes" (143 : Nat) ({ cls := "DocumentBytes$Nodes", name := "levels", desc := "(I)I" } : Jvm.MethodName)) ∈ wA := wA_of (List.mem_of_getElem? (i := 518) (by decide +kernel)) (by decide +kernel)
theorem m_519 : (Jvm.Cond.instanceMethod ({ cls := "DocumentBytes$Nodes", name := "levels", desc := "(I)I" } : Jvm.MethodName)) ∈ wA := wA_of (List.mem_of_getElem? (i := 519) (by decide +kernel)) (by decide +kernel)
theorem m_520 : (Jvm.Cond.selects "DocumentBytes$Nodes" ({ cls := "DocumentBytes$Nodes", name := "levels", desc := "(I)I" } : Jvm.MethodName) ({ cls := "DocumentBytes$Nodes", name := "levels", desc := "(I)I" } : Jvm.MethodName)) ∈ wA := wA_of (List.mem_of_getElem? (i := 520) (by decide +kernel)) (by decide +kernel)
theorem m_521 : (Jvm.Cond.code ({ cls := "DocumentBytes$Nodes", name := "levels", desc := "(I)I" } : Jvm.MethodName) prog_4_method_20_code (3 : Nat) (Option.some Jvm.ClassFile.FieldType.int)) ∈ wA := wA_of (List.mem_of_getElem? (i := 521) (by decide +kernel)) (by decide +kernel)
theorem m_522 : (Jvm.Cond.methodLink "DocumentBytes$Nodes" (94 : Nat) ({ cls := "DocumentBytes$Nodes", name := "kind", desc := "(I)I" } : Jvm.MethodName)) ∈ wA := wA_of (List.mem_of_getElem? (i := 522) (by decide +kernel)) (by decide +kernel)
theorem m_523 : (Jvm.Cond.methodLink "DocumentBytes$Nodes" (97 : Nat) ({ cls := "DocumentBytes$Nodes", name := "deepestIn", desc := "(I)I" } : Jvm.MethodName)) ∈ wA := wA_of (List.mem_of_getElem? (i := 523) (by decide +kernel)) (by decide +kernel)
theorem m_524 : (Jvm.Cond.methodLink "DocumentBytesLaw" (66 : Nat) ({ cls := "DocumentBytes", name := "set", desc := "(IIJ)Z" } : Jvm.MethodName)) ∈ wA := wA_of (List.mem_of_getElem? (i := 524) (by decide +kernel)) (by decide +kernel)
theorem m_525 : (Jvm.Cond.instanceMethod ({ cls := "DocumentBytes", name := "set", desc := "(IIJ)Z" } : Jvm.MethodName)) ∈ wA := wA_of (List.mem_of_getElem? (i := 525) (by decide +kernel)) (by decide +kernel)
theorem m_526 : (Jvm.Cond.selects "DocumentBytes" ({ cls := "DocumentBytes", name := "set", desc := "(IIJ)Z" } : Jvm.MethodName) ({ cls := "DocumentBytes", name := "set", desc := "(IIJ)Z" } : Jvm.MethodName)) ∈ wA := wA_of (List.mem_of_getElem? (i := 526) (by decide +kernel)) (by decide +kernel)
theorem m_527 : (Jvm.Cond.code ({ cls := "DocumentBytes", name := "set", desc := "(IIJ)Z" } : Jvm.MethodName) prog_1_method_13_code (7 : Nat) (Option.some Jvm.ClassFile.FieldType.boolean)) ∈ wA := wA_of (List.mem_of_getElem? (i := 527) (by decide +kernel)) (by decide +kernel)
theorem m_528 : (Jvm.Cond.methodLink "DocumentBytesLaw" (71 : Nat) ({ cls := "DocumentBytes", name := "drop", desc := "(II)Z" } : Jvm.MethodName)) ∈ wA := wA_of (List.mem_of_getElem? (i := 528) (by decide +kernel)) (by decide +kernel)
theorem m_529 : (Jvm.Cond.instanceMethod ({ cls := "DocumentBytes", name := "drop", desc := "(II)Z" } : Jvm.MethodName)) ∈ wA := wA_of (List.mem_of_getElem? (i := 529) (by decide +kernel)) (by decide +kernel)
theorem m_530 : (Jvm.Cond.selects "DocumentBytes" ({ cls := "DocumentBytes", name := "drop", desc := "(II)Z" } : Jvm.MethodName) ({ cls := "DocumentBytes", name := "drop", desc := "(II)Z" } : Jvm.MethodName)) ∈ wA := wA_of (List.mem_of_getElem? (i := 530) (by decide +kernel)) (by decide +kernel)
theorem m_531 : (Jvm.Cond.code ({ cls := "DocumentBytes", name := "drop", desc := "(II)Z" } : Jvm.MethodName) prog_1_method_14_code (7 : Nat) (Option.some Jvm.ClassFile.FieldType.boolean)) ∈ wA := wA_of (List.mem_of_getElem? (i := 531) (by decide +kernel)) (by decide +kernel)
theorem m_532 : (Jvm.Cond.methodLink "DocumentBytes" (161 : Nat) ({ cls := "DocumentBytes", name := "renumberBehind", desc := "(LDocumentBytes$Bytes;II)V" } : Jvm.MethodName)) ∈ wA := wA_of (List.mem_of_getElem? (i := 532) (by decide +kernel)) (by decide +kernel)
theorem m_534 : (Jvm.Cond.instanceMethod ({ cls := "DocumentBytes", name := "renumberBehind", desc := "(LDocumentBytes$Bytes;II)V" } : Jvm.MethodName)) ∈ wA := wA_of (List.mem_of_getElem? (i := 534) (by decide +kernel)) (by decide +kernel)
theorem m_535 : (Jvm.Cond.code ({ cls := "DocumentBytes", name := "renumberBehind", desc := "(LDocumentBytes$Bytes;II)V" } : Jvm.MethodName) prog_1_method_23_code (7 : Nat) (Option.none : Option Jvm.ClassFile.FieldType)) ∈ wA := wA_of (List.mem_of_getElem? (i := 535) (by decide +kernel)) (by decide +kernel)
theorem m_536 : (Jvm.Cond.methodLink "DocumentBytes" (167 : Nat) ({ cls := "DocumentBytes$Bytes", name := "cut", desc := "(II)V" } : Jvm.MethodName)) ∈ wA := wA_of (List.mem_of_getElem? (i := 536) (by decide +kernel)) (by decide +kernel)
theorem m_537 : (Jvm.Cond.instanceMethod ({ cls := "DocumentBytes$Bytes", name := "cut", desc := "(II)V" } : Jvm.MethodName)) ∈ wA := wA_of (List.mem_of_getElem? (i := 537) (by decide +kernel)) (by decide +kernel)
theorem m_538 : (Jvm.Cond.selects "DocumentBytes$Bytes" ({ cls := "DocumentBytes$Bytes", name := "cut", desc := "(II)V" } : Jvm.MethodName) ({ cls := "DocumentBytes$Bytes", name := "cut", desc := "(II)V" } : Jvm.MethodName)) ∈ wA := wA_of (List.mem_of_getElem? (i := 538) (by decide +kernel)) (by decide +kernel)
theorem m_539 : (Jvm.Cond.code ({ cls := "DocumentBytes$Bytes", name := "cut", desc := "(II)V" } : Jvm.MethodName) prog_2_method_15_code (3 : Nat) (Option.none : Option Jvm.ClassFile.FieldType)) ∈ wA := wA_of (List.mem_of_getElem? (i := 539) (by decide +kernel)) (by decide +kernel)
theorem m_540 : (Jvm.Cond.classLink "DocumentBytesLaw" (10 : Nat) "DocumentBytesModel") ∈ wA := wA_of (List.mem_of_getElem? (i := 540) (by decide +kernel)) (by decide +kernel)
theorem m_541 : (Jvm.Cond.instantiable "DocumentBytesModel" (23 : Nat)) ∈ wA := wA_of (List.mem_of_getElem? (i := 541) (by decide +kernel)) (by decide +kernel)
theorem m_542 : (Jvm.Cond.methodLink "DocumentBytesLaw" (12 : Nat) ({ cls := "DocumentBytesModel", name := "<init>", desc := "()V" } : Jvm.MethodName)) ∈ wA := wA_of (List.mem_of_getElem? (i := 542) (by decide +kernel)) (by decide +kernel)
theorem m_543 : (Jvm.Cond.instanceMethod ({ cls := "DocumentBytesModel", name := "<init>", desc := "()V" } : Jvm.MethodName)) ∈ wA := wA_of (List.mem_of_getElem? (i := 543) (by decide +kernel)) (by decide +kernel)
theorem m_544 : (Jvm.Cond.code ({ cls := "DocumentBytesModel", name := "<init>", desc := "()V" } : Jvm.MethodName) prog_8_method_1_code (2 : Nat) (Option.none : Option Jvm.ClassFile.FieldType)) ∈ wA := wA_of (List.mem_of_getElem? (i := 544) (by decide +kernel)) (by decide +kernel)
theorem m_545 : (Jvm.Cond.methodLink "DocumentBytesModel" (1 : Nat) ({ cls := "java/lang/Object", name := "<init>", desc := "()V" } : Jvm.MethodName)) ∈ wA := wA_of (List.mem_of_getElem? (i := 545) (by decide +kernel)) (by decide +kernel)
theorem m_546 : (Jvm.Cond.fieldLink "DocumentBytesModel" (7 : Nat) "DocumentBytesModel" "tape" "[I") ∈ wA := wA_of (List.mem_of_getElem? (i := 546) (by decide +kernel)) (by decide +kernel)
theorem m_547 : (Jvm.Cond.fieldLink "DocumentBytesModel" (59 : Nat) "DocumentBytesModel" "taped" "I") ∈ wA := wA_of (List.mem_of_getElem? (i := 547) (by decide +kernel)) (by decide +kernel)
theorem m_548 : (Jvm.Cond.fieldLink "DocumentBytesModel" (13 : Nat) "DocumentBytesModel" "place" "I") ∈ wA := wA_of (List.mem_of_getElem? (i := 548) (by decide +kernel)) (by decide +kernel)
theorem m_549 : (Jvm.Cond.fieldLink "DocumentBytesModel" (17 : Nat) "DocumentBytesModel" "size" "[I") ∈ wA := wA_of (List.mem_of_getElem? (i := 549) (by decide +kernel)) (by decide +kernel)
theorem m_550 : (Jvm.Cond.fieldLink "DocumentBytesModel" (20 : Nat) "DocumentBytesModel" "bytes" "[I") ∈ wA := wA_of (List.mem_of_getElem? (i := 550) (by decide +kernel)) (by decide +kernel)
theorem m_551 : (Jvm.Cond.fieldLink "DocumentBytesModel" (23 : Nat) "DocumentBytesModel" "work" "[I") ∈ wA := wA_of (List.mem_of_getElem? (i := 551) (by decide +kernel)) (by decide +kernel)
theorem m_552 : (Jvm.Cond.fieldLink "DocumentBytesModel" (134 : Nat) "DocumentBytesModel" "worked" "I") ∈ wA := wA_of (List.mem_of_getElem? (i := 552) (by decide +kernel)) (by decide +kernel)
theorem m_553 : (Jvm.Cond.fieldLink "DocumentBytesModel" (90 : Nat) "DocumentBytesModel" "nodes" "I") ∈ wA := wA_of (List.mem_of_getElem? (i := 553) (by decide +kernel)) (by decide +kernel)
theorem m_554 : (Jvm.Cond.fieldLink "DocumentBytesModel" (26 : Nat) "DocumentBytesModel" "parent" "[I") ∈ wA := wA_of (List.mem_of_getElem? (i := 554) (by decide +kernel)) (by decide +kernel)
theorem m_555 : (Jvm.Cond.fieldLink "DocumentBytesModel" (29 : Nat) "DocumentBytesModel" "begin" "[I") ∈ wA := wA_of (List.mem_of_getElem? (i := 555) (by decide +kernel)) (by decide +kernel)
theorem m_556 : (Jvm.Cond.fieldLink "DocumentBytesModel" (32 : Nat) "DocumentBytesModel" "nameEnd" "[I") ∈ wA := wA_of (List.mem_of_getElem? (i := 556) (by decide +kernel)) (by decide +kernel)
theorem m_557 : (Jvm.Cond.fieldLink "DocumentBytesModel" (35 : Nat) "DocumentBytesModel" "end" "[I") ∈ wA := wA_of (List.mem_of_getElem? (i := 557) (by decide +kernel)) (by decide +kernel)
theorem m_558 : (Jvm.Cond.fieldLink "DocumentBytesModel" (38 : Nat) "DocumentBytesModel" "depth" "[I") ∈ wA := wA_of (List.mem_of_getElem? (i := 558) (by decide +kernel)) (by decide +kernel)
theorem m_559 : (Jvm.Cond.fieldLink "DocumentBytesModel" (87 : Nat) "DocumentBytesModel" "deepest" "I") ∈ wA := wA_of (List.mem_of_getElem? (i := 559) (by decide +kernel)) (by decide +kernel)
theorem m_560 : (Jvm.Cond.fieldLink "DocumentBytesModel" (66 : Nat) "DocumentBytesModel" "fault" "I") ∈ wA := wA_of (List.mem_of_getElem? (i := 560) (by decide +kernel)) (by decide +kernel)
theorem m_561 : (Jvm.Cond.fieldLink "DocumentBytesModel" (115 : Nat) "DocumentBytesModel" "lenient" "Z") ∈ wA := wA_of (List.mem_of_getElem? (i := 561) (by decide +kernel)) (by decide +kernel)
theorem m_562 : (Jvm.Cond.fieldLink "DocumentBytesModel" (41 : Nat) "DocumentBytesModel" "ends" "[I") ∈ wA := wA_of (List.mem_of_getElem? (i := 562) (by decide +kernel)) (by decide +kernel)
theorem m_563 : (Jvm.Cond.fieldLink "DocumentBytesModel" (44 : Nat) "DocumentBytesModel" "box" "[I") ∈ wA := wA_of (List.mem_of_getElem? (i := 563) (by decide +kernel)) (by decide +kernel)
theorem m_564 : (Jvm.Cond.fieldLink "DocumentBytesModel" (47 : Nat) "DocumentBytesModel" "many" "[I") ∈ wA := wA_of (List.mem_of_getElem? (i := 564) (by decide +kernel)) (by decide +kernel)
theorem m_565 : (Jvm.Cond.fieldLink "DocumentBytesModel" (50 : Nat) "DocumentBytesModel" "row" "[I") ∈ wA := wA_of (List.mem_of_getElem? (i := 565) (by decide +kernel)) (by decide +kernel)
theorem m_566 : (Jvm.Cond.fieldLink "DocumentBytesModel" (53 : Nat) "DocumentBytesModel" "part" "[I") ∈ wA := wA_of (List.mem_of_getElem? (i := 566) (by decide +kernel)) (by decide +kernel)
theorem m_567 : (Jvm.Cond.fieldLink "DocumentBytesModel" (175 : Nat) "DocumentBytesModel" "parts" "I") ∈ wA := wA_of (List.mem_of_getElem? (i := 567) (by decide +kernel)) (by decide +kernel)
theorem m_568 : (Jvm.Cond.lays "DocumentBytesModel" "DocumentBytesModel" "thrown" "I") ∈ wA := wA_of (List.mem_of_getElem? (i := 568) (by decide +kernel)) (by decide +kernel)
theorem m_569 : (Jvm.Cond.soleField "DocumentBytesModel" "thrown") ∈ wA := wA_of (List.mem_of_getElem? (i := 569) (by decide +kernel)) (by decide +kernel)
theorem m_570 : (Jvm.Cond.laysFinal "DocumentBytesModel" "DocumentBytesModel" "tape" "[I") ∈ wA := wA_of (List.mem_of_getElem? (i := 570) (by decide +kernel)) (by decide +kernel)
theorem m_571 : (Jvm.Cond.soleField "DocumentBytesModel" "tape") ∈ wA := wA_of (List.mem_of_getElem? (i := 571) (by decide +kernel)) (by decide +kernel)
theorem m_572 : (Jvm.Cond.lays "DocumentBytesModel" "DocumentBytesModel" "taped" "I") ∈ wA := wA_of (List.mem_of_getElem? (i := 572) (by decide +kernel)) (by decide +kernel)
theorem m_573 : (Jvm.Cond.soleField "DocumentBytesModel" "taped") ∈ wA := wA_of (List.mem_of_getElem? (i := 573) (by decide +kernel)) (by decide +kernel)
theorem m_574 : (Jvm.Cond.lays "DocumentBytesModel" "DocumentBytesModel" "place" "I") ∈ wA := wA_of (List.mem_of_getElem? (i := 574) (by decide +kernel)) (by decide +kernel)
theorem m_575 : (Jvm.Cond.soleField "DocumentBytesModel" "place") ∈ wA := wA_of (List.mem_of_getElem? (i := 575) (by decide +kernel)) (by decide +kernel)
theorem m_576 : (Jvm.Cond.laysFinal "DocumentBytesModel" "DocumentBytesModel" "size" "[I") ∈ wA := wA_of (List.mem_of_getElem? (i := 576) (by decide +kernel)) (by decide +kernel)
theorem m_577 : (Jvm.Cond.soleField "DocumentBytesModel" "size") ∈ wA := wA_of (List.mem_of_getElem? (i := 577) (by decide +kernel)) (by decide +kernel)
theorem m_578 : (Jvm.Cond.laysFinal "DocumentBytesModel" "DocumentBytesModel" "bytes" "[I") ∈ wA := wA_of (List.mem_of_getElem? (i := 578) (by decide +kernel)) (by decide +kernel)
theorem m_579 : (Jvm.Cond.soleField "DocumentBytesModel" "bytes") ∈ wA := wA_of (List.mem_of_getElem? (i := 579) (by decide +kernel)) (by decide +kernel)
theorem m_580 : (Jvm.Cond.laysFinal "DocumentBytesModel" "DocumentBytesModel" "work" "[I") ∈ wA := wA_of (List.mem_of_getElem? (i := 580) (by decide +kernel)) (by decide +kernel)
theorem m_581 : (Jvm.Cond.soleField "DocumentBytesModel" "work") ∈ wA := wA_of (List.mem_of_getElem? (i := 581) (by decide +kernel)) (by decide +kernel)
theorem m_582 : (Jvm.Cond.lays "DocumentBytesModel" "DocumentBytesModel" "worked" "I") ∈ wA := wA_of (List.mem_of_getElem? (i := 582) (by decide +kernel)) (by decide +kernel)
theorem m_583 : (Jvm.Cond.soleField "DocumentBytesModel" "worked") ∈ wA := wA_of (List.mem_of_getElem? (i := 583) (by decide +kernel)) (by decide +kernel)
theorem m_584 : (Jvm.Cond.lays "DocumentBytesModel" "DocumentBytesModel" "nodes" "I") ∈ wA := wA_of (List.mem_of_getElem? (i := 584) (by decide +kernel)) (by decide +kernel)
theorem m_585 : (Jvm.Cond.soleField "DocumentBytesModel" "nodes") ∈ wA := wA_of (List.mem_of_getElem? (i := 585) (by decide +kernel)) (by decide +kernel)
theorem m_586 : (Jvm.Cond.laysFinal "DocumentBytesModel" "DocumentBytesModel" "parent" "[I") ∈ wA := wA_of (List.mem_of_getElem? (i := 586) (by decide +kernel)) (by decide +kernel)
theorem m_587 : (Jvm.Cond.soleField "DocumentBytesModel" "parent") ∈ wA := wA_of (List.mem_of_getElem? (i := 587) (by decide +kernel)) (by decide +kernel)
theorem m_588 : (Jvm.Cond.laysFinal "DocumentBytesModel" "DocumentBytesModel" "begin" "[I") ∈ wA := wA_of (List.mem_of_getElem? (i := 588) (by decide +kernel)) (by decide +kernel)
theorem m_589 : (Jvm.Cond.soleField "DocumentBytesModel" "begin") ∈ wA := wA_of (List.mem_of_getElem? (i := 589) (by decide +kernel)) (by decide +kernel)
theorem m_590 : (Jvm.Cond.laysFinal "DocumentBytesModel" "DocumentBytesModel" "nameEnd" "[I") ∈ wA := wA_of (List.mem_of_getElem? (i := 590) (by decide +kernel)) (by decide +kernel)
theorem m_591 : (Jvm.Cond.soleField "DocumentBytesModel" "nameEnd") ∈ wA := wA_of (List.mem_of_getElem? (i := 591) (by decide +kernel)) (by decide +kernel)
theorem m_592 : (Jvm.Cond.laysFinal "DocumentBytesModel" "DocumentBytesModel" "end" "[I") ∈ wA := wA_of (List.mem_of_getElem? (i := 592) (by decide +kernel)) (by decide +kernel)
theorem m_593 : (Jvm.Cond.soleField "DocumentBytesModel" "end") ∈ wA := wA_of (List.mem_of_getElem? (i := 593) (by decide +kernel)) (by decide +kernel)
theorem m_594 : (Jvm.Cond.laysFinal "DocumentBytesModel" "DocumentBytesModel" "depth" "[I") ∈ wA := wA_of (List.mem_of_getElem? (i := 594) (by decide +kernel)) (by decide +kernel)
theorem m_595 : (Jvm.Cond.soleField "DocumentBytesModel" "depth") ∈ wA := wA_of (List.mem_of_getElem? (i := 595) (by decide +kernel)) (by decide +kernel)
theorem m_596 : (Jvm.Cond.lays "DocumentBytesModel" "DocumentBytesModel" "deepest" "I") ∈ wA := wA_of (List.mem_of_getElem? (i := 596) (by decide +kernel)) (by decide +kernel)
theorem m_597 : (Jvm.Cond.soleField "DocumentBytesModel" "deepest") ∈ wA := wA_of (List.mem_of_getElem? (i := 597) (by decide +kernel)) (by decide +kernel)
theorem m_598 : (Jvm.Cond.lays "DocumentBytesModel" "DocumentBytesModel" "fault" "I") ∈ wA := wA_of (List.mem_of_getElem? (i := 598) (by decide +kernel)) (by decide +kernel)
theorem m_599 : (Jvm.Cond.soleField "DocumentBytesModel" "fault") ∈ wA := wA_of (List.mem_of_getElem? (i := 599) (by decide +kernel)) (by decide +kernel)
theorem m_600 : (Jvm.Cond.lays "DocumentBytesModel" "DocumentBytesModel" "lenient" "Z") ∈ wA := wA_of (List.mem_of_getElem? (i := 600) (by decide +kernel)) (by decide +kernel)
theorem m_601 : (Jvm.Cond.soleField "DocumentBytesModel" "lenient") ∈ wA := wA_of (List.mem_of_getElem? (i := 601) (by decide +kernel)) (by decide +kernel)
theorem m_602 : (Jvm.Cond.laysFinal "DocumentBytesModel" "DocumentBytesModel" "ends" "[I") ∈ wA := wA_of (List.mem_of_getElem? (i := 602) (by decide +kernel)) (by decide +kernel)
theorem m_603 : (Jvm.Cond.soleField "DocumentBytesModel" "ends") ∈ wA := wA_of (List.mem_of_getElem? (i := 603) (by decide +kernel)) (by decide +kernel)
theorem m_604 : (Jvm.Cond.laysFinal "DocumentBytesModel" "DocumentBytesModel" "box" "[I") ∈ wA := wA_of (List.mem_of_getElem? (i := 604) (by decide +kernel)) (by decide +kernel)
theorem m_605 : (Jvm.Cond.soleField "DocumentBytesModel" "box") ∈ wA := wA_of (List.mem_of_getElem? (i := 605) (by decide +kernel)) (by decide +kernel)
theorem m_606 : (Jvm.Cond.laysFinal "DocumentBytesModel" "DocumentBytesModel" "many" "[I") ∈ wA := wA_of (List.mem_of_getElem? (i := 606) (by decide +kernel)) (by decide +kernel)
theorem m_607 : (Jvm.Cond.soleField "DocumentBytesModel" "many") ∈ wA := wA_of (List.mem_of_getElem? (i := 607) (by decide +kernel)) (by decide +kernel)
theorem m_608 : (Jvm.Cond.laysFinal "DocumentBytesModel" "DocumentBytesModel" "row" "[I") ∈ wA := wA_of (List.mem_of_getElem? (i := 608) (by decide +kernel)) (by decide +kernel)
theorem m_609 : (Jvm.Cond.soleField "DocumentBytesModel" "row") ∈ wA := wA_of (List.mem_of_getElem? (i := 609) (by decide +kernel)) (by decide +kernel)
theorem m_610 : (Jvm.Cond.laysFinal "DocumentBytesModel" "DocumentBytesModel" "part" "[I") ∈ wA := wA_of (List.mem_of_getElem? (i := 610) (by decide +kernel)) (by decide +kernel)
theorem m_611 : (Jvm.Cond.soleField "DocumentBytesModel" "part") ∈ wA := wA_of (List.mem_of_getElem? (i := 611) (by decide +kernel)) (by decide +kernel)
theorem m_612 : (Jvm.Cond.lays "DocumentBytesModel" "DocumentBytesModel" "parts" "I") ∈ wA := wA_of (List.mem_of_getElem? (i := 612) (by decide +kernel)) (by decide +kernel)
theorem m_613 : (Jvm.Cond.soleField "DocumentBytesModel" "parts") ∈ wA := wA_of (List.mem_of_getElem? (i := 613) (by decide +kernel)) (by decide +kernel)
theorem m_614 : (Jvm.Cond.superclass "DocumentBytesModel" "java/lang/Object") ∈ wA := wA_of (List.mem_of_getElem? (i := 614) (by decide +kernel)) (by decide +kernel)
theorem m_615 : (Jvm.Cond.methodLink "DocumentBytesLaw" (17 : Nat) ({ cls := "DocumentBytesModel", name := "feed", desc := "(IIIII)I" } : Jvm.MethodName)) ∈ wA := wA_of (List.mem_of_getElem? (i := 615) (by decide +kernel)) (by decide +kernel)
theorem m_616 : (Jvm.Cond.instanceMethod ({ cls := "DocumentBytesModel", name := "feed", desc := "(IIIII)I" } : Jvm.MethodName)) ∈ wA := wA_of (List.mem_of_getElem? (i := 616) (by decide +kernel)) (by decide +kernel)
theorem m_617 : (Jvm.Cond.selects "DocumentBytesModel" ({ cls := "DocumentBytesModel", name := "feed", desc := "(IIIII)I" } : Jvm.MethodName) ({ cls := "DocumentBytesModel", name := "feed", desc := "(IIIII)I" } : Jvm.MethodName)) ∈ wA := wA_of (List.mem_of_getElem? (i := 617) (by decide +kernel)) (by decide +kernel)
theorem m_618 : (Jvm.Cond.code ({ cls := "DocumentBytesModel", name := "feed", desc := "(IIIII)I" } : Jvm.MethodName) prog_8_method_3_code (6 : Nat) (Option.some Jvm.ClassFile.FieldType.int)) ∈ wA := wA_of (List.mem_of_getElem? (i := 618) (by decide +kernel)) (by decide +kernel)
theorem m_619 : (Jvm.Cond.methodLink "DocumentBytesModel" (62 : Nat) ({ cls := "DocumentBytesModel", name := "put", desc := "(I)V" } : Jvm.MethodName)) ∈ wA := wA_of (List.mem_of_getElem? (i := 619) (by decide +kernel)) (by decide +kernel)
theorem m_621 : (Jvm.Cond.instanceMethod ({ cls := "DocumentBytesModel", name := "put", desc := "(I)V" } : Jvm.MethodName)) ∈ wA := wA_of (List.mem_of_getElem? (i := 621) (by decide +kernel)) (by decide +kernel)
theorem m_622 : (Jvm.Cond.code ({ cls := "DocumentBytesModel", name := "put", desc := "(I)V" } : Jvm.MethodName) prog_8_method_4_code (3 : Nat) (Option.none : Option Jvm.ClassFile.FieldType)) ∈ wA := wA_of (List.mem_of_getElem? (i := 622) (by decide +kernel)) (by decide +kernel)
theorem m_623 : (Jvm.Cond.methodLink "DocumentBytesLaw" (22 : Nat) ({ cls := "DocumentBytesModel", name := "read", desc := "(II)I" } : Jvm.MethodName)) ∈ wA := wA_of (List.mem_of_getElem? (i := 623) (by decide +kernel)) (by decide +kernel)
theorem m_624 : (Jvm.Cond.instanceMethod ({ cls := "DocumentBytesModel", name := "read", desc := "(II)I" } : Jvm.MethodName)) ∈ wA := wA_of (List.mem_of_getElem? (i := 624) (by decide +kernel)) (by decide +kernel)
theorem m_625 : (Jvm.Cond.selects "DocumentBytesModel" ({ cls := "DocumentBytesModel", name := "read", desc := "(II)I" } : Jvm.MethodName) ({ cls := "DocumentBytesModel", name := "read", desc := "(II)I" } : Jvm.MethodName)) ∈ wA := wA_of (List.mem_of_getElem? (i := 625) (by decide +kernel)) (by decide +kernel)
theorem m_626 : (Jvm.Cond.code ({ cls := "DocumentBytesModel", name := "read", desc := "(II)I" } : Jvm.MethodName) prog_8_method_22_code (4 : Nat) (Option.some Jvm.ClassFile.FieldType.int)) ∈ wA := wA_of (List.mem_of_getElem? (i := 626) (by decide +kernel)) (by decide +kernel)
theorem m_627 : (Jvm.Cond.methodLink "DocumentBytesModel" (140 : Nat) ({ cls := "DocumentBytesModel", name := "isSlot", desc := "(I)Z" } : Jvm.MethodName)) ∈ wA := wA_of (List.mem_of_getElem? (i := 627) (by decide +kernel)) (by decide +kernel)
theorem m_628 : (Jvm.Cond.static ({ cls := "DocumentBytesModel", name := "isSlot", desc := "(I)Z" } : Jvm.MethodName)) ∈ wA := wA_of (List.mem_of_getElem? (i := 628) (by decide +kernel)) (by decide +kernel)
theorem m_629 : (Jvm.Cond.code ({ cls := "DocumentBytesModel", name := "isSlot", desc := "(I)Z" } : Jvm.MethodName) prog_8_method_19_code (1 : Nat) (Option.some Jvm.ClassFile.FieldType.boolean)) ∈ wA := wA_of (List.mem_of_getElem? (i := 629) (by decide +kernel)) (by decide +kernel)
theorem m_630 : (Jvm.Cond.methodLink "DocumentBytesModel" (137 : Nat) ({ cls := "DocumentBytesModel", name := "goOver", desc := "(I)V" } : Jvm.MethodName)) ∈ wA := wA_of (List.mem_of_getElem? (i := 630) (by decide +kernel)) (by decide +kernel)
theorem m_632 : (Jvm.Cond.instanceMethod ({ cls := "DocumentBytesModel", name := "goOver", desc := "(I)V" } : Jvm.MethodName)) ∈ wA := wA_of (List.mem_of_getElem? (i := 632) (by decide +kernel)) (by decide +kernel)
theorem m_633 : (Jvm.Cond.code ({ cls := "DocumentBytesModel", name := "goOver", desc := "(I)V" } : Jvm.MethodName) prog_8_method_11_code (5 : Nat) (Option.none : Option Jvm.ClassFile.FieldType)) ∈ wA := wA_of (List.mem_of_getElem? (i := 633) (by decide +kernel)) (by decide +kernel)
theorem m_634 : (Jvm.Cond.methodLink "DocumentBytesModel" (93 : Nat) ({ cls := "DocumentBytesModel", name := "opens", desc := "(IIIIZ)Z" } : Jvm.MethodName)) ∈ wA := wA_of (List.mem_of_getElem? (i := 634) (by decide +kernel)) (by decide +kernel)
theorem m_636 : (Jvm.Cond.instanceMethod ({ cls := "DocumentBytesModel", name := "opens", desc := "(IIIIZ)Z" } : Jvm.MethodName)) ∈ wA := wA_of (List.mem_of_getElem? (i := 636) (by decide +kernel)) (by decide +kernel)
theorem m_637 : (Jvm.Cond.code ({ cls := "DocumentBytesModel", name := "opens", desc := "(IIIIZ)Z" } : Jvm.MethodName) prog_8_method_9_code (8 : Nat) (Option.some Jvm.ClassFile.FieldType.boolean)) ∈ wA := wA_of (List.mem_of_getElem? (i := 637) (by decide +kernel)) (by decide +kernel)
theorem m_638 : (Jvm.Cond.methodLink "DocumentBytesModel" (77 : Nat) ({ cls := "DocumentBytesModel", name := "stop", desc := "(II)V" } : Jvm.MethodName)) ∈ wA := wA_of (List.mem_of_getElem? (i := 638) (by decide +kernel)) (by decide +kernel)
theorem m_640 : (Jvm.Cond.instanceMethod ({ cls := "DocumentBytesModel", name := "stop", desc := "(II)V" } : Jvm.MethodName)) ∈ wA := wA_of (List.mem_of_getElem? (i := 640) (by decide +kernel)) (by decide +kernel)
theorem m_641 : (Jvm.Cond.code ({ cls := "DocumentBytesModel", name := "stop", desc := "(II)V" } : Jvm.MethodName) prog_8_method_5_code (3 : Nat) (Option.none : Option Jvm.ClassFile.FieldType)) ∈ wA := wA_of (List.mem_of_getElem? (i := 641) (by decide +kernel)) (by decide +kernel)
theorem m_642 : (Jvm.Cond.methodLink "DocumentBytesModel" (81 : Nat) ({ cls := "DocumentBytesModel", name := "low", desc := "(II)J" } : Jvm.MethodName)) ∈ wA := wA_of (List.mem_of_getElem? (i := 642) (by decide +kernel)) (by decide +kernel)
theorem m_644 : (Jvm.Cond.instanceMethod ({ cls := "DocumentBytesModel", name := "low", desc := "(II)J" } : Jvm.MethodName)) ∈ wA := wA_of (List.mem_of_getElem? (i := 644) (by decide +kernel)) (by decide +kernel)
theorem m_645 : (Jvm.Cond.code ({ cls := "DocumentBytesModel", name := "low", desc := "(II)J" } : Jvm.MethodName) prog_8_method_6_code (6 : Nat) (Option.some Jvm.ClassFile.FieldType.long)) ∈ wA := wA_of (List.mem_of_getElem? (i := 645) (by decide +kernel)) (by decide +kernel)
theorem m_646 : (Jvm.Cond.constantLong "DocumentBytesModel" (85 : Nat) (5 : Int64)) ∈ wA := wA_of (List.mem_of_getElem? (i := 646) (by decide +kernel)) (by decide +kernel)
theorem m_647 : (Jvm.Cond.methodLink "DocumentBytesModel" (97 : Nat) ({ cls := "DocumentBytesModel", name := "isKind", desc := "(I)Z" } : Jvm.MethodName)) ∈ wA := wA_of (List.mem_of_getElem? (i := 647) (by decide +kernel)) (by decide +kernel)
theorem m_649 : (Jvm.Cond.instanceMethod ({ cls := "DocumentBytesModel", name := "isKind", desc := "(I)Z" } : Jvm.MethodName)) ∈ wA := wA_of (List.mem_of_getElem? (i := 649) (by decide +kernel)) (by decide +kernel)
theorem m_650 : (Jvm.Cond.code ({ cls := "DocumentBytesModel", name := "isKind", desc := "(I)Z" } : Jvm.MethodName) prog_8_method_10_code (2 : Nat) (Option.some Jvm.ClassFile.FieldType.boolean)) ∈ wA := wA_of (List.mem_of_getElem? (i := 650) (by decide +kernel)) (by decide +kernel)
theorem m_651 : (Jvm.Cond.methodLink "DocumentBytesModel" (101 : Nat) ({ cls := "DocumentBytesModel", name := "element", desc := "(III)I" } : Jvm.MethodName)) ∈ wA := wA_of (List.mem_of_getElem? (i := 651) (by decide +kernel)) (by decide +kernel)
theorem m_653 : (Jvm.Cond.instanceMethod ({ cls := "DocumentBytesModel", name := "element", desc := "(III)I" } : Jvm.MethodName)) ∈ wA := wA_of (List.mem_of_getElem? (i := 653) (by decide +kernel)) (by decide +kernel)
theorem m_654 : (Jvm.Cond.code ({ cls := "DocumentBytesModel", name := "element", desc := "(III)I" } : Jvm.MethodName) prog_8_method_12_code (8 : Nat) (Option.some Jvm.ClassFile.FieldType.int)) ∈ wA := wA_of (List.mem_of_getElem? (i := 654) (by decide +kernel)) (by decide +kernel)
theorem m_655 : (Jvm.Cond.methodLink "DocumentBytesModel" (105 : Nat) ({ cls := "DocumentBytesModel", name := "badText", desc := "([III)I" } : Jvm.MethodName)) ∈ wA := wA_of (List.mem_of_getElem? (i := 655) (by decide +kernel)) (by decide +kernel)
theorem m_656 : (Jvm.Cond.static ({ cls := "DocumentBytesModel", name := "badText", desc := "([III)I" } : Jvm.MethodName)) ∈ wA := wA_of (List.mem_of_getElem? (i := 656) (by decide +kernel)) (by decide +kernel)
theorem m_657 : (Jvm.Cond.code ({ cls := "DocumentBytesModel", name := "badText", desc := "([III)I" } : Jvm.MethodName) prog_8_method_8_code (5 : Nat) (Option.some Jvm.ClassFile.FieldType.int)) ∈ wA := wA_of (List.mem_of_getElem? (i := 657) (by decide +kernel)) (by decide +kernel)
theorem m_658 : (Jvm.Cond.methodLink "DocumentBytesModel" (73 : Nat) ({ cls := "DocumentBytesModel", name := "character", desc := "([III)I" } : Jvm.MethodName)) ∈ wA := wA_of (List.mem_of_getElem? (i := 658) (by decide +kernel)) (by decide +kernel)
theorem m_659 : (Jvm.Cond.static ({ cls := "DocumentBytesModel", name := "character", desc := "([III)I" } : Jvm.MethodName)) ∈ wA := wA_of (List.mem_of_getElem? (i := 659) (by decide +kernel)) (by decide +kernel)
theorem m_660 : (Jvm.Cond.code ({ cls := "DocumentBytesModel", name := "character", desc := "([III)I" } : Jvm.MethodName) prog_8_method_7_code (7 : Nat) (Option.some Jvm.ClassFile.FieldType.int)) ∈ wA := wA_of (List.mem_of_getElem? (i := 660) (by decide +kernel)) (by decide +kernel)
theorem m_661 : (Jvm.Cond.constant "DocumentBytesModel" (69 : Nat) (65536 : Int32)) ∈ wA := wA_of (List.mem_of_getElem? (i := 661) (by decide +kernel)) (by decide +kernel)
theorem m_662 : (Jvm.Cond.constant "DocumentBytesModel" (70 : Nat) (1114111 : Int32)) ∈ wA := wA_of (List.mem_of_getElem? (i := 662) (by decide +kernel)) (by decide +kernel)
theorem m_663 : (Jvm.Cond.constant "DocumentBytesModel" (71 : Nat) (55295 : Int32)) ∈ wA := wA_of (List.mem_of_getElem? (i := 663) (by decide +kernel)) (by decide +kernel)
theorem m_664 : (Jvm.Cond.constant "DocumentBytesModel" (72 : Nat) (57344 : Int32)) ∈ wA := wA_of (List.mem_of_getElem? (i := 664) (by decide +kernel)) (by decide +kernel)
theorem m_665 : (Jvm.Cond.methodLink "DocumentBytesModel" (108 : Nat) ({ cls := "DocumentBytesModel", name := "isName", desc := "(III)Z" } : Jvm.MethodName)) ∈ wA := wA_of (List.mem_of_getElem? (i := 665) (by decide +kernel)) (by decide +kernel)
theorem m_667 : (Jvm.Cond.instanceMethod ({ cls := "DocumentBytesModel", name := "isName", desc := "(III)Z" } : Jvm.MethodName)) ∈ wA := wA_of (List.mem_of_getElem? (i := 667) (by decide +kernel)) (by decide +kernel)
theorem m_668 : (Jvm.Cond.code ({ cls := "DocumentBytesModel", name := "isName", desc := "(III)Z" } : Jvm.MethodName) prog_8_method_13_code (7 : Nat) (Option.some Jvm.ClassFile.FieldType.boolean)) ∈ wA := wA_of (List.mem_of_getElem? (i := 668) (by decide +kernel)) (by decide +kernel)
theorem m_669 : (Jvm.Cond.methodLink "DocumentBytesModel" (119 : Nat) ({ cls := "DocumentBytesModel", name := "isNumber", desc := "([IIII)Z" } : Jvm.MethodName)) ∈ wA := wA_of (List.mem_of_getElem? (i := 669) (by decide +kernel)) (by decide +kernel)
theorem m_670 : (Jvm.Cond.static ({ cls := "DocumentBytesModel", name := "isNumber", desc := "([IIII)Z" } : Jvm.MethodName)) ∈ wA := wA_of (List.mem_of_getElem? (i := 670) (by decide +kernel)) (by decide +kernel)
theorem m_671 : (Jvm.Cond.code ({ cls := "DocumentBytesModel", name := "isNumber", desc := "([IIII)Z" } : Jvm.MethodName) prog_8_method_16_code (5 : Nat) (Option.some Jvm.ClassFile.FieldType.boolean)) ∈ wA := wA_of (List.mem_of_getElem? (i := 671) (by decide +kernel)) (by decide +kernel)
theorem m_672 : (Jvm.Cond.methodLink "DocumentBytesModel" (123 : Nat) ({ cls := "DocumentBytesModel", name := "digits", desc := "(I)I" } : Jvm.MethodName)) ∈ wA := wA_of (List.mem_of_getElem? (i := 672) (by decide +kernel)) (by decide +kernel)
theorem m_673 : (Jvm.Cond.static ({ cls := "DocumentBytesModel", name := "digits", desc := "(I)I" } : Jvm.MethodName)) ∈ wA := wA_of (List.mem_of_getElem? (i := 673) (by decide +kernel)) (by decide +kernel)
theorem m_674 : (Jvm.Cond.code ({ cls := "DocumentBytesModel", name := "digits", desc := "(I)I" } : Jvm.MethodName) prog_8_method_14_code (1 : Nat) (Option.some Jvm.ClassFile.FieldType.int)) ∈ wA := wA_of (List.mem_of_getElem? (i := 674) (by decide +kernel)) (by decide +kernel)
theorem m_675 : (Jvm.Cond.methodLink "DocumentBytesModel" (127 : Nat) ({ cls := "DocumentBytesModel", name := "digit", desc := "(II)I" } : Jvm.MethodName)) ∈ wA := wA_of (List.mem_of_getElem? (i := 675) (by decide +kernel)) (by decide +kernel)
theorem m_676 : (Jvm.Cond.static ({ cls := "DocumentBytesModel", name := "digit", desc := "(II)I" } : Jvm.MethodName)) ∈ wA := wA_of (List.mem_of_getElem? (i := 676) (by decide +kernel)) (by decide +kernel)
theorem m_677 : (Jvm.Cond.code ({ cls := "DocumentBytesModel", name := "digit", desc := "(II)I" } : Jvm.MethodName) prog_8_method_15_code (4 : Nat) (Option.some Jvm.ClassFile.FieldType.int)) ∈ wA := wA_of (List.mem_of_getElem? (i := 677) (by decide +kernel)) (by decide +kernel)
theorem m_678 : (Jvm.Cond.methodLink "DocumentBytesModel" (112 : Nat) ({ cls := "DocumentBytesModel", name := "value", desc := "(III)I" } : Jvm.MethodName)) ∈ wA := wA_of (List.mem_of_getElem? (i := 678) (by decide +kernel)) (by decide +kernel)
theorem m_680 : (Jvm.Cond.instanceMethod ({ cls := "DocumentBytesModel", name := "value", desc := "(III)I" } : Jvm.MethodName)) ∈ wA := wA_of (List.mem_of_getElem? (i := 680) (by decide +kernel)) (by decide +kernel)
theorem m_681 : (Jvm.Cond.code ({ cls := "DocumentBytesModel", name := "value", desc := "(III)I" } : Jvm.MethodName) prog_8_method_17_code (6 : Nat) (Option.some Jvm.ClassFile.FieldType.int)) ∈ wA := wA_of (List.mem_of_getElem? (i := 681) (by decide +kernel)) (by decide +kernel)
theorem m_682 : (Jvm.Cond.methodLink "DocumentBytesModel" (131 : Nat) ({ cls := "DocumentBytesModel", name := "text", desc := "(II)I" } : Jvm.MethodName)) ∈ wA := wA_of (List.mem_of_getElem? (i := 682) (by decide +kernel)) (by decide +kernel)
theorem m_684 : (Jvm.Cond.instanceMethod ({ cls := "DocumentBytesModel", name := "text", desc := "(II)I" } : Jvm.MethodName)) ∈ wA := wA_of (List.mem_of_getElem? (i := 684) (by decide +kernel)) (by decide +kernel)
theorem m_685 : (Jvm.Cond.code ({ cls := "DocumentBytesModel", name := "text", desc := "(II)I" } : Jvm.MethodName) prog_8_method_18_code (8 : Nat) (Option.some Jvm.ClassFile.FieldType.int)) ∈ wA := wA_of (List.mem_of_getElem? (i := 685) (by decide +kernel)) (by decide +kernel)
theorem m_686 : (Jvm.Cond.methodLink "DocumentBytesModel" (143 : Nat) ({ cls := "DocumentBytesModel", name := "store", desc := "(I)V" } : Jvm.MethodName)) ∈ wA := wA_of (List.mem_of_getElem? (i := 686) (by decide +kernel)) (by decide +kernel)
theorem m_688 : (Jvm.Cond.instanceMethod ({ cls := "DocumentBytesModel", name := "store", desc := "(I)V" } : Jvm.MethodName)) ∈ wA := wA_of (List.mem_of_getElem? (i := 688) (by decide +kernel)) (by decide +kernel)
theorem m_689 : (Jvm.Cond.code ({ cls := "DocumentBytesModel", name := "store", desc := "(I)V" } : Jvm.MethodName) prog_8_method_21_code (3 : Nat) (Option.none : Option Jvm.ClassFile.FieldType)) ∈ wA := wA_of (List.mem_of_getElem? (i := 689) (by decide +kernel)) (by decide +kernel)
theorem m_690 : (Jvm.Cond.methodLink "DocumentBytesLaw" (27 : Nat) ({ cls := "DocumentBytesModel", name := "place", desc := "()I" } : Jvm.MethodName)) ∈ wA := wA_of (List.mem_of_getElem? (i := 690) (by decide +kernel)) (by decide +kernel)
theorem m_691 : (Jvm.Cond.instanceMethod ({ cls := "DocumentBytesModel", name := "place", desc := "()I" } : Jvm.MethodName)) ∈ wA := wA_of (List.mem_of_getElem? (i := 691) (by decide +kernel)) (by decide +kernel)
theorem m_692 : (Jvm.Cond.selects "DocumentBytesModel" ({ cls := "DocumentBytesModel", name := "place", desc := "()I" } : Jvm.MethodName) ({ cls := "DocumentBytesModel", name := "place", desc := "()I" } : Jvm.MethodName)) ∈ wA := wA_of (List.mem_of_getElem? (i := 692) (by decide +kernel)) (by decide +kernel)
theorem m_693 : (Jvm.Cond.code ({ cls := "DocumentBytesModel", name := "place", desc := "()I" } : Jvm.MethodName) prog_8_method_23_code (1 : Nat) (Option.some Jvm.ClassFile.FieldType.int)) ∈ wA := wA_of (List.mem_of_getElem? (i := 693) (by decide +kernel)) (by decide +kernel)
theorem m_694 : (Jvm.Cond.methodLink "DocumentBytesLaw" (31 : Nat) ({ cls := "DocumentBytesModel", name := "many", desc := "(II)I" } : Jvm.MethodName)) ∈ wA := wA_of (List.mem_of_getElem? (i := 694) (by decide +kernel)) (by decide +kernel)
theorem m_695 : (Jvm.Cond.instanceMethod ({ cls := "DocumentBytesModel", name := "many", desc := "(II)I" } : Jvm.MethodName)) ∈ wA := wA_of (List.mem_of_getElem? (i := 695) (by decide +kernel)) (by decide +kernel)
theorem m_696 : (Jvm.Cond.selects "DocumentBytesModel" ({ cls := "DocumentBytesModel", name := "many", desc := "(II)I" } : Jvm.MethodName) ({ cls := "DocumentBytesModel", name := "many", desc := "(II)I" } : Jvm.MethodName)) ∈ wA := wA_of (List.mem_of_getElem? (i := 696) (by decide +kernel)) (by decide +kernel)
theorem m_697 : (Jvm.Cond.code ({ cls := "DocumentBytesModel", name := "many", desc := "(II)I" } : Jvm.MethodName) prog_8_method_24_code (3 : Nat) (Option.some Jvm.ClassFile.FieldType.int)) ∈ wA := wA_of (List.mem_of_getElem? (i := 697) (by decide +kernel)) (by decide +kernel)
theorem m_698 : (Jvm.Cond.methodLink "DocumentBytesModel" (146 : Nat) ({ cls := "DocumentBytesModel", name := "load", desc := "(I)V" } : Jvm.MethodName)) ∈ wA := wA_of (List.mem_of_getElem? (i := 698) (by decide +kernel)) (by decide +kernel)
theorem m_700 : (Jvm.Cond.instanceMethod ({ cls := "DocumentBytesModel", name := "load", desc := "(I)V" } : Jvm.MethodName)) ∈ wA := wA_of (List.mem_of_getElem? (i := 700) (by decide +kernel)) (by decide +kernel)
theorem m_701 : (Jvm.Cond.code ({ cls := "DocumentBytesModel", name := "load", desc := "(I)V" } : Jvm.MethodName) prog_8_method_20_code (4 : Nat) (Option.none : Option Jvm.ClassFile.FieldType)) ∈ wA := wA_of (List.mem_of_getElem? (i := 701) (by decide +kernel)) (by decide +kernel)
theorem m_702 : (Jvm.Cond.methodLink "DocumentBytesLaw" (35 : Nat) ({ cls := "DocumentBytesModel", name := "byteAt", desc := "(II)I" } : Jvm.MethodName)) ∈ wA := wA_of (List.mem_of_getElem? (i := 702) (by decide +kernel)) (by decide +kernel)
theorem m_703 : (Jvm.Cond.instanceMethod ({ cls := "DocumentBytesModel", name := "byteAt", desc := "(II)I" } : Jvm.MethodName)) ∈ wA := wA_of (List.mem_of_getElem? (i := 703) (by decide +kernel)) (by decide +kernel)
theorem m_704 : (Jvm.Cond.selects "DocumentBytesModel" ({ cls := "DocumentBytesModel", name := "byteAt", desc := "(II)I" } : Jvm.MethodName) ({ cls := "DocumentBytesModel", name := "byteAt", desc := "(II)I" } : Jvm.MethodName)) ∈ wA := wA_of (List.mem_of_getElem? (i := 704) (by decide +kernel)) (by decide +kernel)
theorem m_705 : (Jvm.Cond.code ({ cls := "DocumentBytesModel", name := "byteAt", desc := "(II)I" } : Jvm.MethodName) prog_8_method_25_code (3 : Nat) (Option.some Jvm.ClassFile.FieldType.int)) ∈ wA := wA_of (List.mem_of_getElem? (i := 705) (by decide +kernel)) (by decide +kernel)
theorem m_706 : (Jvm.Cond.methodLink "DocumentBytesLaw" (40 : Nat) ({ cls := "DocumentBytesModel", name := "look", desc := "(III)I" } : Jvm.MethodName)) ∈ wA := wA_of (List.mem_of_getElem? (i := 706) (by decide +kernel)) (by decide +kernel)
theorem m_707 : (Jvm.Cond.instanceMethod ({ cls := "DocumentBytesModel", name := "look", desc := "(III)I" } : Jvm.MethodName)) ∈ wA := wA_of (List.mem_of_getElem? (i := 707) (by decide +kernel)) (by decide +kernel)
theorem m_708 : (Jvm.Cond.selects "DocumentBytesModel" ({ cls := "DocumentBytesModel", name := "look", desc := "(III)I" } : Jvm.MethodName) ({ cls := "DocumentBytesModel", name := "look", desc := "(III)I" } : Jvm.MethodName)) ∈ wA := wA_of (List.mem_of_getElem? (i := 708) (by decide +kernel)) (by decide +kernel)
theorem m_709 : (Jvm.Cond.code ({ cls := "DocumentBytesModel", name := "look", desc := "(III)I" } : Jvm.MethodName) prog_8_method_32_code (4 : Nat) (Option.some Jvm.ClassFile.FieldType.int)) ∈ wA := wA_of (List.mem_of_getElem? (i := 709) (by decide +kernel)) (by decide +kernel)
theorem m_710 : (Jvm.Cond.methodLink "DocumentBytesModel" (152 : Nat) ({ cls := "DocumentBytesModel", name := "isNode", desc := "(II)Z" } : Jvm.MethodName)) ∈ wA := wA_of (List.mem_of_getElem? (i := 710) (by decide +kernel)) (by decide +kernel)
theorem m_712 : (Jvm.Cond.instanceMethod ({ cls := "DocumentBytesModel", name := "isNode", desc := "(II)Z" } : Jvm.MethodName)) ∈ wA := wA_of (List.mem_of_getElem? (i := 712) (by decide +kernel)) (by decide +kernel)
theorem m_713 : (Jvm.Cond.code ({ cls := "DocumentBytesModel", name := "isNode", desc := "(II)Z" } : Jvm.MethodName) prog_8_method_26_code (3 : Nat) (Option.some Jvm.ClassFile.FieldType.boolean)) ∈ wA := wA_of (List.mem_of_getElem? (i := 713) (by decide +kernel)) (by decide +kernel)
theorem m_714 : (Jvm.Cond.methodLink "DocumentBytesModel" (149 : Nat) ({ cls := "DocumentBytesModel", name := "kindOf", desc := "(I)I" } : Jvm.MethodName)) ∈ wA := wA_of (List.mem_of_getElem? (i := 714) (by decide +kernel)) (by decide +kernel)
theorem m_716 : (Jvm.Cond.instanceMethod ({ cls := "DocumentBytesModel", name := "kindOf", desc := "(I)I" } : Jvm.MethodName)) ∈ wA := wA_of (List.mem_of_getElem? (i := 716) (by decide +kernel)) (by decide +kernel)
theorem m_717 : (Jvm.Cond.code ({ cls := "DocumentBytesModel", name := "kindOf", desc := "(I)I" } : Jvm.MethodName) prog_8_method_27_code (2 : Nat) (Option.some Jvm.ClassFile.FieldType.int)) ∈ wA := wA_of (List.mem_of_getElem? (i := 717) (by decide +kernel)) (by decide +kernel)
theorem m_718 : (Jvm.Cond.methodLink "DocumentBytesModel" (156 : Nat) ({ cls := "DocumentBytesModel", name := "nextIn", desc := "(II)I" } : Jvm.MethodName)) ∈ wA := wA_of (List.mem_of_getElem? (i := 718) (by decide +kernel)) (by decide +kernel)
theorem m_720 : (Jvm.Cond.instanceMethod ({ cls := "DocumentBytesModel", name := "nextIn", desc := "(II)I" } : Jvm.MethodName)) ∈ wA := wA_of (List.mem_of_getElem? (i := 720) (by decide +kernel)) (by decide +kernel)
theorem m_721 : (Jvm.Cond.code ({ cls := "DocumentBytesModel", name := "nextIn", desc := "(II)I" } : Jvm.MethodName) prog_8_method_30_code (4 : Nat) (Option.some Jvm.ClassFile.FieldType.int)) ∈ wA := wA_of (List.mem_of_getElem? (i := 721) (by decide +kernel)) (by decide +kernel)
theorem m_722 : (Jvm.Cond.methodLink "DocumentBytesModel" (159 : Nat) ({ cls := "DocumentBytesModel", name := "valueAt", desc := "(I)I" } : Jvm.MethodName)) ∈ wA := wA_of (List.mem_of_getElem? (i := 722) (by decide +kernel)) (by decide +kernel)
theorem m_724 : (Jvm.Cond.instanceMethod ({ cls := "DocumentBytesModel", name := "valueAt", desc := "(I)I" } : Jvm.MethodName)) ∈ wA := wA_of (List.mem_of_getElem? (i := 724) (by decide +kernel)) (by decide +kernel)
theorem m_725 : (Jvm.Cond.code ({ cls := "DocumentBytesModel", name := "valueAt", desc := "(I)I" } : Jvm.MethodName) prog_8_method_29_code (2 : Nat) (Option.some Jvm.ClassFile.FieldType.int)) ∈ wA := wA_of (List.mem_of_getElem? (i := 725) (by decide +kernel)) (by decide +kernel)
theorem m_726 : (Jvm.Cond.methodLink "DocumentBytesModel" (162 : Nat) ({ cls := "DocumentBytesModel", name := "isBox", desc := "(I)Z" } : Jvm.MethodName)) ∈ wA := wA_of (List.mem_of_getElem? (i := 726) (by decide +kernel)) (by decide +kernel)
theorem m_728 : (Jvm.Cond.instanceMethod ({ cls := "DocumentBytesModel", name := "isBox", desc := "(I)Z" } : Jvm.MethodName)) ∈ wA := wA_of (List.mem_of_getElem? (i := 728) (by decide +kernel)) (by decide +kernel)
theorem m_729 : (Jvm.Cond.code ({ cls := "DocumentBytesModel", name := "isBox", desc := "(I)Z" } : Jvm.MethodName) prog_8_method_28_code (2 : Nat) (Option.some Jvm.ClassFile.FieldType.boolean)) ∈ wA := wA_of (List.mem_of_getElem? (i := 729) (by decide +kernel)) (by decide +kernel)
theorem m_730 : (Jvm.Cond.methodLink "DocumentBytesModel" (165 : Nat) ({ cls := "DocumentBytesModel", name := "elements", desc := "(I)I" } : Jvm.MethodName)) ∈ wA := wA_of (List.mem_of_getElem? (i := 730) (by decide +kernel)) (by decide +kernel)
theorem m_732 : (Jvm.Cond.instanceMethod ({ cls := "DocumentBytesModel", name := "elements", desc := "(I)I" } : Jvm.MethodName)) ∈ wA := wA_of (List.mem_of_getElem? (i := 732) (by decide +kernel)) (by decide +kernel)
theorem m_733 : (Jvm.Cond.code ({ cls := "DocumentBytesModel", name := "elements", desc := "(I)I" } : Jvm.MethodName) prog_8_method_31_code (4 : Nat) (Option.some Jvm.ClassFile.FieldType.int)) ∈ wA := wA_of (List.mem_of_getElem? (i := 733) (by decide +kernel)) (by decide +kernel)
theorem m_734 : (Jvm.Cond.methodLink "DocumentBytesLaw" (45 : Nat) ({ cls := "DocumentBytesModel", name := "number", desc := "(II)J" } : Jvm.MethodName)) ∈ wA := wA_of (List.mem_of_getElem? (i := 734) (by decide +kernel)) (by decide +kernel)
theorem m_735 : (Jvm.Cond.instanceMethod ({ cls := "DocumentBytesModel", name := "number", desc := "(II)J" } : Jvm.MethodName)) ∈ wA := wA_of (List.mem_of_getElem? (i := 735) (by decide +kernel)) (by decide +kernel)
theorem m_736 : (Jvm.Cond.selects "DocumentBytesModel" ({ cls := "DocumentBytesModel", name := "number", desc := "(II)J" } : Jvm.MethodName) ({ cls := "DocumentBytesModel", name := "number", desc := "(II)J" } : Jvm.MethodName)) ∈ wA := wA_of (List.mem_of_getElem? (i := 736) (by decide +kernel)) (by decide +kernel)
theorem m_737 : (Jvm.Cond.code ({ cls := "DocumentBytesModel", name := "number", desc := "(II)J" } : Jvm.MethodName) prog_8_method_34_code (3 : Nat) (Option.some Jvm.ClassFile.FieldType.long)) ∈ wA := wA_of (List.mem_of_getElem? (i := 737) (by decide +kernel)) (by decide +kernel)
theorem m_738 : (Jvm.Cond.methodLink "DocumentBytesModel" (168 : Nat) ({ cls := "DocumentBytesModel", name := "numberOf", desc := "(I)J" } : Jvm.MethodName)) ∈ wA := wA_of (List.mem_of_getElem? (i := 738) (by decide +kernel)) (by decide +kernel)
theorem m_740 : (Jvm.Cond.instanceMethod ({ cls := "DocumentBytesModel", name := "numberOf", desc := "(I)J" } : Jvm.MethodName)) ∈ wA := wA_of (List.mem_of_getElem? (i := 740) (by decide +kernel)) (by decide +kernel)
theorem m_741 : (Jvm.Cond.code ({ cls := "DocumentBytesModel", name := "numberOf", desc := "(I)J" } : Jvm.MethodName) prog_8_method_33_code (3 : Nat) (Option.some Jvm.ClassFile.FieldType.long)) ∈ wA := wA_of (List.mem_of_getElem? (i := 741) (by decide +kernel)) (by decide +kernel)
theorem m_742 : (Jvm.Cond.methodLink "DocumentBytesLaw" (50 : Nat) ({ cls := "DocumentBytesModel", name := "letter", desc := "(IIZI)I" } : Jvm.MethodName)) ∈ wA := wA_of (List.mem_of_getElem? (i := 742) (by decide +kernel)) (by decide +kernel)
theorem m_743 : (Jvm.Cond.instanceMethod ({ cls := "DocumentBytesModel", name := "letter", desc := "(IIZI)I" } : Jvm.MethodName)) ∈ wA := wA_of (List.mem_of_getElem? (i := 743) (by decide +kernel)) (by decide +kernel)
theorem m_744 : (Jvm.Cond.selects "DocumentBytesModel" ({ cls := "DocumentBytesModel", name := "letter", desc := "(IIZI)I" } : Jvm.MethodName) ({ cls := "DocumentBytesModel", name := "letter", desc := "(IIZI)I" } : Jvm.MethodName)) ∈ wA := wA_of (List.mem_of_getElem? (i := 744) (by decide +kernel)) (by decide +kernel)
theorem m_745 : (Jvm.Cond.code ({ cls := "DocumentBytesModel", name := "letter", desc := "(IIZI)I" } : Jvm.MethodName) prog_8_method_35_code (5 : Nat) (Option.some Jvm.ClassFile.FieldType.int)) ∈ wA := wA_of (List.mem_of_getElem? (i := 745) (by decide +kernel)) (by decide +kernel)
theorem m_746 : (Jvm.Cond.methodLink "DocumentBytesLaw" (54 : Nat) ({ cls := "DocumentBytesModel", name := "find", desc := "(III)I" } : Jvm.MethodName)) ∈ wA := wA_of (List.mem_of_getElem? (i := 746) (by decide +kernel)) (by decide +kernel)
theorem m_747 : (Jvm.Cond.instanceMethod ({ cls := "DocumentBytesModel", name := "find", desc := "(III)I" } : Jvm.MethodName)) ∈ wA := wA_of (List.mem_of_getElem? (i := 747) (by decide +kernel)) (by decide +kernel)
theorem m_748 : (Jvm.Cond.selects "DocumentBytesModel" ({ cls := "DocumentBytesModel", name := "find", desc := "(III)I" } : Jvm.MethodName) ({ cls := "DocumentBytesModel", name := "find", desc := "(III)I" } : Jvm.MethodName)) ∈ wA := wA_of (List.mem_of_getElem? (i := 748) (by decide +kernel)) (by decide +kernel)
theorem m_749 : (Jvm.Cond.code ({ cls := "DocumentBytesModel", name := "find", desc := "(III)I" } : Jvm.MethodName) prog_8_method_37_code (5 : Nat) (Option.some Jvm.ClassFile.FieldType.int)) ∈ wA := wA_of (List.mem_of_getElem? (i := 749) (by decide +kernel)) (by decide +kernel)
theorem m_750 : (Jvm.Cond.methodLink "DocumentBytesModel" (172 : Nat) ({ cls := "DocumentBytesModel", name := "findName", desc := "(II)I" } : Jvm.MethodName)) ∈ wA := wA_of (List.mem_of_getElem? (i := 750) (by decide +kernel)) (by decide +kernel)
theorem m_752 : (Jvm.Cond.instanceMethod ({ cls := "DocumentBytesModel", name := "findName", desc := "(II)I" } : Jvm.MethodName)) ∈ wA := wA_of (List.mem_of_getElem? (i := 752) (by decide +kernel)) (by decide +kernel)
theorem m_753 : (Jvm.Cond.code ({ cls := "DocumentBytesModel", name := "findName", desc := "(II)I" } : Jvm.MethodName) prog_8_method_36_code (6 : Nat) (Option.some Jvm.ClassFile.FieldType.int)) ∈ wA := wA_of (List.mem_of_getElem? (i := 753) (by decide +kernel)) (by decide +kernel)
theorem m_754 : (Jvm.Cond.methodLink "DocumentBytesLaw" (61 : Nat) ({ cls := "DocumentBytesModel", name := "add", desc := "(IIIJII)I" } : Jvm.MethodName)) ∈ wA := wA_of (List.mem_of_getElem? (i := 754) (by decide +kernel)) (by decide +kernel)
theorem m_755 : (Jvm.Cond.instanceMethod ({ cls := "DocumentBytesModel", name := "add", desc := "(IIIJII)I" } : Jvm.MethodName)) ∈ wA := wA_of (List.mem_of_getElem? (i := 755) (by decide +kernel)) (by decide +kernel)
theorem m_756 : (Jvm.Cond.selects "DocumentBytesModel" ({ cls := "DocumentBytesModel", name := "add", desc := "(IIIJII)I" } : Jvm.MethodName) ({ cls := "DocumentBytesModel", name := "add", desc := "(IIIJII)I" } : Jvm.MethodName)) ∈ wA := wA_of (List.mem_of_getElem? (i := 756) (by decide +kernel)) (by decide +kernel)
theorem m_757 : (Jvm.Cond.code ({ cls := "DocumentBytesModel", name := "add", desc := "(IIIJII)I" } : Jvm.MethodName) prog_8_method_47_code (10 : Nat) (Option.some Jvm.ClassFile.FieldType.int)) ∈ wA := wA_of (List.mem_of_getElem? (i := 757) (by decide +kernel)) (by decide +kernel)
theorem m_758 : (Jvm.Cond.methodLink "DocumentBytesModel" (198 : Nat) ({ cls := "DocumentBytesModel", name := "canBe", desc := "(IIJII)Z" } : Jvm.MethodName)) ∈ wA := wA_of (List.mem_of_getElem? (i := 758) (by decide +kernel)) (by decide +kernel)
theorem m_760 : (Jvm.Cond.instanceMethod ({ cls := "DocumentBytesModel", name := "canBe", desc := "(IIJII)Z" } : Jvm.MethodName)) ∈ wA := wA_of (List.mem_of_getElem? (i := 760) (by decide +kernel)) (by decide +kernel)
theorem m_761 : (Jvm.Cond.code ({ cls := "DocumentBytesModel", name := "canBe", desc := "(IIJII)Z" } : Jvm.MethodName) prog_8_method_44_code (7 : Nat) (Option.some Jvm.ClassFile.FieldType.boolean)) ∈ wA := wA_of (List.mem_of_getElem? (i := 761) (by decide +kernel)) (by decide +kernel)
theorem m_762 : (Jvm.Cond.constantLong "DocumentBytesModel" (187 : Nat) (-2147483648 : Int64)) ∈ wA := wA_of (List.mem_of_getElem? (i := 762) (by decide +kernel)) (by decide +kernel)
theorem m_763 : (Jvm.Cond.constantLong "DocumentBytesModel" (189 : Nat) (2147483647 : Int64)) ∈ wA := wA_of (List.mem_of_getElem? (i := 763) (by decide +kernel)) (by decide +kernel)
theorem m_764 : (Jvm.Cond.methodLink "DocumentBytesModel" (202 : Nat) ({ cls := "DocumentBytesModel", name := "isNameFree", desc := "(II)Z" } : Jvm.MethodName)) ∈ wA := wA_of (List.mem_of_getElem? (i := 764) (by decide +kernel)) (by decide +kernel)
theorem m_766 : (Jvm.Cond.instanceMethod ({ cls := "DocumentBytesModel", name := "isNameFree", desc := "(II)Z" } : Jvm.MethodName)) ∈ wA := wA_of (List.mem_of_getElem? (i := 766) (by decide +kernel)) (by decide +kernel)
theorem m_767 : (Jvm.Cond.code ({ cls := "DocumentBytesModel", name := "isNameFree", desc := "(II)Z" } : Jvm.MethodName) prog_8_method_45_code (4 : Nat) (Option.some Jvm.ClassFile.FieldType.boolean)) ∈ wA := wA_of (List.mem_of_getElem? (i := 767) (by decide +kernel)) (by decide +kernel)
theorem m_768 : (Jvm.Cond.methodLink "DocumentBytesModel" (205 : Nat) ({ cls := "DocumentBytesModel", name := "writeHead", desc := "(III)V" } : Jvm.MethodName)) ∈ wA := wA_of (List.mem_of_getElem? (i := 768) (by decide +kernel)) (by decide +kernel)
theorem m_770 : (Jvm.Cond.instanceMethod ({ cls := "DocumentBytesModel", name := "writeHead", desc := "(III)V" } : Jvm.MethodName)) ∈ wA := wA_of (List.mem_of_getElem? (i := 770) (by decide +kernel)) (by decide +kernel)
theorem m_771 : (Jvm.Cond.code ({ cls := "DocumentBytesModel", name := "writeHead", desc := "(III)V" } : Jvm.MethodName) prog_8_method_42_code (6 : Nat) (Option.none : Option Jvm.ClassFile.FieldType)) ∈ wA := wA_of (List.mem_of_getElem? (i := 771) (by decide +kernel)) (by decide +kernel)
theorem m_772 : (Jvm.Cond.methodLink "DocumentBytesModel" (184 : Nat) ({ cls := "DocumentBytesModel", name := "write", desc := "(I)V" } : Jvm.MethodName)) ∈ wA := wA_of (List.mem_of_getElem? (i := 772) (by decide +kernel)) (by decide +kernel)
theorem m_774 : (Jvm.Cond.instanceMethod ({ cls := "DocumentBytesModel", name := "write", desc := "(I)V" } : Jvm.MethodName)) ∈ wA := wA_of (List.mem_of_getElem? (i := 774) (by decide +kernel)) (by decide +kernel)
theorem m_775 : (Jvm.Cond.code ({ cls := "DocumentBytesModel", name := "write", desc := "(I)V" } : Jvm.MethodName) prog_8_method_40_code (2 : Nat) (Option.none : Option Jvm.ClassFile.FieldType)) ∈ wA := wA_of (List.mem_of_getElem? (i := 775) (by decide +kernel)) (by decide +kernel)
theorem m_776 : (Jvm.Cond.methodLink "DocumentBytesModel" (208 : Nat) ({ cls := "DocumentBytesModel", name := "writeLow", desc := "(JI)V" } : Jvm.MethodName)) ∈ wA := wA_of (List.mem_of_getElem? (i := 776) (by decide +kernel)) (by decide +kernel)
theorem m_778 : (Jvm.Cond.instanceMethod ({ cls := "DocumentBytesModel", name := "writeLow", desc := "(JI)V" } : Jvm.MethodName)) ∈ wA := wA_of (List.mem_of_getElem? (i := 778) (by decide +kernel)) (by decide +kernel)
theorem m_779 : (Jvm.Cond.code ({ cls := "DocumentBytesModel", name := "writeLow", desc := "(JI)V" } : Jvm.MethodName) prog_8_method_41_code (5 : Nat) (Option.none : Option Jvm.ClassFile.FieldType)) ∈ wA := wA_of (List.mem_of_getElem? (i := 779) (by decide +kernel)) (by decide +kernel)
theorem m_780 : (Jvm.Cond.constantLong "DocumentBytesModel" (182 : Nat) (255 : Int64)) ∈ wA := wA_of (List.mem_of_getElem? (i := 780) (by decide +kernel)) (by decide +kernel)
theorem m_781 : (Jvm.Cond.methodLink "DocumentBytesModel" (212 : Nat) ({ cls := "DocumentBytesModel", name := "insert", desc := "(II)I" } : Jvm.MethodName)) ∈ wA := wA_of (List.mem_of_getElem? (i := 781) (by decide +kernel)) (by decide +kernel)
theorem m_783 : (Jvm.Cond.instanceMethod ({ cls := "DocumentBytesModel", name := "insert", desc := "(II)I" } : Jvm.MethodName)) ∈ wA := wA_of (List.mem_of_getElem? (i := 783) (by decide +kernel)) (by decide +kernel)
theorem m_784 : (Jvm.Cond.code ({ cls := "DocumentBytesModel", name := "insert", desc := "(II)I" } : Jvm.MethodName) prog_8_method_46_code (4 : Nat) (Option.some Jvm.ClassFile.FieldType.int)) ∈ wA := wA_of (List.mem_of_getElem? (i := 784) (by decide +kernel)) (by decide +kernel)
theorem m_785 : (Jvm.Cond.methodLink "DocumentBytesModel" (191 : Nat) ({ cls := "DocumentBytesModel", name := "lastOf", desc := "(I)I" } : Jvm.MethodName)) ∈ wA := wA_of (List.mem_of_getElem? (i := 785) (by decide +kernel)) (by decide +kernel)
theorem m_787 : (Jvm.Cond.instanceMethod ({ cls := "DocumentBytesModel", name := "lastOf", desc := "(I)I" } : Jvm.MethodName)) ∈ wA := wA_of (List.mem_of_getElem? (i := 787) (by decide +kernel)) (by decide +kernel)
theorem m_788 : (Jvm.Cond.code ({ cls := "DocumentBytesModel", name := "lastOf", desc := "(I)I" } : Jvm.MethodName) prog_8_method_43_code (4 : Nat) (Option.some Jvm.ClassFile.FieldType.int)) ∈ wA := wA_of (List.mem_of_getElem? (i := 788) (by decide +kernel)) (by decide +kernel)
theorem m_789 : (Jvm.Cond.methodLink "DocumentBytesModel" (194 : Nat) ({ cls := "DocumentBytesModel", name := "splice", desc := "(III)V" } : Jvm.MethodName)) ∈ wA := wA_of (List.mem_of_getElem? (i := 789) (by decide +kernel)) (by decide +kernel)
theorem m_791 : (Jvm.Cond.instanceMethod ({ cls := "DocumentBytesModel", name := "splice", desc := "(III)V" } : Jvm.MethodName)) ∈ wA := wA_of (List.mem_of_getElem? (i := 791) (by decide +kernel)) (by decide +kernel)
theorem m_792 : (Jvm.Cond.code ({ cls := "DocumentBytesModel", name := "splice", desc := "(III)V" } : Jvm.MethodName) prog_8_method_38_code (6 : Nat) (Option.none : Option Jvm.ClassFile.FieldType)) ∈ wA := wA_of (List.mem_of_getElem? (i := 792) (by decide +kernel)) (by decide +kernel)
theorem m_793 : (Jvm.Cond.methodLink "DocumentBytesModel" (178 : Nat) ({ cls := "DocumentBytesModel", name := "putLow", desc := "(IJ)V" } : Jvm.MethodName)) ∈ wA := wA_of (List.mem_of_getElem? (i := 793) (by decide +kernel)) (by decide +kernel)
theorem m_795 : (Jvm.Cond.instanceMethod ({ cls := "DocumentBytesModel", name := "putLow", desc := "(IJ)V" } : Jvm.MethodName)) ∈ wA := wA_of (List.mem_of_getElem? (i := 795) (by decide +kernel)) (by decide +kernel)
theorem m_796 : (Jvm.Cond.code ({ cls := "DocumentBytesModel", name := "putLow", desc := "(IJ)V" } : Jvm.MethodName) prog_8_method_39_code (5 : Nat) (Option.none : Option Jvm.ClassFile.FieldType)) ∈ wA := wA_of (List.mem_of_getElem? (i := 796) (by decide +kernel)) (by decide +kernel)
theorem m_797 : (Jvm.Cond.methodLink "DocumentBytesLaw" (65 : Nat) ({ cls := "DocumentBytesModel", name := "graft", desc := "(IIIII)I" } : Jvm.MethodName)) ∈ wA := wA_of (List.mem_of_getElem? (i := 797) (by decide +kernel)) (by decide +kernel)
theorem m_798 : (Jvm.Cond.instanceMethod ({ cls := "DocumentBytesModel", name := "graft", desc := "(IIIII)I" } : Jvm.MethodName)) ∈ wA := wA_of (List.mem_of_getElem? (i := 798) (by decide +kernel)) (by decide +kernel)
theorem m_799 : (Jvm.Cond.selects "DocumentBytesModel" ({ cls := "DocumentBytesModel", name := "graft", desc := "(IIIII)I" } : Jvm.MethodName) ({ cls := "DocumentBytesModel", name := "graft", desc := "(IIIII)I" } : Jvm.MethodName)) ∈ wA := wA_of (List.mem_of_getElem? (i := 799) (by decide +kernel)) (by decide +kernel)
theorem m_800 : (Jvm.Cond.code ({ cls := "DocumentBytesModel", name := "graft", desc := "(IIIII)I" } : Jvm.MethodName) prog_8_method_49_code (12 : Nat) (Option.some Jvm.ClassFile.FieldType.int)) ∈ wA := wA_of (List.mem_of_getElem? (i := 800) (by decide +kernel)) (by decide +kernel)
theorem m_801 : (Jvm.Cond.methodLink "DocumentBytesModel" (215 : Nat) ({ cls := "DocumentBytesModel", name := "deepIn", desc := "(I)I" } : Jvm.MethodName)) ∈ wA := wA_of (List.mem_of_getElem? (i := 801) (by decide +kernel)) (by decide +kernel)
theorem m_803 : (Jvm.Cond.instanceMethod ({ cls := "DocumentBytesModel", name := "deepIn", desc := "(I)I" } : Jvm.MethodName)) ∈ wA := wA_of (List.mem_of_getElem? (i := 803) (by decide +kernel)) (by decide +kernel)
theorem m_804 : (Jvm.Cond.code ({ cls := "DocumentBytesModel", name := "deepIn", desc := "(I)I" } : Jvm.MethodName) prog_8_method_48_code (5 : Nat) (Option.some Jvm.ClassFile.FieldType.int)) ∈ wA := wA_of (List.mem_of_getElem? (i := 804) (by decide +kernel)) (by decide +kernel)
theorem m_805 : (Jvm.Cond.methodLink "DocumentBytesLaw" (70 : Nat) ({ cls := "DocumentBytesModel", name := "set", desc := "(IIJ)Z" } : Jvm.MethodName)) ∈ wA := wA_of (List.mem_of_getElem? (i := 805) (by decide +kernel)) (by decide +kernel)
theorem m_806 : (Jvm.Cond.instanceMethod ({ cls := "DocumentBytesModel", name := "set", desc := "(IIJ)Z" } : Jvm.MethodName)) ∈ wA := wA_of (List.mem_of_getElem? (i := 806) (by decide +kernel)) (by decide +kernel)
theorem m_807 : (Jvm.Cond.selects "DocumentBytesModel" ({ cls := "DocumentBytesModel", name := "set", desc := "(IIJ)Z" } : Jvm.MethodName) ({ cls := "DocumentBytesModel", name := "set", desc := "(IIJ)Z" } : Jvm.MethodName)) ∈ wA := wA_of (List.mem_of_getElem? (i := 807) (by decide +kernel)) (by decide +kernel)
theorem m_808 : (Jvm.Cond.code ({ cls := "DocumentBytesModel", name := "set", desc := "(IIJ)Z" } : Jvm.MethodName) prog_8_method_50_code (8 : Nat) (Option.some Jvm.ClassFile.FieldType.boolean)) ∈ wA := wA_of (List.mem_of_getElem? (i := 808) (by decide +kernel)) (by decide +kernel)
theorem m_809 : (Jvm.Cond.methodLink "DocumentBytesLaw" (75 : Nat) ({ cls := "DocumentBytesModel", name := "drop", desc := "(II)Z" } : Jvm.MethodName)) ∈ wA := wA_of (List.mem_of_getElem? (i := 809) (by decide +kernel)) (by decide +kernel)
theorem m_810 : (Jvm.Cond.instanceMethod ({ cls := "DocumentBytesModel", name := "drop", desc := "(II)Z" } : Jvm.MethodName)) ∈ wA := wA_of (List.mem_of_getElem? (i := 810) (by decide +kernel)) (by decide +kernel)
theorem m_811 : (Jvm.Cond.selects "DocumentBytesModel" ({ cls := "DocumentBytesModel", name := "drop", desc := "(II)Z" } : Jvm.MethodName) ({ cls := "DocumentBytesModel", name := "drop", desc := "(II)Z" } : Jvm.MethodName)) ∈ wA := wA_of (List.mem_of_getElem? (i := 811) (by decide +kernel)) (by decide +kernel)
theorem m_812 : (Jvm.Cond.code ({ cls := "DocumentBytesModel", name := "drop", desc := "(II)Z" } : Jvm.MethodName) prog_8_method_51_code (9 : Nat) (Option.some Jvm.ClassFile.FieldType.boolean)) ∈ wA := wA_of (List.mem_of_getElem? (i := 812) (by decide +kernel)) (by decide +kernel)
theorem m_813 : (Jvm.Cond.methodLink "DocumentBytesModel" (218 : Nat) ({ cls := "DocumentBytesModel", name := "renumber", desc := "()V" } : Jvm.MethodName)) ∈ wA := wA_of (List.mem_of_getElem? (i := 813) (by decide +kernel)) (by decide +kernel)
theorem m_815 : (Jvm.Cond.instanceMethod ({ cls := "DocumentBytesModel", name := "renumber", desc := "()V" } : Jvm.MethodName)) ∈ wA := wA_of (List.mem_of_getElem? (i := 815) (by decide +kernel)) (by decide +kernel)
theorem m_816 : (Jvm.Cond.code ({ cls := "DocumentBytesModel", name := "renumber", desc := "()V" } : Jvm.MethodName) prog_8_method_52_code (1 : Nat) (Option.none : Option Jvm.ClassFile.FieldType)) ∈ wA := wA_of (List.mem_of_getElem? (i := 816) (by decide +kernel)) (by decide +kernel)
theorem m_817 : (Jvm.Cond.methodLink "DocumentBytesModel" (224 : Nat) ({ cls := "DocumentBytesModel", name := "goOverAgain", desc := "()V" } : Jvm.MethodName)) ∈ wA := wA_of (List.mem_of_getElem? (i := 817) (by decide +kernel)) (by decide +kernel)
theorem m_819 : (Jvm.Cond.instanceMethod ({ cls := "DocumentBytesModel", name := "goOverAgain", desc := "()V" } : Jvm.MethodName)) ∈ wA := wA_of (List.mem_of_getElem? (i := 819) (by decide +kernel)) (by decide +kernel)
theorem m_820 : (Jvm.Cond.code ({ cls := "DocumentBytesModel", name := "goOverAgain", desc := "()V" } : Jvm.MethodName) prog_8_method_53_code (2 : Nat) (Option.none : Option Jvm.ClassFile.FieldType)) ∈ wA := wA_of (List.mem_of_getElem? (i := 820) (by decide +kernel)) (by decide +kernel)
theorem m_821 : (Jvm.Cond.methodLink "DocumentBytesModel" (221 : Nat) ({ cls := "DocumentBytesModel", name := "itemOf", desc := "(II)I" } : Jvm.MethodName)) ∈ wA := wA_of (List.mem_of_getElem? (i := 821) (by decide +kernel)) (by decide +kernel)
theorem m_823 : (Jvm.Cond.instanceMethod ({ cls := "DocumentBytesModel", name := "itemOf", desc := "(II)I" } : Jvm.MethodName)) ∈ wA := wA_of (List.mem_of_getElem? (i := 823) (by decide +kernel)) (by decide +kernel)
theorem m_824 : (Jvm.Cond.code ({ cls := "DocumentBytesModel", name := "itemOf", desc := "(II)I" } : Jvm.MethodName) prog_8_method_54_code (5 : Nat) (Option.some Jvm.ClassFile.FieldType.int)) ∈ wA := wA_of (List.mem_of_getElem? (i := 824) (by decide +kernel)) (by decide +kernel)
theorem m_825 : (Jvm.Cond.constantLong "DocumentBytesLaw" (55 : Nat) (4294967295 : Int64)) ∈ wA := wA_of (List.mem_of_getElem? (i := 825) (by decide +kernel)) (by decide +kernel)
end
section
/-! classes and their fields -/
def R_Bytes : String := "DocumentBytes$Bytes"
def R_Kinds : String := "DocumentBytes$Kinds"
def R_Utf8 : String := "DocumentBytes$Utf8"
def R_Nodes : String := "DocumentBytes$Nodes"
def R_Reader : String := "DocumentBytes$Reader"
def R_Doc : String := "DocumentBytes"
def R_Model : String := "DocumentBytesModel"
def R_Law : String := "DocumentBytesLaw"
def R_Arrays : String := "java/util/Arrays"
def R_Math : String := "java/lang/Math"
def T_Bytes : u_T := fun k => match k with
  | 0 => ("DocumentBytes$Bytes", "most", "I", true)
  | 1 => ("DocumentBytes$Bytes", "row", "[B", false)
  | _ => ("DocumentBytes$Bytes", "size", "I", false)
def ty_Bytes : Nat → FieldType := fun k => match k with
  | 0 => .int
  | 1 => .array .byte
  | _ => .int
theorem nm_Bytes : ∀ a, a < 3 → ∀ b, b < 3 → a ≠ b → (T_Bytes a).2.1 ≠ (T_Bytes b).2.1 := by decide +kernel
theorem ty_Bytes_ok : ∀ k, k < 3 → parseFieldDescriptor (T_Bytes k).2.2.1 = some (ty_Bytes k) := by decide +kernel
theorem in_Bytes : ∀ w ∈ u_ws R_Bytes T_Bytes 3, w ∈ wA := by
  intro w hw
  obtain ⟨k, hk, rfl⟩ := List.mem_map.mp hw
  have hk := List.mem_range.mp hk
  rcases (show k = 0 ∨ k = 1 ∨ k = 2 by omega) with rfl | rfl | rfl
  · exact m_78
  · exact m_80
  · exact m_82
def T_Nodes : u_T := fun k => match k with
  | 0 => ("DocumentBytes$Nodes", "kinds", "[I", true)
  | 1 => ("DocumentBytes$Nodes", "parents", "[I", true)
  | 2 => ("DocumentBytes$Nodes", "depths", "[I", true)
  | 3 => ("DocumentBytes$Nodes", "names", "[I", true)
  | 4 => ("DocumentBytes$Nodes", "values", "[I", true)
  | 5 => ("DocumentBytes$Nodes", "valueLengths", "[I", true)
  | 6 => ("DocumentBytes$Nodes", "elementCounts", "[I", true)
  | 7 => ("DocumentBytes$Nodes", "document", "LDocumentBytes$Bytes;", false)
  | _ => ("DocumentBytes$Nodes", "count", "I", false)
def ty_Nodes : Nat → FieldType := fun k => match k with
  | 0 => .array .int
  | 1 => .array .int
  | 2 => .array .int
  | 3 => .array .int
  | 4 => .array .int
  | 5 => .array .int
  | 6 => .array .int
  | 7 => .object "DocumentBytes$Bytes"
  | _ => .int
theorem nm_Nodes : ∀ a, a < 9 → ∀ b, b < 9 → a ≠ b → (T_Nodes a).2.1 ≠ (T_Nodes b).2.1 := by decide +kernel
theorem ty_Nodes_ok : ∀ k, k < 9 → parseFieldDescriptor (T_Nodes k).2.2.1 = some (ty_Nodes k) := by decide +kernel
theorem in_Nodes : ∀ w ∈ u_ws R_Nodes T_Nodes 9, w ∈ wA := by
  intro w hw
  obtain ⟨k, hk, rfl⟩ := List.mem_map.mp hw
  have hk := List.mem_range.mp hk
  rcases (show k = 0 ∨ k = 1 ∨ k = 2 ∨ k = 3 ∨ k = 4 ∨ k = 5 ∨ k = 6 ∨ k = 7 ∨ k = 8 by omega) with rfl | rfl | rfl | rfl | rfl | rfl | rfl | rfl | rfl
  · exact m_140
  · exact m_142
  · exact m_144
  · exact m_146
  · exact m_148
  · exact m_150
  · exact m_152
  · exact m_154
  · exact m_156
def T_Reader : u_T := fun k => match k with
  | 0 => ("DocumentBytes$Reader", "nodes", "LDocumentBytes$Nodes;", true)
  | 1 => ("DocumentBytes$Reader", "bytes", "LDocumentBytes$Bytes;", true)
  | 2 => ("DocumentBytes$Reader", "at", "I", false)
  | 3 => ("DocumentBytes$Reader", "inside", "I", false)
  | 4 => ("DocumentBytes$Reader", "fault", "I", false)
  | _ => ("DocumentBytes$Reader", "faultPlace", "I", false)
def ty_Reader : Nat → FieldType := fun k => match k with
  | 0 => .object "DocumentBytes$Nodes"
  | 1 => .object "DocumentBytes$Bytes"
  | 2 => .int
  | 3 => .int
  | 4 => .int
  | _ => .int
theorem nm_Reader : ∀ a, a < 6 → ∀ b, b < 6 → a ≠ b → (T_Reader a).2.1 ≠ (T_Reader b).2.1 := by decide +kernel
theorem ty_Reader_ok : ∀ k, k < 6 → parseFieldDescriptor (T_Reader k).2.2.1 = some (ty_Reader k) := by decide +kernel
theorem in_Reader : ∀ w ∈ u_ws R_Reader T_Reader 6, w ∈ wA := by
  intro w hw
  obtain ⟨k, hk, rfl⟩ := List.mem_map.mp hw
  have hk := List.mem_range.mp hk
  rcases (show k = 0 ∨ k = 1 ∨ k = 2 ∨ k = 3 ∨ k = 4 ∨ k = 5 by omega) with rfl | rfl | rfl | rfl | rfl | rfl
  · exact m_172
  · exact m_174
  · exact m_176
  · exact m_178
  · exact m_180
  · exact m_182
def T_Doc : u_T := fun k => match k with
  | 0 => ("DocumentBytes", "tape", "LDocumentBytes$Bytes;", true)
  | 1 => ("DocumentBytes", "slots", "[LDocumentBytes$Bytes;", true)
  | 2 => ("DocumentBytes", "fresh", "LDocumentBytes$Bytes;", true)
  | 3 => ("DocumentBytes", "nodes", "LDocumentBytes$Nodes;", true)
  | 4 => ("DocumentBytes", "reader", "LDocumentBytes$Reader;", true)
  | 5 => ("DocumentBytes", "scanned", "I", false)
  | _ => ("DocumentBytes", "faultPlace", "I", false)
def ty_Doc : Nat → FieldType := fun k => match k with
  | 0 => .object "DocumentBytes$Bytes"
  | 1 => .array (.object "DocumentBytes$Bytes")
  | 2 => .object "DocumentBytes$Bytes"
  | 3 => .object "DocumentBytes$Nodes"
  | 4 => .object "DocumentBytes$Reader"
  | 5 => .int
  | _ => .int
theorem nm_Doc : ∀ a, a < 7 → ∀ b, b < 7 → a ≠ b → (T_Doc a).2.1 ≠ (T_Doc b).2.1 := by decide +kernel
theorem ty_Doc_ok : ∀ k, k < 7 → parseFieldDescriptor (T_Doc k).2.2.1 = some (ty_Doc k) := by decide +kernel
theorem in_Doc : ∀ w ∈ u_ws R_Doc T_Doc 7, w ∈ wA := by
  intro w hw
  obtain ⟨k, hk, rfl⟩ := List.mem_map.mp hw
  have hk := List.mem_range.mp hk
  rcases (show k = 0 ∨ k = 1 ∨ k = 2 ∨ k = 3 ∨ k = 4 ∨ k = 5 ∨ k = 6 by omega) with rfl | rfl | rfl | rfl | rfl | rfl | rfl
  · exact m_192
  · exact m_194
  · exact m_196
  · exact m_198
  · exact m_200
  · exact m_202
  · exact m_204
def T_Model : u_T := fun k => match k with
  | 0 => ("DocumentBytesModel", "thrown", "I", false)
  | 1 => ("DocumentBytesModel", "tape", "[I", true)
  | 2 => ("DocumentBytesModel", "taped", "I", false)
  | 3 => ("DocumentBytesModel", "place", "I", false)
  | 4 => ("DocumentBytesModel", "size", "[I", true)
  | 5 => ("DocumentBytesModel", "bytes", "[I", true)
  | 6 => ("DocumentBytesModel", "work", "[I", true)
  | 7 => ("DocumentBytesModel", "worked", "I", false)
  | 8 => ("DocumentBytesModel", "nodes", "I", false)
  | 9 => ("DocumentBytesModel", "parent", "[I", true)
  | 10 => ("DocumentBytesModel", "begin", "[I", true)
  | 11 => ("DocumentBytesModel", "nameEnd", "[I", true)
  | 12 => ("DocumentBytesModel", "end", "[I", true)
  | 13 => ("DocumentBytesModel", "depth", "[I", true)
  | 14 => ("DocumentBytesModel", "deepest", "I", false)
  | 15 => ("DocumentBytesModel", "fault", "I", false)
  | 16 => ("DocumentBytesModel", "lenient", "Z", false)
  | 17 => ("DocumentBytesModel", "ends", "[I", true)
  | 18 => ("DocumentBytesModel", "box", "[I", true)
  | 19 => ("DocumentBytesModel", "many", "[I", true)
  | 20 => ("DocumentBytesModel", "row", "[I", true)
  | 21 => ("DocumentBytesModel", "part", "[I", true)
  | _ => ("DocumentBytesModel", "parts", "I", false)
def ty_Model : Nat → FieldType := fun k => match k with
  | 0 => .int
  | 1 => .array .int
  | 2 => .int
  | 3 => .int
  | 4 => .array .int
  | 5 => .array .int
  | 6 => .array .int
  | 7 => .int
  | 8 => .int
  | 9 => .array .int
  | 10 => .array .int
  | 11 => .array .int
  | 12 => .array .int
  | 13 => .array .int
  | 14 => .int
  | 15 => .int
  | 16 => .boolean
  | 17 => .array .int
  | 18 => .array .int
  | 19 => .array .int
  | 20 => .array .int
  | 21 => .array .int
  | _ => .int
theorem nm_Model : ∀ a, a < 23 → ∀ b, b < 23 → a ≠ b → (T_Model a).2.1 ≠ (T_Model b).2.1 := by decide +kernel
theorem ty_Model_ok : ∀ k, k < 23 → parseFieldDescriptor (T_Model k).2.2.1 = some (ty_Model k) := by decide +kernel
theorem in_Model : ∀ w ∈ u_ws R_Model T_Model 23, w ∈ wA := by
  intro w hw
  obtain ⟨k, hk, rfl⟩ := List.mem_map.mp hw
  have hk := List.mem_range.mp hk
  rcases (show k = 0 ∨ k = 1 ∨ k = 2 ∨ k = 3 ∨ k = 4 ∨ k = 5 ∨ k = 6 ∨ k = 7 ∨ k = 8 ∨ k = 9 ∨ k = 10 ∨ k = 11 ∨ k = 12 ∨ k = 13 ∨ k = 14 ∨ k = 15 ∨ k = 16 ∨ k = 17 ∨ k = 18 ∨ k = 19 ∨ k = 20 ∨ k = 21 ∨ k = 22 by omega) with rfl | rfl | rfl | rfl | rfl | rfl | rfl | rfl | rfl | rfl | rfl | rfl | rfl | rfl | rfl | rfl | rfl | rfl | rfl | rfl | rfl | rfl | rfl
  · exact m_568
  · exact m_570
  · exact m_572
  · exact m_574
  · exact m_576
  · exact m_578
  · exact m_580
  · exact m_582
  · exact m_584
  · exact m_586
  · exact m_588
  · exact m_590
  · exact m_592
  · exact m_594
  · exact m_596
  · exact m_598
  · exact m_600
  · exact m_602
  · exact m_604
  · exact m_606
  · exact m_608
  · exact m_610
  · exact m_612
abbrev vwCl : List vw_C := [(R_Bytes, T_Bytes, 3), (R_Nodes, T_Nodes, 9), (R_Reader, T_Reader, 6), (R_Doc, T_Doc, 7), (R_Model, T_Model, 23)]
abbrev b_Doc_init : ByteArray := prog_1_method_1_code
abbrev y_Doc_init : MethodName := { cls := "DocumentBytes", name := "<init>", desc := "()V" }
abbrev w_Doc_init : List Cond := Cond.code y_Doc_init b_Doc_init 2 (Option.none : Option Jvm.ClassFile.FieldType) :: wA
abbrev b_Bytes_init : ByteArray := prog_2_method_1_code
abbrev y_Bytes_init : MethodName := { cls := "DocumentBytes$Bytes", name := "<init>", desc := "(I)V" }
abbrev w_Bytes_init : List Cond := Cond.code y_Bytes_init b_Bytes_init 2 (Option.none : Option Jvm.ClassFile.FieldType) :: wA
abbrev b_Bytes_appendEmptyDocument : ByteArray := prog_2_method_20_code
abbrev y_Bytes_appendEmptyDocument : MethodName := { cls := "DocumentBytes$Bytes", name := "appendEmptyDocument", desc := "()V" }
abbrev w_Bytes_appendEmptyDocument : List Cond := Cond.code y_Bytes_appendEmptyDocument b_Bytes_appendEmptyDocument 1 (Option.none : Option Jvm.ClassFile.FieldType) :: wA
abbrev b_Bytes_appendNumber : ByteArray := prog_2_method_18_code
abbrev y_Bytes_appendNumber : MethodName := { cls := "DocumentBytes$Bytes", name := "appendNumber", desc := "(JI)V" }
abbrev w_Bytes_appendNumber : List Cond := Cond.code y_Bytes_appendNumber b_Bytes_appendNumber 5 (Option.none : Option Jvm.ClassFile.FieldType) :: wA
abbrev b_Bytes_openGap : ByteArray := prog_2_method_14_code
abbrev y_Bytes_openGap : MethodName := { cls := "DocumentBytes$Bytes", name := "openGap", desc := "(II)V" }
abbrev w_Bytes_openGap : List Cond := Cond.code y_Bytes_openGap b_Bytes_openGap 3 (Option.none : Option Jvm.ClassFile.FieldType) :: wA
abbrev b_Arrays_copyOf : ByteArray := prog_12_method_121_code
abbrev y_Arrays_copyOf : MethodName := { cls := "java/util/Arrays", name := "copyOf", desc := "([BI)[B" }
abbrev w_Arrays_copyOf : List Cond := Cond.code y_Arrays_copyOf b_Arrays_copyOf 3 (Option.some (Jvm.ClassFile.FieldType.array Jvm.ClassFile.FieldType.byte)) :: wA
abbrev b_Math_min : ByteArray := prog_10_method_69_code
abbrev y_Math_min : MethodName := { cls := "java/lang/Math", name := "min", desc := "(II)I" }
abbrev w_Math_min : List Cond := Cond.code y_Math_min b_Math_min 2 (Option.some Jvm.ClassFile.FieldType.int) :: wA
abbrev b_Bytes_putNumber : ByteArray := prog_2_method_9_code
abbrev y_Bytes_putNumber : MethodName := { cls := "DocumentBytes$Bytes", name := "putNumber", desc := "(IIJ)V" }
abbrev w_Bytes_putNumber : List Cond := Cond.code y_Bytes_putNumber b_Bytes_putNumber 6 (Option.none : Option Jvm.ClassFile.FieldType) :: wA
abbrev b_Bytes_put : ByteArray := prog_2_method_6_code
abbrev y_Bytes_put : MethodName := { cls := "DocumentBytes$Bytes", name := "put", desc := "(II)V" }
abbrev w_Bytes_put : List Cond := Cond.code y_Bytes_put b_Bytes_put 3 (Option.none : Option Jvm.ClassFile.FieldType) :: wA
abbrev b_Nodes_init : ByteArray := prog_4_method_1_code
abbrev y_Nodes_init : MethodName := { cls := "DocumentBytes$Nodes", name := "<init>", desc := "(LDocumentBytes$Bytes;)V" }
abbrev w_Nodes_init : List Cond := Cond.code y_Nodes_init b_Nodes_init 2 (Option.none : Option Jvm.ClassFile.FieldType) :: wA
abbrev b_Reader_init : ByteArray := prog_5_method_1_code
abbrev y_Reader_init : MethodName := { cls := "DocumentBytes$Reader", name := "<init>", desc := "(LDocumentBytes$Nodes;LDocumentBytes$Bytes;)V" }
abbrev w_Reader_init : List Cond := Cond.code y_Reader_init b_Reader_init 3 (Option.none : Option Jvm.ClassFile.FieldType) :: wA
abbrev b_Doc_feed : ByteArray := prog_1_method_2_code
abbrev y_Doc_feed : MethodName := { cls := "DocumentBytes", name := "feed", desc := "(IIIII)I" }
abbrev w_Doc_feed : List Cond := Cond.code y_Doc_feed b_Doc_feed 6 (Option.some Jvm.ClassFile.FieldType.int) :: wA
abbrev b_Bytes_size : ByteArray := prog_2_method_2_code
abbrev y_Bytes_size : MethodName := { cls := "DocumentBytes$Bytes", name := "size", desc := "()I" }
abbrev w_Bytes_size : List Cond := Cond.code y_Bytes_size b_Bytes_size 1 (Option.some Jvm.ClassFile.FieldType.int) :: wA
abbrev b_Bytes_appendHighestFirst : ByteArray := prog_2_method_19_code
abbrev y_Bytes_appendHighestFirst : MethodName := { cls := "DocumentBytes$Bytes", name := "appendHighestFirst", desc := "(I)V" }
abbrev w_Bytes_appendHighestFirst : List Cond := Cond.code y_Bytes_appendHighestFirst b_Bytes_appendHighestFirst 4 (Option.none : Option Jvm.ClassFile.FieldType) :: wA
abbrev b_Doc_read : ByteArray := prog_1_method_3_code
abbrev y_Doc_read : MethodName := { cls := "DocumentBytes", name := "read", desc := "(II)I" }
abbrev w_Doc_read : List Cond := Cond.code y_Doc_read b_Doc_read 4 (Option.some Jvm.ClassFile.FieldType.int) :: wA
abbrev b_Doc_isSlot : ByteArray := prog_1_method_15_code
abbrev y_Doc_isSlot : MethodName := { cls := "DocumentBytes", name := "isSlot", desc := "(I)Z" }
abbrev w_Doc_isSlot : List Cond := Cond.code y_Doc_isSlot b_Doc_isSlot 1 (Option.some Jvm.ClassFile.FieldType.boolean) :: wA
abbrev b_Bytes_has : ByteArray := prog_2_method_4_code
abbrev y_Bytes_has : MethodName := { cls := "DocumentBytes$Bytes", name := "has", desc := "(II)Z" }
abbrev w_Bytes_has : List Cond := Cond.code y_Bytes_has b_Bytes_has 3 (Option.some Jvm.ClassFile.FieldType.boolean) :: wA
abbrev b_Reader_readAll : ByteArray := prog_5_method_3_code
abbrev y_Reader_readAll : MethodName := { cls := "DocumentBytes$Reader", name := "readAll", desc := "(I)I" }
abbrev w_Reader_readAll : List Cond := Cond.code y_Reader_readAll b_Reader_readAll 4 (Option.some Jvm.ClassFile.FieldType.int) :: wA
abbrev b_Nodes_begin : ByteArray := prog_4_method_2_code
abbrev y_Nodes_begin : MethodName := { cls := "DocumentBytes$Nodes", name := "begin", desc := "(LDocumentBytes$Bytes;)V" }
abbrev w_Nodes_begin : List Cond := Cond.code y_Nodes_begin b_Nodes_begin 2 (Option.none : Option Jvm.ClassFile.FieldType) :: wA
abbrev b_Reader_readSize : ByteArray := prog_5_method_8_code
abbrev y_Reader_readSize : MethodName := { cls := "DocumentBytes$Reader", name := "readSize", desc := "(III)V" }
abbrev w_Reader_readSize : List Cond := Cond.code y_Reader_readSize b_Reader_readSize 7 (Option.none : Option Jvm.ClassFile.FieldType) :: wA
abbrev b_Reader_refuse : ByteArray := prog_5_method_4_code
abbrev y_Reader_refuse : MethodName := { cls := "DocumentBytes$Reader", name := "refuse", desc := "(II)V" }
abbrev w_Reader_refuse : List Cond := Cond.code y_Reader_refuse b_Reader_refuse 3 (Option.none : Option Jvm.ClassFile.FieldType) :: wA
abbrev b_Bytes_numberAt : ByteArray := prog_2_method_8_code
abbrev y_Bytes_numberAt : MethodName := { cls := "DocumentBytes$Bytes", name := "numberAt", desc := "(II)J" }
abbrev w_Bytes_numberAt : List Cond := Cond.code y_Bytes_numberAt b_Bytes_numberAt 6 (Option.some Jvm.ClassFile.FieldType.long) :: wA
abbrev b_Bytes_get : ByteArray := prog_2_method_5_code
abbrev y_Bytes_get : MethodName := { cls := "DocumentBytes$Bytes", name := "get", desc := "(I)I" }
abbrev w_Bytes_get : List Cond := Cond.code y_Bytes_get b_Bytes_get 2 (Option.some Jvm.ClassFile.FieldType.int) :: wA
abbrev b_Nodes_depth : ByteArray := prog_4_method_9_code
abbrev y_Nodes_depth : MethodName := { cls := "DocumentBytes$Nodes", name := "depth", desc := "(I)I" }
abbrev w_Nodes_depth : List Cond := Cond.code y_Nodes_depth b_Nodes_depth 2 (Option.some Jvm.ClassFile.FieldType.int) :: wA
abbrev b_Nodes_cell : ByteArray := prog_4_method_6_code
abbrev y_Nodes_cell : MethodName := { cls := "DocumentBytes$Nodes", name := "cell", desc := "([II)I" }
abbrev w_Nodes_cell : List Cond := Cond.code y_Nodes_cell b_Nodes_cell 3 (Option.some Jvm.ClassFile.FieldType.int) :: wA
abbrev b_Nodes_append : ByteArray := prog_4_method_3_code
abbrev y_Nodes_append : MethodName := { cls := "DocumentBytes$Nodes", name := "append", desc := "(IIIII)I" }
abbrev w_Nodes_append : List Cond := Cond.code y_Nodes_append b_Nodes_append 7 (Option.some Jvm.ClassFile.FieldType.int) :: wA
abbrev b_Kinds_holdsElements : ByteArray := prog_3_method_3_code
abbrev y_Kinds_holdsElements : MethodName := { cls := "DocumentBytes$Kinds", name := "holdsElements", desc := "(I)Z" }
abbrev w_Kinds_holdsElements : List Cond := Cond.code y_Kinds_holdsElements b_Kinds_holdsElements 1 (Option.some Jvm.ClassFile.FieldType.boolean) :: wA
abbrev b_Nodes_lastByte : ByteArray := prog_4_method_16_code
abbrev y_Nodes_lastByte : MethodName := { cls := "DocumentBytes$Nodes", name := "lastByte", desc := "(I)I" }
abbrev w_Nodes_lastByte : List Cond := Cond.code y_Nodes_lastByte b_Nodes_lastByte 2 (Option.some Jvm.ClassFile.FieldType.int) :: wA
abbrev b_Reader_readLastByte : ByteArray := prog_5_method_5_code
abbrev y_Reader_readLastByte : MethodName := { cls := "DocumentBytes$Reader", name := "readLastByte", desc := "()V" }
abbrev w_Reader_readLastByte : List Cond := Cond.code y_Reader_readLastByte b_Reader_readLastByte 1 (Option.none : Option Jvm.ClassFile.FieldType) :: wA
abbrev b_Nodes_parent : ByteArray := prog_4_method_8_code
abbrev y_Nodes_parent : MethodName := { cls := "DocumentBytes$Nodes", name := "parent", desc := "(I)I" }
abbrev w_Nodes_parent : List Cond := Cond.code y_Nodes_parent b_Nodes_parent 2 (Option.some Jvm.ClassFile.FieldType.int) :: wA
abbrev b_Reader_readElement : ByteArray := prog_5_method_6_code
abbrev y_Reader_readElement : MethodName := { cls := "DocumentBytes$Reader", name := "readElement", desc := "(I)V" }
abbrev w_Reader_readElement : List Cond := Cond.code y_Reader_readElement b_Reader_readElement 5 (Option.none : Option Jvm.ClassFile.FieldType) :: wA
abbrev b_Kinds_isKind : ByteArray := prog_3_method_2_code
abbrev y_Kinds_isKind : MethodName := { cls := "DocumentBytes$Kinds", name := "isKind", desc := "(I)Z" }
abbrev w_Kinds_isKind : List Cond := Cond.code y_Kinds_isKind b_Kinds_isKind 1 (Option.some Jvm.ClassFile.FieldType.boolean) :: wA
abbrev b_Kinds_width : ByteArray := prog_3_method_4_code
abbrev y_Kinds_width : MethodName := { cls := "DocumentBytes$Kinds", name := "width", desc := "(I)I" }
abbrev w_Kinds_width : List Cond := Cond.code y_Kinds_width b_Kinds_width 1 (Option.some Jvm.ClassFile.FieldType.int) :: wA
abbrev b_Reader_readName : ByteArray := prog_5_method_7_code
abbrev y_Reader_readName : MethodName := { cls := "DocumentBytes$Reader", name := "readName", desc := "(I)V" }
abbrev w_Reader_readName : List Cond := Cond.code y_Reader_readName b_Reader_readName 5 (Option.none : Option Jvm.ClassFile.FieldType) :: wA
abbrev b_Bytes_firstZero : ByteArray := prog_2_method_7_code
abbrev y_Bytes_firstZero : MethodName := { cls := "DocumentBytes$Bytes", name := "firstZero", desc := "(II)I" }
abbrev w_Bytes_firstZero : List Cond := Cond.code y_Bytes_firstZero b_Bytes_firstZero 4 (Option.some Jvm.ClassFile.FieldType.int) :: wA
abbrev b_Utf8_firstWrong : ByteArray := prog_6_method_2_code
abbrev y_Utf8_firstWrong : MethodName := { cls := "DocumentBytes$Utf8", name := "firstWrong", desc := "(LDocumentBytes$Bytes;II)I" }
abbrev w_Utf8_firstWrong : List Cond := Cond.code y_Utf8_firstWrong b_Utf8_firstWrong 6 (Option.some Jvm.ClassFile.FieldType.int) :: wA
abbrev b_Utf8_lengthBehind : ByteArray := prog_6_method_3_code
abbrev y_Utf8_lengthBehind : MethodName := { cls := "DocumentBytes$Utf8", name := "lengthBehind", desc := "(I)I" }
abbrev w_Utf8_lengthBehind : List Cond := Cond.code y_Utf8_lengthBehind b_Utf8_lengthBehind 1 (Option.some Jvm.ClassFile.FieldType.int) :: wA
abbrev b_Utf8_isRight : ByteArray := prog_6_method_4_code
abbrev y_Utf8_isRight : MethodName := { cls := "DocumentBytes$Utf8", name := "isRight", desc := "(LDocumentBytes$Bytes;II)Z" }
abbrev w_Utf8_isRight : List Cond := Cond.code y_Utf8_isRight b_Utf8_isRight 8 (Option.some Jvm.ClassFile.FieldType.boolean) :: wA
abbrev b_Nodes_kind : ByteArray := prog_4_method_7_code
abbrev y_Nodes_kind : MethodName := { cls := "DocumentBytes$Nodes", name := "kind", desc := "(I)I" }
abbrev w_Nodes_kind : List Cond := Cond.code y_Nodes_kind b_Nodes_kind 2 (Option.some Jvm.ClassFile.FieldType.int) :: wA
abbrev b_Nodes_elements : ByteArray := prog_4_method_15_code
abbrev y_Nodes_elements : MethodName := { cls := "DocumentBytes$Nodes", name := "elements", desc := "(I)I" }
abbrev w_Nodes_elements : List Cond := Cond.code y_Nodes_elements b_Nodes_elements 2 (Option.some Jvm.ClassFile.FieldType.int) :: wA
abbrev b_Bytes_hasDecimal : ByteArray := prog_2_method_12_code
abbrev y_Bytes_hasDecimal : MethodName := { cls := "DocumentBytes$Bytes", name := "hasDecimal", desc := "(III)Z" }
abbrev w_Bytes_hasDecimal : List Cond := Cond.code y_Bytes_hasDecimal b_Bytes_hasDecimal 6 (Option.some Jvm.ClassFile.FieldType.boolean) :: wA
abbrev b_Bytes_digits : ByteArray := prog_2_method_10_code
abbrev y_Bytes_digits : MethodName := { cls := "DocumentBytes$Bytes", name := "digits", desc := "(I)I" }
abbrev w_Bytes_digits : List Cond := Cond.code y_Bytes_digits b_Bytes_digits 1 (Option.some Jvm.ClassFile.FieldType.int) :: wA
abbrev b_Nodes_named : ByteArray := prog_4_method_21_code
abbrev y_Nodes_named : MethodName := { cls := "DocumentBytes$Nodes", name := "named", desc := "(ILDocumentBytes$Bytes;II)I" }
abbrev w_Nodes_named : List Cond := Cond.code y_Nodes_named b_Nodes_named 6 (Option.some Jvm.ClassFile.FieldType.int) :: wA
abbrev b_Nodes_nameLength : ByteArray := prog_4_method_11_code
abbrev y_Nodes_nameLength : MethodName := { cls := "DocumentBytes$Nodes", name := "nameLength", desc := "(I)I" }
abbrev w_Nodes_nameLength : List Cond := Cond.code y_Nodes_nameLength b_Nodes_nameLength 2 (Option.some Jvm.ClassFile.FieldType.int) :: wA
abbrev b_Nodes_name : ByteArray := prog_4_method_10_code
abbrev y_Nodes_name : MethodName := { cls := "DocumentBytes$Nodes", name := "name", desc := "(I)I" }
abbrev w_Nodes_name : List Cond := Cond.code y_Nodes_name b_Nodes_name 2 (Option.some Jvm.ClassFile.FieldType.int) :: wA
abbrev b_Bytes_equalsAt : ByteArray := prog_2_method_13_code
abbrev y_Bytes_equalsAt : MethodName := { cls := "DocumentBytes$Bytes", name := "equalsAt", desc := "(ILDocumentBytes$Bytes;II)Z" }
abbrev w_Bytes_equalsAt : List Cond := Cond.code y_Bytes_equalsAt b_Bytes_equalsAt 6 (Option.some Jvm.ClassFile.FieldType.boolean) :: wA
abbrev b_Reader_readText : ByteArray := prog_5_method_9_code
abbrev y_Reader_readText : MethodName := { cls := "DocumentBytes$Reader", name := "readText", desc := "(I)V" }
abbrev w_Reader_readText : List Cond := Cond.code y_Reader_readText b_Reader_readText 7 (Option.none : Option Jvm.ClassFile.FieldType) :: wA
abbrev b_Reader_readNumber : ByteArray := prog_5_method_10_code
abbrev y_Reader_readNumber : MethodName := { cls := "DocumentBytes$Reader", name := "readNumber", desc := "(II)V" }
abbrev w_Reader_readNumber : List Cond := Cond.code y_Reader_readNumber b_Reader_readNumber 4 (Option.none : Option Jvm.ClassFile.FieldType) :: wA
abbrev b_Reader_faultPlace : ByteArray := prog_5_method_2_code
abbrev y_Reader_faultPlace : MethodName := { cls := "DocumentBytes$Reader", name := "faultPlace", desc := "()I" }
abbrev w_Reader_faultPlace : List Cond := Cond.code y_Reader_faultPlace b_Reader_faultPlace 1 (Option.some Jvm.ClassFile.FieldType.int) :: wA
abbrev b_Bytes_clear : ByteArray := prog_2_method_3_code
abbrev y_Bytes_clear : MethodName := { cls := "DocumentBytes$Bytes", name := "clear", desc := "()V" }
abbrev w_Bytes_clear : List Cond := Cond.code y_Bytes_clear b_Bytes_clear 1 (Option.none : Option Jvm.ClassFile.FieldType) :: wA
abbrev b_Bytes_appendFrom : ByteArray := prog_2_method_17_code
abbrev y_Bytes_appendFrom : MethodName := { cls := "DocumentBytes$Bytes", name := "appendFrom", desc := "(LDocumentBytes$Bytes;II)V" }
abbrev w_Bytes_appendFrom : List Cond := Cond.code y_Bytes_appendFrom b_Bytes_appendFrom 5 (Option.none : Option Jvm.ClassFile.FieldType) :: wA
abbrev b_Bytes_putFrom : ByteArray := prog_2_method_16_code
abbrev y_Bytes_putFrom : MethodName := { cls := "DocumentBytes$Bytes", name := "putFrom", desc := "(ILDocumentBytes$Bytes;II)V" }
abbrev w_Bytes_putFrom : List Cond := Cond.code y_Bytes_putFrom b_Bytes_putFrom 5 (Option.none : Option Jvm.ClassFile.FieldType) :: wA
abbrev b_Doc_place : ByteArray := prog_1_method_4_code
abbrev y_Doc_place : MethodName := { cls := "DocumentBytes", name := "place", desc := "()I" }
abbrev w_Doc_place : List Cond := Cond.code y_Doc_place b_Doc_place 1 (Option.some Jvm.ClassFile.FieldType.int) :: wA
abbrev b_Doc_many : ByteArray := prog_1_method_5_code
abbrev y_Doc_many : MethodName := { cls := "DocumentBytes", name := "many", desc := "(II)I" }
abbrev w_Doc_many : List Cond := Cond.code y_Doc_many b_Doc_many 3 (Option.some Jvm.ClassFile.FieldType.int) :: wA
abbrev b_Doc_hasNode : ByteArray := prog_1_method_16_code
abbrev y_Doc_hasNode : MethodName := { cls := "DocumentBytes", name := "hasNode", desc := "(II)Z" }
abbrev w_Doc_hasNode : List Cond := Cond.code y_Doc_hasNode b_Doc_hasNode 3 (Option.some Jvm.ClassFile.FieldType.boolean) :: wA
abbrev b_Nodes_scan : ByteArray := prog_4_method_4_code
abbrev y_Nodes_scan : MethodName := { cls := "DocumentBytes$Nodes", name := "scan", desc := "(LDocumentBytes$Bytes;)V" }
abbrev w_Nodes_scan : List Cond := Cond.code y_Nodes_scan b_Nodes_scan 10 (Option.none : Option Jvm.ClassFile.FieldType) :: wA
abbrev b_Kinds_valueLength : ByteArray := prog_3_method_5_code
abbrev y_Kinds_valueLength : MethodName := { cls := "DocumentBytes$Kinds", name := "valueLength", desc := "(ILDocumentBytes$Bytes;I)I" }
abbrev w_Kinds_valueLength : List Cond := Cond.code y_Kinds_valueLength b_Kinds_valueLength 3 (Option.some Jvm.ClassFile.FieldType.int) :: wA
abbrev b_Nodes_count : ByteArray := prog_4_method_5_code
abbrev y_Nodes_count : MethodName := { cls := "DocumentBytes$Nodes", name := "count", desc := "()I" }
abbrev w_Nodes_count : List Cond := Cond.code y_Nodes_count b_Nodes_count 1 (Option.some Jvm.ClassFile.FieldType.int) :: wA
abbrev b_Nodes_deepestIn : ByteArray := prog_4_method_19_code
abbrev y_Nodes_deepestIn : MethodName := { cls := "DocumentBytes$Nodes", name := "deepestIn", desc := "(I)I" }
abbrev w_Nodes_deepestIn : List Cond := Cond.code y_Nodes_deepestIn b_Nodes_deepestIn 5 (Option.some Jvm.ClassFile.FieldType.int) :: wA
abbrev b_Nodes_behind : ByteArray := prog_4_method_17_code
abbrev y_Nodes_behind : MethodName := { cls := "DocumentBytes$Nodes", name := "behind", desc := "(I)I" }
abbrev w_Nodes_behind : List Cond := Cond.code y_Nodes_behind b_Nodes_behind 3 (Option.some Jvm.ClassFile.FieldType.int) :: wA
abbrev b_Math_max : ByteArray := prog_10_method_65_code
abbrev y_Math_max : MethodName := { cls := "java/lang/Math", name := "max", desc := "(II)I" }
abbrev w_Math_max : List Cond := Cond.code y_Math_max b_Math_max 2 (Option.some Jvm.ClassFile.FieldType.int) :: wA
abbrev b_Doc_byteAt : ByteArray := prog_1_method_6_code
abbrev y_Doc_byteAt : MethodName := { cls := "DocumentBytes", name := "byteAt", desc := "(II)I" }
abbrev w_Doc_byteAt : List Cond := Cond.code y_Doc_byteAt b_Doc_byteAt 3 (Option.some Jvm.ClassFile.FieldType.int) :: wA
abbrev b_Doc_look : ByteArray := prog_1_method_7_code
abbrev y_Doc_look : MethodName := { cls := "DocumentBytes", name := "look", desc := "(III)I" }
abbrev w_Doc_look : List Cond := Cond.code y_Doc_look b_Doc_look 4 (Option.some Jvm.ClassFile.FieldType.int) :: wA
abbrev b_Nodes_nextBeside : ByteArray := prog_4_method_18_code
abbrev y_Nodes_nextBeside : MethodName := { cls := "DocumentBytes$Nodes", name := "nextBeside", desc := "(I)I" }
abbrev w_Nodes_nextBeside : List Cond := Cond.code y_Nodes_nextBeside b_Nodes_nextBeside 3 (Option.some Jvm.ClassFile.FieldType.int) :: wA
abbrev b_Nodes_valueLength : ByteArray := prog_4_method_13_code
abbrev y_Nodes_valueLength : MethodName := { cls := "DocumentBytes$Nodes", name := "valueLength", desc := "(I)I" }
abbrev w_Nodes_valueLength : List Cond := Cond.code y_Nodes_valueLength b_Nodes_valueLength 2 (Option.some Jvm.ClassFile.FieldType.int) :: wA
abbrev b_Nodes_textLength : ByteArray := prog_4_method_14_code
abbrev y_Nodes_textLength : MethodName := { cls := "DocumentBytes$Nodes", name := "textLength", desc := "(I)I" }
abbrev w_Nodes_textLength : List Cond := Cond.code y_Nodes_textLength b_Nodes_textLength 2 (Option.some Jvm.ClassFile.FieldType.int) :: wA
abbrev b_Doc_number : ByteArray := prog_1_method_8_code
abbrev y_Doc_number : MethodName := { cls := "DocumentBytes", name := "number", desc := "(II)J" }
abbrev w_Doc_number : List Cond := Cond.code y_Doc_number b_Doc_number 6 (Option.some Jvm.ClassFile.FieldType.long) :: wA
abbrev b_Nodes_value : ByteArray := prog_4_method_12_code
abbrev y_Nodes_value : MethodName := { cls := "DocumentBytes$Nodes", name := "value", desc := "(I)I" }
abbrev w_Nodes_value : List Cond := Cond.code y_Nodes_value b_Nodes_value 2 (Option.some Jvm.ClassFile.FieldType.int) :: wA
abbrev b_Doc_letter : ByteArray := prog_1_method_9_code
abbrev y_Doc_letter : MethodName := { cls := "DocumentBytes", name := "letter", desc := "(IIZI)I" }
abbrev w_Doc_letter : List Cond := Cond.code y_Doc_letter b_Doc_letter 7 (Option.some Jvm.ClassFile.FieldType.int) :: wA
abbrev b_Doc_find : ByteArray := prog_1_method_10_code
abbrev y_Doc_find : MethodName := { cls := "DocumentBytes", name := "find", desc := "(III)I" }
abbrev w_Doc_find : List Cond := Cond.code y_Doc_find b_Doc_find 5 (Option.some Jvm.ClassFile.FieldType.int) :: wA
abbrev b_Doc_add : ByteArray := prog_1_method_11_code
abbrev y_Doc_add : MethodName := { cls := "DocumentBytes", name := "add", desc := "(IIIJII)I" }
abbrev w_Doc_add : List Cond := Cond.code y_Doc_add b_Doc_add 9 (Option.some Jvm.ClassFile.FieldType.int) :: wA
abbrev b_Doc_mayHold : ByteArray := prog_1_method_17_code
abbrev y_Doc_mayHold : MethodName := { cls := "DocumentBytes", name := "mayHold", desc := "(II)Z" }
abbrev w_Doc_mayHold : List Cond := Cond.code y_Doc_mayHold b_Doc_mayHold 3 (Option.some Jvm.ClassFile.FieldType.boolean) :: wA
abbrev b_Doc_addFromTape : ByteArray := prog_1_method_18_code
abbrev y_Doc_addFromTape : MethodName := { cls := "DocumentBytes", name := "addFromTape", desc := "(IIIJII)I" }
abbrev w_Doc_addFromTape : List Cond := Cond.code y_Doc_addFromTape b_Doc_addFromTape 9 (Option.some Jvm.ClassFile.FieldType.int) :: wA
abbrev b_Kinds_allows : ByteArray := prog_3_method_6_code
abbrev y_Kinds_allows : MethodName := { cls := "DocumentBytes$Kinds", name := "allows", desc := "(IJ)Z" }
abbrev w_Kinds_allows : List Cond := Cond.code y_Kinds_allows b_Kinds_allows 3 (Option.some Jvm.ClassFile.FieldType.boolean) :: wA
abbrev b_Doc_nameCountFits : ByteArray := prog_1_method_19_code
abbrev y_Doc_nameCountFits : MethodName := { cls := "DocumentBytes", name := "nameCountFits", desc := "(II)Z" }
abbrev w_Doc_nameCountFits : List Cond := Cond.code y_Doc_nameCountFits b_Doc_nameCountFits 3 (Option.some Jvm.ClassFile.FieldType.boolean) :: wA
abbrev b_Bytes_appendText : ByteArray := prog_2_method_21_code
abbrev y_Bytes_appendText : MethodName := { cls := "DocumentBytes$Bytes", name := "appendText", desc := "(LDocumentBytes$Bytes;II)V" }
abbrev w_Bytes_appendText : List Cond := Cond.code y_Bytes_appendText b_Bytes_appendText 4 (Option.none : Option Jvm.ClassFile.FieldType) :: wA
abbrev b_Doc_insertFresh : ByteArray := prog_1_method_20_code
abbrev y_Doc_insertFresh : MethodName := { cls := "DocumentBytes", name := "insertFresh", desc := "(IIIII)I" }
abbrev w_Doc_insertFresh : List Cond := Cond.code y_Doc_insertFresh b_Doc_insertFresh 10 (Option.some Jvm.ClassFile.FieldType.int) :: wA
abbrev b_Doc_isFreeName : ByteArray := prog_1_method_22_code
abbrev y_Doc_isFreeName : MethodName := { cls := "DocumentBytes", name := "isFreeName", desc := "(II)Z" }
abbrev w_Doc_isFreeName : List Cond := Cond.code y_Doc_isFreeName b_Doc_isFreeName 3 (Option.some Jvm.ClassFile.FieldType.boolean) :: wA
abbrev b_Doc_writeFresh : ByteArray := prog_1_method_21_code
abbrev y_Doc_writeFresh : MethodName := { cls := "DocumentBytes", name := "writeFresh", desc := "(LDocumentBytes$Bytes;III)V" }
abbrev w_Doc_writeFresh : List Cond := Cond.code y_Doc_writeFresh b_Doc_writeFresh 9 (Option.none : Option Jvm.ClassFile.FieldType) :: wA
abbrev b_Bytes_putDecimal : ByteArray := prog_2_method_11_code
abbrev y_Bytes_putDecimal : MethodName := { cls := "DocumentBytes$Bytes", name := "putDecimal", desc := "(III)V" }
abbrev w_Bytes_putDecimal : List Cond := Cond.code y_Bytes_putDecimal b_Bytes_putDecimal 6 (Option.none : Option Jvm.ClassFile.FieldType) :: wA
abbrev b_Doc_resizeUpwards : ByteArray := prog_1_method_24_code
abbrev y_Doc_resizeUpwards : MethodName := { cls := "DocumentBytes", name := "resizeUpwards", desc := "(LDocumentBytes$Bytes;II)V" }
abbrev w_Doc_resizeUpwards : List Cond := Cond.code y_Doc_resizeUpwards b_Doc_resizeUpwards 7 (Option.none : Option Jvm.ClassFile.FieldType) :: wA
abbrev b_Doc_graft : ByteArray := prog_1_method_12_code
abbrev y_Doc_graft : MethodName := { cls := "DocumentBytes", name := "graft", desc := "(IIIII)I" }
abbrev w_Doc_graft : List Cond := Cond.code y_Doc_graft b_Doc_graft 9 (Option.some Jvm.ClassFile.FieldType.int) :: wA
abbrev b_Nodes_levels : ByteArray := prog_4_method_20_code
abbrev y_Nodes_levels : MethodName := { cls := "DocumentBytes$Nodes", name := "levels", desc := "(I)I" }
abbrev w_Nodes_levels : List Cond := Cond.code y_Nodes_levels b_Nodes_levels 3 (Option.some Jvm.ClassFile.FieldType.int) :: wA
abbrev b_Doc_set : ByteArray := prog_1_method_13_code
abbrev y_Doc_set : MethodName := { cls := "DocumentBytes", name := "set", desc := "(IIJ)Z" }
abbrev w_Doc_set : List Cond := Cond.code y_Doc_set b_Doc_set 7 (Option.some Jvm.ClassFile.FieldType.boolean) :: wA
abbrev b_Doc_drop : ByteArray := prog_1_method_14_code
abbrev y_Doc_drop : MethodName := { cls := "DocumentBytes", name := "drop", desc := "(II)Z" }
abbrev w_Doc_drop : List Cond := Cond.code y_Doc_drop b_Doc_drop 7 (Option.some Jvm.ClassFile.FieldType.boolean) :: wA
abbrev b_Doc_renumberBehind : ByteArray := prog_1_method_23_code
abbrev y_Doc_renumberBehind : MethodName := { cls := "DocumentBytes", name := "renumberBehind", desc := "(LDocumentBytes$Bytes;II)V" }
abbrev w_Doc_renumberBehind : List Cond := Cond.code y_Doc_renumberBehind b_Doc_renumberBehind 7 (Option.none : Option Jvm.ClassFile.FieldType) :: wA
abbrev b_Bytes_cut : ByteArray := prog_2_method_15_code
abbrev y_Bytes_cut : MethodName := { cls := "DocumentBytes$Bytes", name := "cut", desc := "(II)V" }
abbrev w_Bytes_cut : List Cond := Cond.code y_Bytes_cut b_Bytes_cut 3 (Option.none : Option Jvm.ClassFile.FieldType) :: wA
abbrev b_Model_init : ByteArray := prog_8_method_1_code
abbrev y_Model_init : MethodName := { cls := "DocumentBytesModel", name := "<init>", desc := "()V" }
abbrev w_Model_init : List Cond := Cond.code y_Model_init b_Model_init 2 (Option.none : Option Jvm.ClassFile.FieldType) :: wA
abbrev b_Model_feed : ByteArray := prog_8_method_3_code
abbrev y_Model_feed : MethodName := { cls := "DocumentBytesModel", name := "feed", desc := "(IIIII)I" }
abbrev w_Model_feed : List Cond := Cond.code y_Model_feed b_Model_feed 6 (Option.some Jvm.ClassFile.FieldType.int) :: wA
abbrev b_Model_put : ByteArray := prog_8_method_4_code
abbrev y_Model_put : MethodName := { cls := "DocumentBytesModel", name := "put", desc := "(I)V" }
abbrev w_Model_put : List Cond := Cond.code y_Model_put b_Model_put 3 (Option.none : Option Jvm.ClassFile.FieldType) :: wA
abbrev b_Model_read : ByteArray := prog_8_method_22_code
abbrev y_Model_read : MethodName := { cls := "DocumentBytesModel", name := "read", desc := "(II)I" }
abbrev w_Model_read : List Cond := Cond.code y_Model_read b_Model_read 4 (Option.some Jvm.ClassFile.FieldType.int) :: wA
abbrev b_Model_isSlot : ByteArray := prog_8_method_19_code
abbrev y_Model_isSlot : MethodName := { cls := "DocumentBytesModel", name := "isSlot", desc := "(I)Z" }
abbrev w_Model_isSlot : List Cond := Cond.code y_Model_isSlot b_Model_isSlot 1 (Option.some Jvm.ClassFile.FieldType.boolean) :: wA
abbrev b_Model_goOver : ByteArray := prog_8_method_11_code
abbrev y_Model_goOver : MethodName := { cls := "DocumentBytesModel", name := "goOver", desc := "(I)V" }
abbrev w_Model_goOver : List Cond := Cond.code y_Model_goOver b_Model_goOver 5 (Option.none : Option Jvm.ClassFile.FieldType) :: wA
abbrev b_Model_opens : ByteArray := prog_8_method_9_code
abbrev y_Model_opens : MethodName := { cls := "DocumentBytesModel", name := "opens", desc := "(IIIIZ)Z" }
abbrev w_Model_opens : List Cond := Cond.code y_Model_opens b_Model_opens 8 (Option.some Jvm.ClassFile.FieldType.boolean) :: wA
abbrev b_Model_stop : ByteArray := prog_8_method_5_code
abbrev y_Model_stop : MethodName := { cls := "DocumentBytesModel", name := "stop", desc := "(II)V" }
abbrev w_Model_stop : List Cond := Cond.code y_Model_stop b_Model_stop 3 (Option.none : Option Jvm.ClassFile.FieldType) :: wA
abbrev b_Model_low : ByteArray := prog_8_method_6_code
abbrev y_Model_low : MethodName := { cls := "DocumentBytesModel", name := "low", desc := "(II)J" }
abbrev w_Model_low : List Cond := Cond.code y_Model_low b_Model_low 6 (Option.some Jvm.ClassFile.FieldType.long) :: wA
abbrev b_Model_isKind : ByteArray := prog_8_method_10_code
abbrev y_Model_isKind : MethodName := { cls := "DocumentBytesModel", name := "isKind", desc := "(I)Z" }
abbrev w_Model_isKind : List Cond := Cond.code y_Model_isKind b_Model_isKind 2 (Option.some Jvm.ClassFile.FieldType.boolean) :: wA
abbrev b_Model_element : ByteArray := prog_8_method_12_code
abbrev y_Model_element : MethodName := { cls := "DocumentBytesModel", name := "element", desc := "(III)I" }
abbrev w_Model_element : List Cond := Cond.code y_Model_element b_Model_element 8 (Option.some Jvm.ClassFile.FieldType.int) :: wA
abbrev b_Model_badText : ByteArray := prog_8_method_8_code
abbrev y_Model_badText : MethodName := { cls := "DocumentBytesModel", name := "badText", desc := "([III)I" }
abbrev w_Model_badText : List Cond := Cond.code y_Model_badText b_Model_badText 5 (Option.some Jvm.ClassFile.FieldType.int) :: wA
abbrev b_Model_character : ByteArray := prog_8_method_7_code
abbrev y_Model_character : MethodName := { cls := "DocumentBytesModel", name := "character", desc := "([III)I" }
abbrev w_Model_character : List Cond := Cond.code y_Model_character b_Model_character 7 (Option.some Jvm.ClassFile.FieldType.int) :: wA
abbrev b_Model_isName : ByteArray := prog_8_method_13_code
abbrev y_Model_isName : MethodName := { cls := "DocumentBytesModel", name := "isName", desc := "(III)Z" }
abbrev w_Model_isName : List Cond := Cond.code y_Model_isName b_Model_isName 7 (Option.some Jvm.ClassFile.FieldType.boolean) :: wA
abbrev b_Model_isNumber : ByteArray := prog_8_method_16_code
abbrev y_Model_isNumber : MethodName := { cls := "DocumentBytesModel", name := "isNumber", desc := "([IIII)Z" }
abbrev w_Model_isNumber : List Cond := Cond.code y_Model_isNumber b_Model_isNumber 5 (Option.some Jvm.ClassFile.FieldType.boolean) :: wA
abbrev b_Model_digits : ByteArray := prog_8_method_14_code
abbrev y_Model_digits : MethodName := { cls := "DocumentBytesModel", name := "digits", desc := "(I)I" }
abbrev w_Model_digits : List Cond := Cond.code y_Model_digits b_Model_digits 1 (Option.some Jvm.ClassFile.FieldType.int) :: wA
abbrev b_Model_digit : ByteArray := prog_8_method_15_code
abbrev y_Model_digit : MethodName := { cls := "DocumentBytesModel", name := "digit", desc := "(II)I" }
abbrev w_Model_digit : List Cond := Cond.code y_Model_digit b_Model_digit 4 (Option.some Jvm.ClassFile.FieldType.int) :: wA
abbrev b_Model_value : ByteArray := prog_8_method_17_code
abbrev y_Model_value : MethodName := { cls := "DocumentBytesModel", name := "value", desc := "(III)I" }
abbrev w_Model_value : List Cond := Cond.code y_Model_value b_Model_value 6 (Option.some Jvm.ClassFile.FieldType.int) :: wA
abbrev b_Model_text : ByteArray := prog_8_method_18_code
abbrev y_Model_text : MethodName := { cls := "DocumentBytesModel", name := "text", desc := "(II)I" }
abbrev w_Model_text : List Cond := Cond.code y_Model_text b_Model_text 8 (Option.some Jvm.ClassFile.FieldType.int) :: wA
abbrev b_Model_store : ByteArray := prog_8_method_21_code
abbrev y_Model_store : MethodName := { cls := "DocumentBytesModel", name := "store", desc := "(I)V" }
abbrev w_Model_store : List Cond := Cond.code y_Model_store b_Model_store 3 (Option.none : Option Jvm.ClassFile.FieldType) :: wA
abbrev b_Model_place : ByteArray := prog_8_method_23_code
abbrev y_Model_place : MethodName := { cls := "DocumentBytesModel", name := "place", desc := "()I" }
abbrev w_Model_place : List Cond := Cond.code y_Model_place b_Model_place 1 (Option.some Jvm.ClassFile.FieldType.int) :: wA
abbrev b_Model_many : ByteArray := prog_8_method_24_code
abbrev y_Model_many : MethodName := { cls := "DocumentBytesModel", name := "many", desc := "(II)I" }
abbrev w_Model_many : List Cond := Cond.code y_Model_many b_Model_many 3 (Option.some Jvm.ClassFile.FieldType.int) :: wA
abbrev b_Model_load : ByteArray := prog_8_method_20_code
abbrev y_Model_load : MethodName := { cls := "DocumentBytesModel", name := "load", desc := "(I)V" }
abbrev w_Model_load : List Cond := Cond.code y_Model_load b_Model_load 4 (Option.none : Option Jvm.ClassFile.FieldType) :: wA
abbrev b_Model_byteAt : ByteArray := prog_8_method_25_code
abbrev y_Model_byteAt : MethodName := { cls := "DocumentBytesModel", name := "byteAt", desc := "(II)I" }
abbrev w_Model_byteAt : List Cond := Cond.code y_Model_byteAt b_Model_byteAt 3 (Option.some Jvm.ClassFile.FieldType.int) :: wA
abbrev b_Model_look : ByteArray := prog_8_method_32_code
abbrev y_Model_look : MethodName := { cls := "DocumentBytesModel", name := "look", desc := "(III)I" }
abbrev w_Model_look : List Cond := Cond.code y_Model_look b_Model_look 4 (Option.some Jvm.ClassFile.FieldType.int) :: wA
abbrev b_Model_isNode : ByteArray := prog_8_method_26_code
abbrev y_Model_isNode : MethodName := { cls := "DocumentBytesModel", name := "isNode", desc := "(II)Z" }
abbrev w_Model_isNode : List Cond := Cond.code y_Model_isNode b_Model_isNode 3 (Option.some Jvm.ClassFile.FieldType.boolean) :: wA
abbrev b_Model_kindOf : ByteArray := prog_8_method_27_code
abbrev y_Model_kindOf : MethodName := { cls := "DocumentBytesModel", name := "kindOf", desc := "(I)I" }
abbrev w_Model_kindOf : List Cond := Cond.code y_Model_kindOf b_Model_kindOf 2 (Option.some Jvm.ClassFile.FieldType.int) :: wA
abbrev b_Model_nextIn : ByteArray := prog_8_method_30_code
abbrev y_Model_nextIn : MethodName := { cls := "DocumentBytesModel", name := "nextIn", desc := "(II)I" }
abbrev w_Model_nextIn : List Cond := Cond.code y_Model_nextIn b_Model_nextIn 4 (Option.some Jvm.ClassFile.FieldType.int) :: wA
abbrev b_Model_valueAt : ByteArray := prog_8_method_29_code
abbrev y_Model_valueAt : MethodName := { cls := "DocumentBytesModel", name := "valueAt", desc := "(I)I" }
abbrev w_Model_valueAt : List Cond := Cond.code y_Model_valueAt b_Model_valueAt 2 (Option.some Jvm.ClassFile.FieldType.int) :: wA
abbrev b_Model_isBox : ByteArray := prog_8_method_28_code
abbrev y_Model_isBox : MethodName := { cls := "DocumentBytesModel", name := "isBox", desc := "(I)Z" }
abbrev w_Model_isBox : List Cond := Cond.code y_Model_isBox b_Model_isBox 2 (Option.some Jvm.ClassFile.FieldType.boolean) :: wA
abbrev b_Model_elements : ByteArray := prog_8_method_31_code
abbrev y_Model_elements : MethodName := { cls := "DocumentBytesModel", name := "elements", desc := "(I)I" }
abbrev w_Model_elements : List Cond := Cond.code y_Model_elements b_Model_elements 4 (Option.some Jvm.ClassFile.FieldType.int) :: wA
abbrev b_Model_number : ByteArray := prog_8_method_34_code
abbrev y_Model_number : MethodName := { cls := "DocumentBytesModel", name := "number", desc := "(II)J" }
abbrev w_Model_number : List Cond := Cond.code y_Model_number b_Model_number 3 (Option.some Jvm.ClassFile.FieldType.long) :: wA
abbrev b_Model_numberOf : ByteArray := prog_8_method_33_code
abbrev y_Model_numberOf : MethodName := { cls := "DocumentBytesModel", name := "numberOf", desc := "(I)J" }
abbrev w_Model_numberOf : List Cond := Cond.code y_Model_numberOf b_Model_numberOf 3 (Option.some Jvm.ClassFile.FieldType.long) :: wA
abbrev b_Model_letter : ByteArray := prog_8_method_35_code
abbrev y_Model_letter : MethodName := { cls := "DocumentBytesModel", name := "letter", desc := "(IIZI)I" }
abbrev w_Model_letter : List Cond := Cond.code y_Model_letter b_Model_letter 5 (Option.some Jvm.ClassFile.FieldType.int) :: wA
abbrev b_Model_find : ByteArray := prog_8_method_37_code
abbrev y_Model_find : MethodName := { cls := "DocumentBytesModel", name := "find", desc := "(III)I" }
abbrev w_Model_find : List Cond := Cond.code y_Model_find b_Model_find 5 (Option.some Jvm.ClassFile.FieldType.int) :: wA
abbrev b_Model_findName : ByteArray := prog_8_method_36_code
abbrev y_Model_findName : MethodName := { cls := "DocumentBytesModel", name := "findName", desc := "(II)I" }
abbrev w_Model_findName : List Cond := Cond.code y_Model_findName b_Model_findName 6 (Option.some Jvm.ClassFile.FieldType.int) :: wA
abbrev b_Model_add : ByteArray := prog_8_method_47_code
abbrev y_Model_add : MethodName := { cls := "DocumentBytesModel", name := "add", desc := "(IIIJII)I" }
abbrev w_Model_add : List Cond := Cond.code y_Model_add b_Model_add 10 (Option.some Jvm.ClassFile.FieldType.int) :: wA
abbrev b_Model_canBe : ByteArray := prog_8_method_44_code
abbrev y_Model_canBe : MethodName := { cls := "DocumentBytesModel", name := "canBe", desc := "(IIJII)Z" }
abbrev w_Model_canBe : List Cond := Cond.code y_Model_canBe b_Model_canBe 7 (Option.some Jvm.ClassFile.FieldType.boolean) :: wA
abbrev b_Model_isNameFree : ByteArray := prog_8_method_45_code
abbrev y_Model_isNameFree : MethodName := { cls := "DocumentBytesModel", name := "isNameFree", desc := "(II)Z" }
abbrev w_Model_isNameFree : List Cond := Cond.code y_Model_isNameFree b_Model_isNameFree 4 (Option.some Jvm.ClassFile.FieldType.boolean) :: wA
abbrev b_Model_writeHead : ByteArray := prog_8_method_42_code
abbrev y_Model_writeHead : MethodName := { cls := "DocumentBytesModel", name := "writeHead", desc := "(III)V" }
abbrev w_Model_writeHead : List Cond := Cond.code y_Model_writeHead b_Model_writeHead 6 (Option.none : Option Jvm.ClassFile.FieldType) :: wA
abbrev b_Model_write : ByteArray := prog_8_method_40_code
abbrev y_Model_write : MethodName := { cls := "DocumentBytesModel", name := "write", desc := "(I)V" }
abbrev w_Model_write : List Cond := Cond.code y_Model_write b_Model_write 2 (Option.none : Option Jvm.ClassFile.FieldType) :: wA
abbrev b_Model_writeLow : ByteArray := prog_8_method_41_code
abbrev y_Model_writeLow : MethodName := { cls := "DocumentBytesModel", name := "writeLow", desc := "(JI)V" }
abbrev w_Model_writeLow : List Cond := Cond.code y_Model_writeLow b_Model_writeLow 5 (Option.none : Option Jvm.ClassFile.FieldType) :: wA
abbrev b_Model_insert : ByteArray := prog_8_method_46_code
abbrev y_Model_insert : MethodName := { cls := "DocumentBytesModel", name := "insert", desc := "(II)I" }
abbrev w_Model_insert : List Cond := Cond.code y_Model_insert b_Model_insert 4 (Option.some Jvm.ClassFile.FieldType.int) :: wA
abbrev b_Model_lastOf : ByteArray := prog_8_method_43_code
abbrev y_Model_lastOf : MethodName := { cls := "DocumentBytesModel", name := "lastOf", desc := "(I)I" }
abbrev w_Model_lastOf : List Cond := Cond.code y_Model_lastOf b_Model_lastOf 4 (Option.some Jvm.ClassFile.FieldType.int) :: wA
abbrev b_Model_splice : ByteArray := prog_8_method_38_code
abbrev y_Model_splice : MethodName := { cls := "DocumentBytesModel", name := "splice", desc := "(III)V" }
abbrev w_Model_splice : List Cond := Cond.code y_Model_splice b_Model_splice 6 (Option.none : Option Jvm.ClassFile.FieldType) :: wA
abbrev b_Model_putLow : ByteArray := prog_8_method_39_code
abbrev y_Model_putLow : MethodName := { cls := "DocumentBytesModel", name := "putLow", desc := "(IJ)V" }
abbrev w_Model_putLow : List Cond := Cond.code y_Model_putLow b_Model_putLow 5 (Option.none : Option Jvm.ClassFile.FieldType) :: wA
abbrev b_Model_graft : ByteArray := prog_8_method_49_code
abbrev y_Model_graft : MethodName := { cls := "DocumentBytesModel", name := "graft", desc := "(IIIII)I" }
abbrev w_Model_graft : List Cond := Cond.code y_Model_graft b_Model_graft 12 (Option.some Jvm.ClassFile.FieldType.int) :: wA
abbrev b_Model_deepIn : ByteArray := prog_8_method_48_code
abbrev y_Model_deepIn : MethodName := { cls := "DocumentBytesModel", name := "deepIn", desc := "(I)I" }
abbrev w_Model_deepIn : List Cond := Cond.code y_Model_deepIn b_Model_deepIn 5 (Option.some Jvm.ClassFile.FieldType.int) :: wA
abbrev b_Model_set : ByteArray := prog_8_method_50_code
abbrev y_Model_set : MethodName := { cls := "DocumentBytesModel", name := "set", desc := "(IIJ)Z" }
abbrev w_Model_set : List Cond := Cond.code y_Model_set b_Model_set 8 (Option.some Jvm.ClassFile.FieldType.boolean) :: wA
abbrev b_Model_drop : ByteArray := prog_8_method_51_code
abbrev y_Model_drop : MethodName := { cls := "DocumentBytesModel", name := "drop", desc := "(II)Z" }
abbrev w_Model_drop : List Cond := Cond.code y_Model_drop b_Model_drop 9 (Option.some Jvm.ClassFile.FieldType.boolean) :: wA
abbrev b_Model_renumber : ByteArray := prog_8_method_52_code
abbrev y_Model_renumber : MethodName := { cls := "DocumentBytesModel", name := "renumber", desc := "()V" }
abbrev w_Model_renumber : List Cond := Cond.code y_Model_renumber b_Model_renumber 1 (Option.none : Option Jvm.ClassFile.FieldType) :: wA
abbrev b_Model_goOverAgain : ByteArray := prog_8_method_53_code
abbrev y_Model_goOverAgain : MethodName := { cls := "DocumentBytesModel", name := "goOverAgain", desc := "()V" }
abbrev w_Model_goOverAgain : List Cond := Cond.code y_Model_goOverAgain b_Model_goOverAgain 2 (Option.none : Option Jvm.ClassFile.FieldType) :: wA
abbrev b_Model_itemOf : ByteArray := prog_8_method_54_code
abbrev y_Model_itemOf : MethodName := { cls := "DocumentBytesModel", name := "itemOf", desc := "(II)I" }
abbrev w_Model_itemOf : List Cond := Cond.code y_Model_itemOf b_Model_itemOf 5 (Option.some Jvm.ClassFile.FieldType.int) :: wA
end
section
/-! NUMBERS: every int is 'iI a' of an Int a, every long 'lI a', every byte 'byt a' -/
def iI (a : Int) : Int32 := Int32.ofInt a
def lI (a : Int) : Int64 := Int64.ofInt a
def byt (a : Int) : Int32 := (iI a).toInt8.toInt32
def bI (x : Bool) : Int := if x then 1 else 0
theorem bI_t : bI true = 1 := rfl
theorem bI_f : bI false = 0 := rfl
theorem bI_r (x : Bool) : 0 ≤ bI x ∧ bI x ≤ 1 := by cases x <;> decide
theorem iI_toInt {a : Int} (h : -2147483648 ≤ a ∧ a < 2147483648) : (iI a).toInt = a := Int32.toInt_ofInt_of_le (by omega) (by omega)
theorem lI_toInt {a : Int} (h : -9223372036854775808 ≤ a ∧ a < 9223372036854775808) : (lI a).toInt = a := Int64.toInt_ofInt_of_le (by omega) (by omega)
theorem iI_self (x : Int32) : iI x.toInt = x := Int32.ofInt_toInt x
theorem lI_self (x : Int64) : lI x.toInt = x := Int64.ofInt_toInt x
theorem iI_r (x : Int32) : -2147483648 ≤ x.toInt ∧ x.toInt < 2147483648 := ⟨by have := x.le_toInt; omega, by have := x.toInt_lt; omega⟩
theorem lI_r (x : Int64) : -9223372036854775808 ≤ x.toInt ∧ x.toInt < 9223372036854775808 := ⟨by have := x.le_toInt; omega, by have := x.toInt_lt; omega⟩
theorem iI_add (a b : Int) : iI a + iI b = iI (a + b) := (Int32.ofInt_add a b).symm
theorem iI_sub (a b : Int) : iI a - iI b = iI (a - b) := (Int32.ofInt_sub a b).symm
theorem iI_mul (a b : Int) : iI a * iI b = iI (a * b) := (Int32.ofInt_mul a b).symm
theorem iI_neg (a : Int) : -iI a = iI (-a) := (Int32.ofInt_neg a).symm
theorem iI_inc (a n : Int) : iI a + Int32.ofInt n = iI (a + n) := iI_add a n
theorem lI_add (a b : Int) : lI a + lI b = lI (a + b) := (Int64.ofInt_add a b).symm
theorem lI_sub (a b : Int) : lI a - lI b = lI (a - b) := (Int64.ofInt_sub a b).symm
theorem iI_lt {a b : Int} (ha : -2147483648 ≤ a ∧ a < 2147483648) (hb : -2147483648 ≤ b ∧ b < 2147483648) : iI a < iI b ↔ a < b := by
  rw [Int32.lt_iff_toInt_lt, iI_toInt ha, iI_toInt hb]
theorem iI_le {a b : Int} (ha : -2147483648 ≤ a ∧ a < 2147483648) (hb : -2147483648 ≤ b ∧ b < 2147483648) : iI a ≤ iI b ↔ a ≤ b := by
  rw [Int32.le_iff_toInt_le, iI_toInt ha, iI_toInt hb]
theorem iI_eq {a b : Int} (ha : -2147483648 ≤ a ∧ a < 2147483648) (hb : -2147483648 ≤ b ∧ b < 2147483648) : iI a = iI b ↔ a = b :=
  ⟨fun h => by have := congrArg Int32.toInt h; rwa [iI_toInt ha, iI_toInt hb] at this, fun h => by rw [h]⟩
theorem lI_eq {a b : Int} (ha : -9223372036854775808 ≤ a ∧ a < 9223372036854775808) (hb : -9223372036854775808 ≤ b ∧ b < 9223372036854775808) : lI a = lI b ↔ a = b :=
  ⟨fun h => by have := congrArg Int64.toInt h; rwa [lI_toInt ha, lI_toInt hb] at this, fun h => by rw [h]⟩
theorem lI_lt {a b : Int} (ha : -9223372036854775808 ≤ a ∧ a < 9223372036854775808) (hb : -9223372036854775808 ≤ b ∧ b < 9223372036854775808) : lI a < lI b ↔ a < b := by
  rw [Int64.lt_iff_toInt_lt, lI_toInt ha, lI_toInt hb]
theorem iI_0 : iI 0 = 0 := rfl
theorem iI_nat (n : Nat) : Int32.ofNat n = iI n := (Int32.ofInt_eq_ofNat (n := n)).symm
theorem iI_clamp {a : Int} (h : 0 ≤ a ∧ a < 2147483648) : (iI a).toNatClampNeg = a.toNat := by
  show (iI a).toInt.toNat = _
  rw [iI_toInt ⟨by omega, h.2⟩]
theorem iI_in {a : Int} {n : Nat} (h : 0 ≤ a ∧ a < n) (hn : n < 2147483648) : vp_in (iI a) n := vp_in_iff.mpr (by rw [iI_toInt ⟨by omega, by omega⟩]; exact h)
theorem iI_nn {a : Int} (h : 0 ≤ a ∧ a < 2147483648) : ¬ iI a < 0 := by
  rw [← iI_0, iI_lt ⟨by omega, h.2⟩ ⟨by omega, by omega⟩]; omega
theorem iI_bv (a : Int) : (iI a).toBitVec.toNat = (a % 4294967296).toNat := by
  show (BitVec.ofInt 32 a).toNat = _
  rw [BitVec.toNat_ofInt]; rfl
theorem lI_bv (a : Int) : (lI a).toBitVec.toNat = (a % 18446744073709551616).toNat := by
  show (BitVec.ofInt 64 a).toNat = _
  rw [BitVec.toNat_ofInt]; rfl
theorem iI_ext {a b : Int} (h : a % 4294967296 = b % 4294967296) : iI a = iI b := by
  apply Int32.toBitVec_inj.mp
  apply BitVec.eq_of_toNat_eq
  rw [iI_bv, iI_bv, h]
theorem lI_ext {a b : Int} (h : a % 18446744073709551616 = b % 18446744073709551616) : lI a = lI b := by
  apply Int64.toBitVec_inj.mp
  apply BitVec.eq_of_toNat_eq
  rw [lI_bv, lI_bv, h]
theorem iI_and255 (a : Int) : iI a &&& iI 255 = iI (a % 256) := by
  rw [pk_and (iI a) (m := iI 255) 8 (by decide), iI_bv, nI, iI_nat]
  apply congrArg
  show (((a % 4294967296).toNat % 256 : Nat) : Int) = a % 256
  omega
theorem iI_and15 (a : Int) : iI a &&& iI 15 = iI (a % 16) := by
  rw [pk_and (iI a) (m := iI 15) 4 (by decide), iI_bv, nI, iI_nat]
  apply congrArg
  show (((a % 4294967296).toNat % 16 : Nat) : Int) = a % 16
  omega
theorem byt_8 (a : Int) : byt a = (Int8.ofInt a).toInt32 := by
  show ((Int32.ofInt a).toInt8).toInt32 = _
  rw [Int32.toInt8_ofInt]
theorem byt_ext {a b : Int} (h : a % 256 = b % 256) : byt a = byt b := by
  rw [byt_8, byt_8]
  apply congrArg
  apply Int8.toInt.inj
  rw [Int8.toInt_ofInt, Int8.toInt_ofInt]
  show a.bmod 256 = b.bmod 256
  unfold Int.bmod
  rw [show (((256 : Nat) : Int)) = 256 from rfl, h]
theorem bp_b0 (x : Int32) : x.toInt8.toInt32 &&& 255 = x &&& 255 := by
  apply Int32.toBitVec_inj.mp
  rw [Int32.toBitVec_and, Int32.toBitVec_and, Int8.toBitVec_toInt32, Int32.toBitVec_toInt8]
  apply BitVec.eq_of_getLsbD_eq
  intro i hi
  rw [BitVec.getLsbD_and, BitVec.getLsbD_and]
  have hm : ∀ i < 32, 8 ≤ i → (255 : Int32).toBitVec.getLsbD i = false := by decide
  rcases Nat.lt_or_ge i 8 with z | z
  · rw [BitVec.getLsbD_signExtend, BitVec.getLsbD_signExtend, if_pos z, if_pos hi]
    simp only [z, hi, decide_true, Bool.true_and]
  · rw [hm i hi z]; simp
theorem byt_and (a : Int) : byt a &&& iI 255 = iI (a % 256) := (bp_b0 (iI a)).trans (iI_and255 a)
theorem byt_b (a : Int) : (byt a).toInt8.toInt32 = byt a := by
  rw [byt_8]
  simp
theorem byt_nar (a : Int) : vp_nar .byte (byt a) = byt a := by rw [vp_nar_byte, byt_b]
theorem byt_fit (a : Int) : fits .byte (.int (byt a)) = true := pk_fb _
theorem byt_0 : byt 0 = 0 := rfl
theorem iI_div {a b : Int} (ha : 0 ≤ a ∧ a < 2147483648) (hb : 0 < b ∧ b < 2147483648) : iI a / iI b = iI (a / b) := by
  have e1 : iI a = nI a.toNat := by rw [nI, iI_nat, Int.toNat_of_nonneg ha.1]
  have e2 : iI b = nI b.toNat := by rw [nI, iI_nat, Int.toNat_of_nonneg (by omega)]
  rw [e1, e2, pk_div (by omega) (by omega) (by omega), nI, iI_nat]
  apply congrArg
  rw [Int.natCast_ediv, Int.toNat_of_nonneg ha.1, Int.toNat_of_nonneg (by omega)]
theorem iI_rem {a b : Int} (ha : 0 ≤ a ∧ a < 2147483648) (hb : 0 < b ∧ b < 2147483648) : iI a - iI a / iI b * iI b = iI (a % b) := by
  have e1 : iI a = nI a.toNat := by rw [nI, iI_nat, Int.toNat_of_nonneg ha.1]
  have e2 : iI b = nI b.toNat := by rw [nI, iI_nat, Int.toNat_of_nonneg (by omega)]
  rw [e1, e2, pk_rem (by omega) (by omega) (by omega), nI, iI_nat]
  apply congrArg
  rw [Int.natCast_emod, Int.toNat_of_nonneg ha.1, Int.toNat_of_nonneg (by omega)]
theorem lI_of {a : Int} (h : -2147483648 ≤ a ∧ a < 2147483648) : (iI a).toInt64 = lI a := by
  apply Int64.toInt_inj.mp
  rw [Int32.toInt_toInt64, iI_toInt h, lI_toInt ⟨by omega, by omega⟩]
theorem lI_i (a : Int) : (lI a).toInt32 = iI a := Int64.toInt32_ofInt
theorem iI_s32 : ∀ n : Nat, n < 32 → ((iI n &&& 31).toBitVec.smod 32).toNat = n := by decide +kernel
theorem iI_s64 : ∀ n : Nat, n < 64 → (((iI n).toInt64 &&& 63).toBitVec.smod 64).toNat = n := by decide +kernel
theorem iI_dr {a c M : Int} (ha : -M ≤ a ∧ a < M) (hM : 0 < M) (hc : 1 ≤ c) : -M ≤ a / c ∧ a / c < M := by
  have h1 := Int.mul_le_mul_of_nonneg_left hc (show 0 ≤ M by omega)
  refine ⟨Int.le_ediv_of_mul_le (by omega) ?_, Int.ediv_lt_of_lt_mul (by omega) ?_⟩
  · rw [Int.neg_mul]; omega
  · omega
theorem iI_p2 (n : Nat) : (1 : Int) ≤ 2 ^ n := by
  have : (0 : Int) < 2 ^ n := Int.pow_pos (by decide)
  omega
theorem iI_shr {a k : Int} (ha : -2147483648 ≤ a ∧ a < 2147483648) (hk : 0 ≤ k ∧ k < 32) : iI a >>> (iI k &&& 31) = iI (a / 2 ^ k.toNat) := by
  obtain ⟨n, rfl⟩ := Int.eq_ofNat_of_zero_le hk.1
  have hs := iI_s32 n (by omega)
  apply Int32.toInt_inj.mp
  have h2 := iI_dr (c := 2 ^ n) (M := 2147483648) ha (by omega) (iI_p2 n)
  rw [pk_shr _ _ n hs, iI_toInt ha, Int.shiftRight_eq_div_pow, Int.toNat_natCast, iI_toInt h2]
  simp
theorem lI_shr {a k : Int} (ha : -9223372036854775808 ≤ a ∧ a < 9223372036854775808) (hk : 0 ≤ k ∧ k < 64) : lI a >>> ((iI k).toInt64 &&& 63) = lI (a / 2 ^ k.toNat) := by
  obtain ⟨n, rfl⟩ := Int.eq_ofNat_of_zero_le hk.1
  have hs := iI_s64 n (by omega)
  apply Int64.toInt_inj.mp
  have h2 := iI_dr (c := 2 ^ n) (M := 9223372036854775808) ha (by omega) (iI_p2 n)
  have e : (lI a >>> ((iI n).toInt64 &&& 63)).toInt = (lI a).toInt >>> n := by
    show ((lI a).toBitVec.sshiftRight (((iI n).toInt64 &&& 63).toBitVec.smod 64).toNat).toInt = _
    rw [hs, BitVec.toInt_sshiftRight]
    rfl
  rw [e, lI_toInt ha, Int.shiftRight_eq_div_pow, Int.toNat_natCast, lI_toInt h2]
  simp
theorem lI_shl (a : Int) {k : Int} (hk : 0 ≤ k ∧ k < 64) : lI a <<< ((iI k).toInt64 &&& 63) = lI (a * 2 ^ k.toNat) := by
  obtain ⟨n, rfl⟩ := Int.eq_ofNat_of_zero_le hk.1
  have hs := iI_s64 n (by omega)
  apply Int64.toBitVec_inj.mp
  apply BitVec.eq_of_toNat_eq
  show ((lI a).toBitVec <<< (((iI n).toInt64 &&& 63).toBitVec.smod 64).toNat).toNat = _
  rw [hs, BitVec.toNat_shiftLeft, Nat.shiftLeft_eq, lI_bv, lI_bv, Int.toNat_natCast]
  apply Int.natCast_inj.mp
  rw [Int.natCast_emod, Int.natCast_mul, Int.toNat_of_nonneg (Int.emod_nonneg _ (by decide)), Int.toNat_of_nonneg (Int.emod_nonneg _ (by decide))]
  rw [show (((2 : Nat) ^ n : Nat) : Int) = (2 : Int) ^ n by simp, show (((2 : Nat) ^ 64 : Nat) : Int) = 18446744073709551616 from rfl]
  rw [Int.mul_emod, Int.emod_emod, ← Int.mul_emod]
theorem lI_or8 (a : Int) {b : Int} (hb : 0 ≤ b ∧ b < 256) : lI (a * 256) ||| lI b = lI (a * 256 + b) := by
  apply Int64.toBitVec_inj.mp
  apply BitVec.eq_of_toNat_eq
  rw [Int64.toBitVec_or, BitVec.toNat_or, lI_bv, lI_bv, lI_bv]
  obtain ⟨n, hn⟩ := Int.eq_ofNat_of_zero_le (Int.emod_nonneg (a * 256) (show (18446744073709551616 : Int) ≠ 0 by decide))
  have h1 : a * 256 % 18446744073709551616 = (a % 72057594037927936) * 256 := by omega
  obtain ⟨q, hq⟩ := Int.eq_ofNat_of_zero_le (Int.emod_nonneg a (show (72057594037927936 : Int) ≠ 0 by decide))
  obtain ⟨r, rfl⟩ := Int.eq_ofNat_of_zero_le hb.1
  have h2 : (a * 256 + r) % 18446744073709551616 = (a % 72057594037927936) * 256 + r := by omega
  have h3 : (r : Int) % 18446744073709551616 = r := by omega
  rw [h1, h2, h3, hq]
  have e1 : ((q : Int) * 256).toNat = q <<< 8 := by rw [Nat.shiftLeft_eq]; omega
  have e2 : ((q : Int) * 256 + (r : Int)).toNat = q <<< 8 + r := by rw [Nat.shiftLeft_eq]; omega
  rw [e1, e2, Int.toNat_natCast, Nat.shiftLeft_add_eq_or_of_lt (by omega)]
def cmpI (a b : Int) : Int := if b < a then 1 else if a = b then 0 else -1
theorem cmpI_s (a b : Int) : (a < b ∧ cmpI a b = -1) ∨ (a = b ∧ cmpI a b = 0) ∨ (b < a ∧ cmpI a b = 1) := by
  unfold cmpI
  by_cases h1 : b < a
  · rw [if_pos h1]; omega
  · rw [if_neg h1]
    by_cases h2 : a = b
    · rw [if_pos h2]; omega
    · rw [if_neg h2]; omega
theorem lI_cmp {a b : Int} (ha : -9223372036854775808 ≤ a ∧ a < 9223372036854775808) (hb : -9223372036854775808 ≤ b ∧ b < 9223372036854775808) : lg_cmp (lI a) (lI b) = iI (cmpI a b) := by
  unfold lg_cmp cmpI
  by_cases h1 : b < a
  · have : lI b < lI a := (lI_lt hb ha).mpr h1
    simp [h1, this]; rfl
  · have n1 : ¬ lI b < lI a := fun h => h1 ((lI_lt hb ha).mp h)
    by_cases h2 : a = b
    · subst h2; simp; rfl
    · have n2 : ¬ lI a = lI b := fun h => h2 ((lI_eq ha hb).mp h)
      simp [h1, h2, n1, n2]; rfl
end
section
/-! THE WORLD: cells by ROLE. L gives a role's address, κ its cell; different roles lie apart; all lie from lo on. -/
def mw (D : va_G) (cl : List vw_C) (lo : Nat) (L : Nat → Nat) (κ : Nat → Option va_E) (H : Heap) : Prop :=
  lo ≤ H.size ∧ (∀ (i : Nat) (x : va_E), κ i = some x → lo ≤ L i ∧ va_at D cl (L i, x) H) ∧ ∀ (i j : Nat) (x y : va_E), κ i = some x → κ j = some y → L i = L j → i = j
theorem mw_one {D : va_G} {cl : List vw_C} {lo : Nat} {L : Nat → Nat} {κ : Nat → Option va_E} {H : Heap} (hM : mw D cl lo L κ H) {i : Nat} {x : va_E} (he : κ i = some x) : va_P D cl [(L i, x)] H := by
  intro k q h
  match k, h with
  | 0, h => cases h; exact (hM.2.1 i x he).2
  | k + 1, h => simp at h
theorem mw_set {D : va_G} {cl : List vw_C} {lo : Nat} {L : Nat → Nat} {κ : Nat → Option va_E} {H H1 : Heap} (hM : mw D cl lo L κ H) {i : Nat} {x x1 : va_E} (he : κ i = some x) (h1 : va_at D cl (L i, x1) H1) (z : H1.size = H.size) (oq : ∀ q : Nat, q ≠ L i → H1[q]? = H[q]?) : mw D cl lo L (va_up κ i (some x1)) H1 := by
  obtain ⟨a1, a2, a3⟩ := hM
  refine ⟨by rw [z]; exact a1, fun j y hj => ?_, fun j k y w hj hk e => ?_⟩
  · by_cases h : j = i
    · subst h
      rw [va_up_self] at hj
      cases hj
      exact ⟨(a2 _ _ he).1, h1⟩
    · rw [va_up_ne _ _ h] at hj
      exact ⟨(a2 j y hj).1, (a2 j y hj).2.kept (oq _ (fun e => h (a3 j i y x hj he e)))⟩
  · have g : ∀ (r : Nat) (v : va_E), va_up κ i (some x1) r = some v → ∃ v2, κ r = some v2 := by
      intro r v hr
      by_cases h : r = i
      · subst h; exact ⟨x, he⟩
      · rw [va_up_ne _ _ h] at hr; exact ⟨v, hr⟩
    obtain ⟨y2, g1⟩ := g j y hj
    obtain ⟨w2, g2⟩ := g k w hk
    exact a3 j k y2 w2 g1 g2 e
/-- a new cell, in a role that is free or given up -/
theorem mw_new {D : va_G} {cl : List vw_C} {lo : Nat} {L : Nat → Nat} {κ : Nat → Option va_E} {H H1 : Heap} (hM : mw D cl lo L κ H) (i : Nat) {x1 : va_E} (h1 : va_at D cl (H.size, x1) H1) (z : H1.size = H.size + 1) (oq : ∀ q : Nat, q < H.size → H1[q]? = H[q]?) : mw D cl lo (va_up L i H.size) (va_up κ i (some x1)) H1 := by
  obtain ⟨a1, a2, a3⟩ := hM
  have key : ∀ (j : Nat) (y : va_E), κ j = some y → L j < H.size := fun j y hj => (a2 j y hj).2.lt
  refine ⟨by omega, fun j y hj => ?_, fun j k y w hj hk e => ?_⟩
  · by_cases h : j = i
    · subst h
      rw [va_up_self] at hj ⊢
      cases hj
      exact ⟨a1, h1⟩
    · rw [va_up_ne _ _ h] at hj ⊢
      exact ⟨(a2 j y hj).1, (a2 j y hj).2.kept (oq _ (key j y hj))⟩
  · by_cases h : j = i
    · by_cases h2 : k = i
      · rw [h, h2]
      · rw [va_up_ne _ _ h2] at hk
        rw [h, va_up_self, va_up_ne _ _ h2] at e
        have := key k w hk
        omega
    · rw [va_up_ne _ _ h] at hj
      by_cases h2 : k = i
      · rw [h2, va_up_self, va_up_ne _ _ h] at e
        have := key j y hj
        omega
      · rw [va_up_ne _ _ h2] at hk
        rw [va_up_ne _ _ h, va_up_ne _ _ h2] at e
        exact a3 j k y w hj hk e
/-- a role takes another one's cell over -/
theorem mw_take {D : va_G} {cl : List vw_C} {lo : Nat} {L : Nat → Nat} {κ : Nat → Option va_E} {H : Heap} (hM : mw D cl lo L κ H) (i t : Nat) {x : va_E} (ht : κ t = some x) (hit : i ≠ t) : mw D cl lo (va_up L i (L t)) (va_up (va_up κ t none) i (some x)) H := by
  obtain ⟨a1, a2, a3⟩ := hM
  have g : ∀ (r : Nat) (v : va_E), va_up (va_up κ t none) i (some x) r = some v → (r = i ∧ v = x) ∨ (r ≠ i ∧ r ≠ t ∧ κ r = some v) := by
    intro r v hr
    by_cases h : r = i
    · subst h
      rw [va_up_self] at hr
      cases hr
      exact Or.inl ⟨rfl, rfl⟩
    · rw [va_up_ne _ _ h] at hr
      by_cases h2 : r = t
      · subst h2; rw [va_up_self] at hr; cases hr
      · rw [va_up_ne _ _ h2] at hr; exact Or.inr ⟨h, h2, hr⟩
  refine ⟨a1, fun j y hj => ?_, fun j k y w hj hk e => ?_⟩
  · rcases g j y hj with ⟨rfl, rfl⟩ | ⟨h1, h2, h3⟩
    · rw [va_up_self]; exact a2 t _ ht
    · rw [va_up_ne _ _ h1]; exact a2 j y h3
  · rcases g j y hj with ⟨rfl, rfl⟩ | ⟨h1, h2, h3⟩
    · rcases g k w hk with ⟨rfl, rfl⟩ | ⟨k1, k2, k3⟩
      · rfl
      · rw [va_up_self, va_up_ne _ _ k1] at e
        exact absurd (a3 t k _ w ht k3 e).symm k2
    · rcases g k w hk with ⟨rfl, rfl⟩ | ⟨k1, k2, k3⟩
      · rw [va_up_self, va_up_ne _ _ h1] at e
        exact absurd (a3 j t y _ h3 ht e) h2
      · rw [va_up_ne _ _ h1, va_up_ne _ _ k1] at e
        exact a3 j k y w h3 k3 e
/-- roles one up: role 0 is free -/
theorem mw_shift {D : va_G} {cl : List vw_C} {lo : Nat} {L : Nat → Nat} {κ : Nat → Option va_E} {H : Heap} (hM : mw D cl lo L κ H) : mw D cl lo (fun r => L (r - 1)) (fun r => if r = 0 then none else κ (r - 1)) H := by
  obtain ⟨a1, a2, a3⟩ := hM
  have g : ∀ (r : Nat) (v : va_E), (if r = 0 then none else κ (r - 1)) = some v → r ≠ 0 ∧ κ (r - 1) = some v := by
    intro r v hr
    by_cases h : r = 0
    · rw [if_pos h] at hr; cases hr
    · rw [if_neg h] at hr; exact ⟨h, hr⟩
  refine ⟨a1, fun j y hj => a2 _ _ (g j y hj).2, fun j k y w hj hk e => ?_⟩
  have := a3 _ _ _ _ (g j y hj).2 (g k w hk).2 e
  have := (g j y hj).1
  have := (g k w hk).1
  omega
theorem mw_unshift {D : va_G} {cl : List vw_C} {lo : Nat} {L : Nat → Nat} {κ : Nat → Option va_E} {H : Heap} (hM : mw D cl lo L κ H) : mw D cl lo (fun r => L (r + 1)) (fun r => κ (r + 1)) H := by
  obtain ⟨a1, a2, a3⟩ := hM
  exact ⟨a1, fun j y hj => a2 _ _ hj, fun j k y w hj hk e => by have := a3 _ _ _ _ hj hk e; omega⟩
/-- fewer cells -/
theorem mw_less {D : va_G} {cl : List vw_C} {lo : Nat} {L L1 : Nat → Nat} {κ κ1 : Nat → Option va_E} {H : Heap} (hM : mw D cl lo L κ H) (h : ∀ (i : Nat) (x : va_E), κ1 i = some x → κ i = some x ∧ L1 i = L i) : mw D cl lo L1 κ1 H := by
  obtain ⟨a1, a2, a3⟩ := hM
  refine ⟨a1, fun j y hj => ?_, fun j k y w hj hk e => ?_⟩
  · rw [(h j y hj).2]; exact a2 _ _ (h j y hj).1
  · rw [(h j y hj).2, (h k w hk).2] at e
    exact a3 j k y w (h j y hj).1 (h k w hk).1 e
/-! contracts: from the world (L, κ) to one with 'post answer L1 κ1' -/
def mwP (D : va_G) (cl : List vw_C) (tys : List (ClassId × FieldType)) (lo : Nat) (L : Nat → Nat) (κ : Nat → Option va_E) (av : List Value) : Array Value → State → Prop := fun v U => v = av.toArray ∧ mw D cl lo L κ U.heap ∧ va_K D cl tys U
def mwQ (D : va_G) (cl : List vw_C) (lo : Nat) (post : Option Value → (Nat → Nat) → (Nat → Option va_E) → Prop) : Array Value → State → Outcome → State → Prop := fun _ st oc t =>
  ∃ (v : Option Value) (L : Nat → Nat) (κ : Nat → Option va_E), oc = .returned v ∧ post v L κ ∧ mw D cl lo L κ t.heap ∧ va_F (fun q => lo ≤ q) st t
theorem mwP_blind {D : va_G} {cl : List vw_C} {tys : List (ClassId × FieldType)} {lo : Nat} {L : Nat → Nat} {κ : Nat → Option va_E} {av : List Value} : FrameBlind (mwP D cl tys lo L κ av) :=
  fun a U g mk q => ⟨q.1, q.2.1, va_K.moved (u := U) (U := U.calling g mk a) (Vm.Alike.refl U.vm) q.2.2⟩
section MW
variable {p : Program} {l : Launch} {e : Env} {R : Room} {s : State} {m : MethodId} {args : Array Value} {below : List Frame} {meth : Method} {c : Code} {H : Heap} {locs : List Loc} {cells slots : Nat} {Q : State → Prop}
variable {cc : ByteArray} {pc : Nat} {ls : Array Slot} {rest : List Value} {D : va_G} {cl : List vw_C} {lo : Nat} {L : Nat → Nat} {κ : Nat → Option va_E} {tys : List (ClassId × FieldType)} {H0 : Heap}
theorem mwP_S (hM : mw D cl lo L κ H) (hK : va_K D cl tys s) {As : List Value} : PreS s H (mwP D cl tys lo L κ As) As :=
  ⟨mwP_blind, fun U hU hW => ⟨rfl, by rw [hU]; exact hM, va_K.moved hW.alike hK⟩⟩
theorem mwP_V (hM : mw D cl lo L κ H) (hK : va_K D cl tys s) {i ci : Nat} {fs : List Value} {r : vw_C} (he : κ i = some (.inr (ci, fs))) (hc : cl[ci]? = some r) {As : List Value} : PreV s H r.1 (L i) (mwP D cl tys lo L κ (.ref (L i) :: As)) As :=
  ⟨mwP_blind, va_recv hK (mw_one hM he) (ci := ci) (q0 := 0) hc rfl, fun U hU hW => ⟨rfl, by rw [hU]; exact hM, va_K.moved hW.alike hK⟩⟩
/-- behind a call -/
theorem mw_back {mc ms : Nat} {st0 : List Value} {a : Array Value} {post : Option Value → (Nat → Nat) → (Nat → Option va_E) → Prop} (hr : va_Run p l e R s m args below meth c H locs cells slots mc ms (F0 m pc ls st0) rest (mwQ D cl lo post a) (fun q => lo ≤ q)) (hS : va_S (fun q => lo ≤ q) H0 H locs)
    (kk : ∀ (v : Option Value) (L1 : Nat → Nat) (κ1 : Nat → Option va_E) (H1 : Heap) (locs1 : List Loc), post v L1 κ1 → mw D cl lo L1 κ1 H1 → va_S (fun q => lo ≤ q) H0 H1 locs1 → W p l e R s m args below meth c H1 locs1 (cells + mc) (slots + ms) Q (F0 m (pc + 3) ls (v.toList ++ rest))) : W p l e R s m args below meth c H locs cells slots Q (F0 m pc ls st0) := by
  intro T hT X
  obtain ⟨v, st₀, t, T', L2, h0, X', hL, e1, e2, ⟨v2, L1, κ1, hv, hp, hb, hz, hk⟩, st⟩ := hr T hT X
  cases hv
  rw [h0] at hz hk
  obtain ⟨t2, a1, b1⟩ := kk v L1 κ1 T'.heap (locs ++ L2) hp (by rw [e1]; exact hb)
    ⟨Nat.le_trans hS.1 (by rw [e1]; exact hz), fun q h1 h2 => by rw [e1, hk q (Nat.lt_of_lt_of_le h1 hS.1) h2]; exact hS.2.1 q h1 h2, fun q hq => by
      rcases List.mem_append.mp hq with h | h
      · exact hS.2.2 q h
      · exact hL q h⟩ T' rfl X'
  exact ⟨t2, st t2 a1, b1⟩
variable {y : MethodName} {bytes : ByteArray} {maxL nL mc ms n index : Nat} {ret : Option FieldType} {ws : List Cond} {rm : Room} {Ts : List Cond} {own C : String} {As st0 : List Value} {post : Option Value → (Nat → Nat) → (Nat → Option va_E) → Prop}
theorem mw_callV (S : CallFix p m c cc nL s args Ts own) (hK : va_K D cl tys s) (hM : mw D cl lo L κ H) (hS : va_S (fun q => lo ≤ q) H0 H locs) {i ci : Nat} {fs : List Value} {r : vw_C} {qa : Nat} (hqa : L i = qa) (he : κ i = some (.inr (ci, fs))) (hc : cl[ci]? = some r)
    (hm : Met l y ws rm (mwP D cl tys lo L κ (.ref (L i) :: As)) (mwQ D cl lo post) mc ms (fun q => lo ≤ q)) (cw : CallW R s args own r.1 index y bytes maxL ret ws rm mc ms n) (hn : As.length = n) (hl : ls.size = nL) (hst : st0 = As.reverse ++ .ref qa :: rest) (hW : (rest.map fun v => v.category).sum ≤ 8) (hdg : decode cc pc = .ok (.invokevirtual index, 3)) (hf : cells + mc ≤ R.cells ∧ slots + ms ≤ R.slots)
    (kk : ∀ (v : Option Value) (L1 : Nat → Nat) (κ1 : Nat → Option va_E) (H1 : Heap) (locs1 : List Loc), post v L1 κ1 → mw D cl lo L1 κ1 H1 → va_S (fun q => lo ≤ q) H0 H1 locs1 → W p l e R s m args below meth c H1 locs1 (cells + mc) (slots + ms) Q (F0 m (pc + 3) ls (v.toList ++ rest))) : W p l e R s m args below meth c H locs cells slots Q (F0 m pc ls st0) := by
  subst hqa
  exact mw_back (va_runV S hm cw (mwP_V hM hK he hc) rfl hn hl hst (lv_room (m := m) (pc := pc) (ls := ls) (rest := st0) hW) hdg hf) hS kk
theorem mw_callS (S : CallFix p m c cc nL s args Ts own) (hK : va_K D cl tys s) (hM : mw D cl lo L κ H) (hS : va_S (fun q => lo ≤ q) H0 H locs)
    (hm : Met l y ws rm (mwP D cl tys lo L κ As) (mwQ D cl lo post) mc ms (fun q => lo ≤ q)) (cw : CallB R s args own index y bytes maxL ret ws rm mc ms n ∧ (Cond.static y).before args s = true) (hn : As.length = n) (hl : ls.size = nL) (hst : st0 = As.reverse ++ rest) (hW : (rest.map fun v => v.category).sum ≤ 8) (hdg : decode cc pc = .ok (.invokestatic index, 3)) (hf : cells + mc ≤ R.cells ∧ slots + ms ≤ R.slots)
    (kk : ∀ (v : Option Value) (L1 : Nat → Nat) (κ1 : Nat → Option va_E) (H1 : Heap) (locs1 : List Loc), post v L1 κ1 → mw D cl lo L1 κ1 H1 → va_S (fun q => lo ≤ q) H0 H1 locs1 → W p l e R s m args below meth c H1 locs1 (cells + mc) (slots + ms) Q (F0 m (pc + 3) ls (v.toList ++ rest))) : W p l e R s m args below meth c H locs cells slots Q (F0 m pc ls st0) :=
  mw_back (va_runS S hm cw (mwP_S hM hK) rfl hn hl hst (lv_room (m := m) (pc := pc) (ls := ls) (rest := st0) hW) hdg hf) hS kk
theorem mw_callI (S : CallFix p m c cc nL s args Ts own) (hK : va_K D cl tys s) (hM : mw D cl lo L κ H) (hS : va_S (fun q => lo ≤ q) H0 H locs) {b : Nat}
    (hm : Met l y ws rm (mwP D cl tys lo L κ (.ref b :: As)) (mwQ D cl lo post) mc ms (fun q => lo ≤ q)) (cw : CallB R s args own index y bytes maxL none ws rm mc ms n ∧ y.name = "<init>" ∧ (Cond.instanceMethod y).before args s = true) (hn : As.length = n) (hl : ls.size = nL) (hst : st0 = As.reverse ++ .ref b :: rest) (hW : (rest.map fun v => v.category).sum ≤ 8) (hdg : decode cc pc = .ok (.invokespecial index, 3)) (hf : cells + mc ≤ R.cells ∧ slots + ms ≤ R.slots)
    (kk : ∀ (v : Option Value) (L1 : Nat → Nat) (κ1 : Nat → Option va_E) (H1 : Heap) (locs1 : List Loc), post v L1 κ1 → mw D cl lo L1 κ1 H1 → va_S (fun q => lo ≤ q) H0 H1 locs1 → W p l e R s m args below meth c H1 locs1 (cells + mc) (slots + ms) Q (F0 m (pc + 3) ls (v.toList ++ rest))) : W p l e R s m args below meth c H locs cells slots Q (F0 m pc ls st0) :=
  mw_back (va_runI S hm cw (mwP_S hM hK) rfl hn hl hst (lv_room (m := m) (pc := pc) (ls := ls) (rest := st0) hW) hdg hf) hS kk
/-! ends -/
theorem mw_iret {v : Int32} (hexec : p.tables.exec = Jvm.exec) (hb : c.code = cc) (hr : meth.sig.returnType = some .int) (hM : mw D cl lo L κ H) (hS : va_S (fun q => lo ≤ q) s.heap H locs) (hlocks : meth.locks = false) (hdg : decode cc pc = .ok (.ireturn, 1)) (hq : post (some (.int v)) L κ) : W p l e R s m args below meth c H locs cells slots (MQ below (mwQ D cl lo post) args s cells slots (fun q => lo ≤ q)) (F0 m pc ls [.int v]) :=
  W.iret hexec hb hr (fun t ht _ => ⟨_, L, κ, rfl, hq, by rw [ht]; exact hM, hS.F ht⟩) hS.2.2 hdg hlocks
theorem mw_zret {v : Bool} (hexec : p.tables.exec = Jvm.exec) (hb : c.code = cc) (hr : meth.sig.returnType = some .boolean) (hM : mw D cl lo L κ H) (hS : va_S (fun q => lo ≤ q) s.heap H locs) (hlocks : meth.locks = false) (hdg : decode cc pc = .ok (.ireturn, 1)) (hq : post (some (.int (iI (bI v)))) L κ) : W p l e R s m args below meth c H locs cells slots (MQ below (mwQ D cl lo post) args s cells slots (fun q => lo ≤ q)) (F0 m pc ls [.int (iI (bI v))]) :=
  W.zret hexec hb hr (by cases v <;> decide) (fun t ht _ => ⟨_, L, κ, rfl, hq, by rw [ht]; exact hM, hS.F ht⟩) hS.2.2 hdg hlocks
theorem mw_lret {v : Int64} (hexec : p.tables.exec = Jvm.exec) (hb : c.code = cc) (hr : meth.sig.returnType = some .long) (hM : mw D cl lo L κ H) (hS : va_S (fun q => lo ≤ q) s.heap H locs) (hlocks : meth.locks = false) (hdg : decode cc pc = .ok (.lreturn, 1)) (hq : post (some (.long v)) L κ) : W p l e R s m args below meth c H locs cells slots (MQ below (mwQ D cl lo post) args s cells slots (fun q => lo ≤ q)) (F0 m pc ls [.long v]) :=
  W.lret hexec hb hr (fun t ht _ => ⟨_, L, κ, rfl, hq, by rw [ht]; exact hM, hS.F ht⟩) hS.2.2 hdg hlocks
theorem mw_vret (hexec : p.tables.exec = Jvm.exec) (hb : c.code = cc) (hr : meth.sig.returnType = none) (hM : mw D cl lo L κ H) (hS : va_S (fun q => lo ≤ q) s.heap H locs) (hlocks : meth.locks = false) (hdg : decode cc pc = .ok (.return_, 1)) (hq : post none L κ) : W p l e R s m args below meth c H locs cells slots (MQ below (mwQ D cl lo post) args s cells slots (fun q => lo ≤ q)) (F0 m pc ls []) :=
  W.vret hexec hb hr (fun t ht _ => ⟨_, L, κ, rfl, hq, by rw [ht]; exact hM, hS.F ht⟩) hS.2.2 hdg hlocks
theorem mw_aret {a : Nat} {rt : FieldType} (hexec : p.tables.exec = Jvm.exec) (hb : c.code = cc) (hr : meth.sig.returnType = some rt) (hrt : (∃ n, rt = .object n) ∨ ∃ t, rt = .array t) (hM : mw D cl lo L κ H) (hS : va_S (fun q => lo ≤ q) s.heap H locs) (hlocks : meth.locks = false) (hdg : decode cc pc = .ok (.areturn, 1)) (hq : post (some (.ref a)) L κ) : W p l e R s m args below meth c H locs cells slots (MQ below (mwQ D cl lo post) args s cells slots (fun q => lo ≤ q)) (F0 m pc ls [.ref a]) :=
  W.aret hexec hb hr hrt (Or.inr ⟨a, rfl⟩) (fun t ht _ => ⟨_, L, κ, rfl, hq, by rw [ht]; exact hM, hS.F ht⟩) hS.2.2 hdg hlocks
end MW
theorem mw_entry {m : MethodId} {args : Array Value} (av : List Value) {n : Nat} (h : (lg_sl av).length ≤ n) (e : args = av.toArray) : ∃ ls, entryFrame m args n = F0 m 0 ls [] ∧ lv_has ls n (lv_args 0 av) := by
  subst e
  rw [lg_entry_eq]
  exact ⟨_, rfl, lv_entry av h⟩
end
section
/-! INSTRUCTIONS over the world by roles -/
section MR
variable {p : Program} {l : Launch} {e : Env} {R : Room} {s : State} {m : MethodId} {args : Array Value} {below : List Frame} {meth : Method} {c : Code} {H : Heap} {locs : List Loc} {cells slots : Nat} {Q : State → Prop}
variable {cc : ByteArray} {pc : Nat} {ls : Array Slot} {rest : List Value} {D : va_G} {cl : List vw_C} {lo : Nat} {L : Nat → Nat} {κ : Nat → Option va_E} {tys : List (ClassId × FieldType)} {H0 : Heap}
theorem mw_get (hexec : p.tables.exec = Jvm.exec) (hb : c.code = cc) {own C : String} {T : u_T} {N ci index : Nat} {Ts : List Cond} (hts : ∀ w ∈ Ts, w.before args s = true) (hin : ∀ w ∈ u_ws C T N, w ∈ Ts) (hown : s.vm.findClass own = some m.cls) (hK : va_K D cl tys s) (hM : mw D cl lo L κ H) {qa : Nat} {i : Nat} {fs : List Value} (he : κ i = some (.inr (ci, fs))) (hqa : L i = qa) (hc : cl[ci]? = some (C, T, N)) (k : Nat) (hk : k < N) (hlink : (Cond.fieldLink own index (T k).1 (T k).2.1 (T k).2.2.1).before args s = true) {v : Value} (hv : fs[k]? = some v) (hdg : decode cc pc = .ok (.getfield index, 3))
    (kk : W p l e R s m args below meth c H locs cells slots Q (F0 m (pc + 3) ls (v :: rest))) : W p l e R s m args below meth c H locs cells slots Q (F0 m pc ls (.ref qa :: rest)) := by
  subst hqa
  exact va_get (D := D) hexec hb hts hin hown hK (mw_one hM he) 0 rfl hc k hk hlink (fun _ h => h) hv hdg kk
theorem mw_put (hexec : p.tables.exec = Jvm.exec) (hb : c.code = cc) {own C : String} {T : u_T} {N ci index : Nat} {Ts : List Cond} (hts : ∀ w ∈ Ts, w.before args s = true) (hin : ∀ w ∈ u_ws C T N, w ∈ Ts) (ty0 : Nat → FieldType) (hty : ∀ k, k < N → parseFieldDescriptor (T k).2.2.1 = some (ty0 k)) (hnm : ∀ a, a < N → ∀ b, b < N → a ≠ b → (T a).2.1 ≠ (T b).2.1) (hown : s.vm.findClass own = some m.cls) (hK : va_K D cl tys s) (hM : mw D cl lo L κ H) {qa : Nat} (hS0 : va_S (fun q => lo ≤ q) H0 H locs) {i : Nat} {fs : List Value} (he : κ i = some (.inr (ci, fs))) (hqa : L i = qa) (hc : cl[ci]? = some (C, T, N)) (k : Nat) (hk : k < N) (hlink : (Cond.fieldLink own index (T k).1 (T k).2.1 (T k).2.2.1).before args s = true) (hfin : (T k).2.2.2 = false) {ty : FieldType} {v : Value} (hd : parseFieldDescriptor (T k).2.2.1 = some ty) (hn : narrow ty v = v) (hfit : fits ty v = true) (hl : k < fs.length)
    (hdg : decode cc pc = .ok (.putfield index, 3)) (kk : ∀ (κ1 : Nat → Option va_E) (H1 : Heap) (locs1 : List Loc), κ1 i = some (.inr (ci, fs.set k v)) → (∀ r, r ≠ i → κ1 r = κ r) → mw D cl lo L κ1 H1 → va_S (fun q => lo ≤ q) H0 H1 locs1 → W p l e R s m args below meth c H1 locs1 cells slots Q (F0 m (pc + 3) ls rest)) : W p l e R s m args below meth c H locs cells slots Q (F0 m pc ls (v :: .ref qa :: rest)) := by
  subst hqa
  have hap := va_apart (own := own) hts hin ty0 hty hnm hK hc
  obtain ⟨hlo, r, h1, cell, q1, q2, q3, q4⟩ := hM.2.1 i _ he
  have hr : r = (C, T, N) := Option.some.inj (h1.symm.trans hc)
  subst hr
  obtain ⟨hS, hfc, kC, hkC, hkind⟩ := hK.1 ci _ hc
  obtain ⟨cf, kf, fi, f, hi, hsl⟩ := hS k hk
  have hlay := hts _ (hin _ (u_in_lay hk))
  unfold u_lay at hlay
  rw [if_neg (by rw [hfin]; decide)] at hlay
  have hst := (u_facts hfc hkC (u_lays hts hin hk) hi).1
  have h6 := u_store hfc hkC hkind hlay hi hd hn hfit
  refine W.putK hexec hb (f := f) ⟨hown, hlink, ⟨_, _, _, hi⟩, hst⟩ (by rw [q2]; exact h6) q1 q3 (by rw [hsl]; exact k2_hasslot (q4 k hk)) rfl rfl hdg fun H' e1 e2 e3 => ?_
  rw [hsl] at e1 ⊢
  exact kk _ H' _ (va_up_self _ _ _) (fun r hr => va_up_ne _ _ hr) (mw_set hM he ⟨_, hc, t_OB.to (V := updV (vp_V fs) k v) ⟨_, e1, q2, q3, t_set q4 hap hk v⟩ (fun j _ => vp_updV_set hl v j)⟩ e2 e3) (hS0.put e2 e3 hlo)
theorem mw_putF (hexec : p.tables.exec = Jvm.exec) (hb : c.code = cc) {own C : String} {T : u_T} {N ci index : Nat} {Ts : List Cond} (hts : ∀ w ∈ Ts, w.before args s = true) (hin : ∀ w ∈ u_ws C T N, w ∈ Ts) (ty0 : Nat → FieldType) (hty : ∀ k, k < N → parseFieldDescriptor (T k).2.2.1 = some (ty0 k)) (hnm : ∀ a, a < N → ∀ b, b < N → a ≠ b → (T a).2.1 ≠ (T b).2.1) (hown : s.vm.findClass own = some m.cls) (hK : va_K D cl tys s) (hM : mw D cl lo L κ H) {qa : Nat} (hS0 : va_S (fun q => lo ≤ q) H0 H locs) {i : Nat} {fs : List Value} (he : κ i = some (.inr (ci, fs))) (hqa : L i = qa) (hc : cl[ci]? = some (C, T, N)) (k : Nat) (hk : k < N) (hlink : (Cond.fieldLink own index (T k).1 (T k).2.1 (T k).2.2.1).before args s = true) (hfin : (T k).2.2.2 = true) (hin2 : meth.name = "<init>") (hdecl : (T k).1 = own) {ty : FieldType} {v : Value} (hd : parseFieldDescriptor (T k).2.2.1 = some ty) (hn : narrow ty v = v) (hfit : fits ty v = true) (hl : k < fs.length)
    (hdg : decode cc pc = .ok (.putfield index, 3)) (kk : ∀ (κ1 : Nat → Option va_E) (H1 : Heap) (locs1 : List Loc), κ1 i = some (.inr (ci, fs.set k v)) → (∀ r, r ≠ i → κ1 r = κ r) → mw D cl lo L κ1 H1 → va_S (fun q => lo ≤ q) H0 H1 locs1 → W p l e R s m args below meth c H1 locs1 cells slots Q (F0 m (pc + 3) ls rest)) : W p l e R s m args below meth c H locs cells slots Q (F0 m pc ls (v :: .ref qa :: rest)) := by
  subst hqa
  have hap := va_apart (own := own) hts hin ty0 hty hnm hK hc
  obtain ⟨hlo, r, h1, cell, q1, q2, q3, q4⟩ := hM.2.1 i _ he
  have hr : r = (C, T, N) := Option.some.inj (h1.symm.trans hc)
  subst hr
  obtain ⟨hS, hfc, kC, hkC, hkind⟩ := hK.1 ci _ hc
  obtain ⟨cf, kf, fi, f, hi, hsl⟩ := hS k hk
  have hlay := hts _ (hin _ (u_in_lay hk))
  unfold u_lay at hlay
  rw [if_pos hfin] at hlay
  have hst := (u_facts hfc hkC (u_lays hts hin hk) hi).1
  have hcf : m.cls = cf := by
    obtain ⟨_, _, c', _, _, _, -, -, hf', -, -, -, hown2, -⟩ := Cond.laysFinal_spec hlay
    have e1 : c' = cf := by have := hi.symm.trans hf'; simp at this; exact this.1.symm
    rw [hdecl] at hown2
    rw [← e1]; exact Option.some.inj (hown.symm.trans hown2)
  have h6 := u_fits hfc hkC hkind (Or.inr hlay) hi hd hn hfit
  refine W.putFinK hexec hb hown hlink hi hst hcf hin2 (by rw [q2]; exact h6) q1 q3 (by rw [hsl]; exact k2_hasslot (q4 k hk)) rfl rfl hdg fun H' e1 e2 e3 => ?_
  rw [hsl] at e1 ⊢
  exact kk _ H' _ (va_up_self _ _ _) (fun r hr => va_up_ne _ _ hr) (mw_set hM he ⟨_, hc, t_OB.to (V := updV (vp_V fs) k v) ⟨_, e1, q2, q3, t_set q4 hap hk v⟩ (fun j _ => vp_updV_set hl v j)⟩ e2 e3) (hS0.put e2 e3 hlo)
theorem mw_bald (hexec : p.tables.exec = Jvm.exec) (hb : c.code = cc) (hK : va_K D cl tys s) (hM : mw D cl lo L κ H) {qa : Nat} (t0 : Nat) {i : Nat} {cA : ClassId} {n : Nat} {f : Nat → Int} (he : κ i = some (.inl (cA, n, .inl (fun x => byt (f x))))) (hqa : L i = qa) (ht : tys[t0]? = some (cA, .byte)) {a : Int} (ha : 0 ≤ a ∧ a < n) (hn : n < 2147483648) (hdg : decode cc pc = .ok (.baload, 1))
    (kk : W p l e R s m args below meth c H locs cells slots Q (F0 m (pc + 1) ls (.int (byt (f a.toNat)) :: rest))) : W p l e R s m args below meth c H locs cells slots Q (F0 m pc ls (.int (iI a) :: .ref qa :: rest)) := by
  subst hqa
  refine va_bald (D := D) hexec hb hK (mw_one hM he) 0 t0 rfl ht (iI_in ha hn) hdg ?_
  rw [iI_clamp ⟨ha.1, by omega⟩]
  exact kk
theorem mw_iald (hexec : p.tables.exec = Jvm.exec) (hb : c.code = cc) (hK : va_K D cl tys s) (hM : mw D cl lo L κ H) {qa : Nat} (t0 : Nat) {i : Nat} {cA : ClassId} {n : Nat} {f : Nat → Int} (he : κ i = some (.inl (cA, n, .inl (fun x => iI (f x))))) (hqa : L i = qa) (ht : tys[t0]? = some (cA, .int)) {a : Int} (ha : 0 ≤ a ∧ a < n) (hn : n < 2147483648) (hdg : decode cc pc = .ok (.iaload, 1))
    (kk : W p l e R s m args below meth c H locs cells slots Q (F0 m (pc + 1) ls (.int (iI (f a.toNat)) :: rest))) : W p l e R s m args below meth c H locs cells slots Q (F0 m pc ls (.int (iI a) :: .ref qa :: rest)) := by
  subst hqa
  refine va_iald (D := D) hexec hb hK (mw_one hM he) 0 t0 rfl ht (iI_in ha hn) hdg ?_
  rw [iI_clamp ⟨ha.1, by omega⟩]
  exact kk
theorem mw_aldq (hexec : p.tables.exec = Jvm.exec) (hb : c.code = cc) (hK : va_K D cl tys s) (hM : mw D cl lo L κ H) {qa : Nat} (t0 : Nat) {i : Nat} {cA : ClassId} {C : String} {n : Nat} {f : Nat → Option Nat} (he : κ i = some (.inl (cA, n, .inr (.inr (.inr (.inr f)))))) (hqa : L i = qa) (ht : tys[t0]? = some (cA, .object C)) {a : Int} (ha : 0 ≤ a ∧ a < n) (hn : n < 2147483648) {q : Nat} (hq : f a.toNat = some q) (hdg : decode cc pc = .ok (.aaload, 1))
    (kk : W p l e R s m args below meth c H locs cells slots Q (F0 m (pc + 1) ls (.ref q :: rest))) : W p l e R s m args below meth c H locs cells slots Q (F0 m pc ls (.int (iI a) :: .ref qa :: rest)) := by
  subst hqa
  refine va_aldq (D := D) hexec hb hK (mw_one hM he) 0 t0 rfl ht (iI_in ha hn) hdg ?_
  rw [iI_clamp ⟨ha.1, by omega⟩, hq]
  exact kk
theorem mw_alen (hexec : p.tables.exec = Jvm.exec) (hb : c.code = cc) (hK : va_K D cl tys s) (hM : mw D cl lo L κ H) {qa : Nat} (t0 : Nat) {i : Nat} {cA : ClassId} {x : vp_A} (he : κ i = some (.inl (cA, x))) (hqa : L i = qa) {ty : FieldType} (ht : tys[t0]? = some (cA, ty)) (hdg : decode cc pc = .ok (.arraylength, 1))
    (kk : W p l e R s m args below meth c H locs cells slots Q (F0 m (pc + 1) ls (.int (iI x.1) :: rest))) : W p l e R s m args below meth c H locs cells slots Q (F0 m pc ls (.ref qa :: rest)) := by
  subst hqa
  exact va_alen (D := D) hexec hb hK (mw_one hM he) 0 t0 rfl ht (v := iI x.1) (iI_nat x.1) hdg kk
theorem mw_bast (hexec : p.tables.exec = Jvm.exec) (hb : c.code = cc) (hK : va_K D cl tys s) (hM : mw D cl lo L κ H) {qa : Nat} (hS : va_S (fun q => lo ≤ q) H0 H locs) (t0 : Nat) {i : Nat} {cA : ClassId} {n : Nat} {f : Nat → Int} (he : κ i = some (.inl (cA, n, .inl (fun x => byt (f x))))) (hqa : L i = qa) (ht : tys[t0]? = some (cA, .byte)) {a v : Int} (ha : 0 ≤ a ∧ a < n) (hn : n < 2147483648) (hdg : decode cc pc = .ok (.bastore, 1))
    (kk : ∀ (κ1 : Nat → Option va_E) (H1 : Heap) (locs1 : List Loc), κ1 i = some (.inl (cA, n, .inl (fun x => byt (va_up f a.toNat (v % 256) x)))) → (∀ r, r ≠ i → κ1 r = κ r) → mw D cl lo L κ1 H1 → va_S (fun q => lo ≤ q) H0 H1 locs1 → W p l e R s m args below meth c H1 locs1 cells slots Q (F0 m (pc + 1) ls rest)) : W p l e R s m args below meth c H locs cells slots Q (F0 m pc ls (.int (byt v) :: .int (iI a) :: .ref qa :: rest)) := by
  subst hqa
  have hin := iI_in ha hn
  have hcell : H[L i]? = some (vp_cell cA (n, .inl (fun x => byt (f x)))) := (hM.2.1 i _ he).2
  refine W.bast hexec hb hcell ((hK.2 t0 _ ht).1 n (fun j => .int (byt (f j)))) (fun q => by cases q) (by show ¬ (iI a < 0 ∨ (arrV _ _ _).slots.size ≤ _); rw [arrV_size]; exact hin) rfl rfl hdg fun H1 e z oq => ?_
  refine kk _ H1 _ (va_up_self _ _ _) (fun r hr => va_up_ne _ _ hr) (mw_set hM he ?_ z oq) (hS.put z oq (hM.2.1 i _ he).1)
  show H1[L i]? = some (vp_cell _ _)
  rw [e, vp_cell_i, vp_cell_i, arrV_store, iI_clamp ⟨ha.1, by omega⟩]
  congr 2
  funext q
  by_cases hq : q = a.toNat
  · subst hq
    simp only [updV, va_up, if_pos]
    show narrow .byte (.int (byt v)) = _
    rw [show byt (v % 256) = byt v from byt_ext (by omega)]
    exact pk_nb (iI v)
  · simp [updV, va_up, hq]
theorem mw_iast (hexec : p.tables.exec = Jvm.exec) (hb : c.code = cc) (hK : va_K D cl tys s) (hM : mw D cl lo L κ H) {qa : Nat} (hS : va_S (fun q => lo ≤ q) H0 H locs) (t0 : Nat) {i : Nat} {cA : ClassId} {n : Nat} {f : Nat → Int} (he : κ i = some (.inl (cA, n, .inl (fun x => iI (f x))))) (hqa : L i = qa) (ht : tys[t0]? = some (cA, .int)) {a v : Int} (ha : 0 ≤ a ∧ a < n) (hn : n < 2147483648) (hdg : decode cc pc = .ok (.iastore, 1))
    (kk : ∀ (κ1 : Nat → Option va_E) (H1 : Heap) (locs1 : List Loc), κ1 i = some (.inl (cA, n, .inl (fun x => iI (va_up f a.toNat v x)))) → (∀ r, r ≠ i → κ1 r = κ r) → mw D cl lo L κ1 H1 → va_S (fun q => lo ≤ q) H0 H1 locs1 → W p l e R s m args below meth c H1 locs1 cells slots Q (F0 m (pc + 1) ls rest)) : W p l e R s m args below meth c H locs cells slots Q (F0 m pc ls (.int (iI v) :: .int (iI a) :: .ref qa :: rest)) := by
  subst hqa
  have hin := iI_in ha hn
  have hcell : H[L i]? = some (vp_cell cA (n, .inl (fun x => iI (f x)))) := (hM.2.1 i _ he).2
  refine W.iast hexec hb hcell ((hK.2 t0 _ ht).1 n (fun j => .int (iI (f j)))) (fun q => by cases q) (by show ¬ (iI a < 0 ∨ (arrV _ _ _).slots.size ≤ _); rw [arrV_size]; exact hin) rfl rfl hdg fun H1 e z oq => ?_
  refine kk _ H1 _ (va_up_self _ _ _) (fun r hr => va_up_ne _ _ hr) (mw_set hM he ?_ z oq) (hS.put z oq (hM.2.1 i _ he).1)
  show H1[L i]? = some (vp_cell _ _)
  rw [e, vp_cell_i, vp_cell_i, arrV_store, iI_clamp ⟨ha.1, by omega⟩]
  congr 2
  funext q
  by_cases hq : q = a.toNat
  · subst hq
    simp [updV, va_up]
  · simp [updV, va_up, hq]
theorem mw_astq (hexec : p.tables.exec = Jvm.exec) (hb : c.code = cc) (hK : va_K D cl tys s) (hM : mw D cl lo L κ H) {qa qb : Nat} (hS : va_S (fun q => lo ≤ q) H0 H locs) (t0 ci : Nat) {i j : Nat} {cA : ClassId} {r : vw_C} {n : Nat} {vs : List Value} {f : Nat → Option Nat} (he : κ i = some (.inl (cA, n, .inr (.inr (.inr (.inr f)))))) (ht : tys[t0]? = some (cA, .object r.1)) (hv : κ j = some (.inr (ci, vs))) (hc : cl[ci]? = some r) (hqa : L i = qa) (hqb : L j = qb) {a : Int} (ha : 0 ≤ a ∧ a < n) (hn : n < 2147483648) (hdg : decode cc pc = .ok (.aastore, 1))
    (kk : ∀ (κ1 : Nat → Option va_E) (H1 : Heap) (locs1 : List Loc), κ1 i = some (.inl (cA, n, .inr (.inr (.inr (.inr (va_up f a.toNat (some (L j)))))))) → (∀ r, r ≠ i → κ1 r = κ r) → mw D cl lo L κ1 H1 → va_S (fun q => lo ≤ q) H0 H1 locs1 → W p l e R s m args below meth c H1 locs1 cells slots Q (F0 m (pc + 1) ls rest)) : W p l e R s m args below meth c H locs cells slots Q (F0 m pc ls (.ref qb :: .int (iI a) :: .ref qa :: rest)) := by
  subst hqa
  subst hqb
  have hin := iI_in ha hn
  have hlt : (iI a).toNatClampNeg < n := Nat.not_le.mp fun q => hin (Or.inr q)
  have h0 : ¬ iI a < 0 := fun q => hin (Or.inl q)
  have hcell : H[L i]? = some (vp_cell cA (n, .inr (.inr (.inr (.inr f))))) := (hM.2.1 i _ he).2
  obtain ⟨-, r', hr', cellV, g1, g2, g3, -⟩ := hM.2.1 j _ hv
  have hcls := (hK.1 ci r hc).2
  obtain ⟨kA, comp, k1, k2, k3, -⟩ := (hK.2 t0 _ ht).2
  have hcomp : comp = D.1 ci := Option.some.inj (k3.symm.trans hcls.1)
  subst hcomp
  obtain ⟨kC, hkC, -⟩ := hcls.2
  refine W.aast hexec hb hcell (fun q h => by cases h) (fun h => by cases h) k1 k2 rfl hkC ⟨h0, by show _ < (arrV _ _ _).slots.size; rw [arrV_size]; exact hlt⟩ g1 (fun q h => by rw [g3] at h; cases h) (by rw [g2]; exact hkC) (by rw [g2]; exact va_assign hcls) rfl rfl hdg fun H1 e z oq => ?_
  refine kk _ H1 _ (va_up_self _ _ _) (fun r hr => va_up_ne _ _ hr) (mw_set hM he ?_ z oq) (hS.put z oq (hM.2.1 i _ he).1)
  show H1[L i]? = some (vp_cell _ _)
  rw [e, vp_cell_q, vp_cell_q, arrV_store, iI_clamp ⟨ha.1, by omega⟩]
  congr 2
  funext q
  by_cases hq : q = a.toNat
  · subst hq
    simp [updV, va_up, va_rf]
  · simp [updV, va_up, hq]
theorem mw_newaK (hexec : p.tables.exec = Jvm.exec) (hb : c.code = cc) {atype : ArrayType} (harr : (Cond.arrayClass (newarray.typeOf atype)).before args s = true) {ty : FieldType} (hty : newarray.typeOf atype = ty) (hM : mw D cl lo L κ H) (hS : va_S (fun q => lo ≤ q) H0 H locs) (i : Nat)
    {a : Int} {a0 : vp_A} (hal : a0.1 = a.toNat) (ha0 : ∀ cA : ClassId, vp_cell cA a0 = arrV cA a.toNat (fun _ => defaultValue ty)) (ha : 0 ≤ a ∧ a < 2147483648) (hbytes : a.toNat * componentBytes ty ≤ 536870912) (hcells : cells + 1 ≤ R.cells) (hslots : slots + a.toNat ≤ R.slots) (hdg : decode cc pc = .ok (.newarray atype, 2))
    (kk : ∀ (L1 : Nat → Nat) (κ1 : Nat → Option va_E) (cA : ClassId) (H1 : Heap), ArrOfT s cA ty → s.vm.findClass ("[" ++ ty.toString) = some cA → κ1 i = some (.inl (cA, a0)) → (∀ r, r ≠ i → κ1 r = κ r) → (∀ r, r ≠ i → L1 r = L r) → mw D cl lo L1 κ1 H1 → va_S (fun q => lo ≤ q) H0 H1 locs →
      W p l e R s m args below meth c H1 locs (cells + 1) (slots + a.toNat) Q (F0 m (pc + 2) ls (.ref (L1 i) :: rest))) : W p l e R s m args below meth c H locs cells slots Q (F0 m pc ls (.int (iI a) :: rest)) := by
  subst hty
  refine va_newaK hexec hb harr rfl hdg rfl (iI_nn ha) (iI_clamp ha) hbytes hcells hslots rfl fun H1 cA e1 z1 o1 hAr hNm => ?_
  have hL : (va_up L i H.size) i = H.size := va_up_self _ _ _
  have kk2 := kk (va_up L i H.size) (va_up κ i (some (.inl (cA, a0)))) cA H1 hAr hNm (va_up_self _ _ _) (fun r hr => va_up_ne _ _ hr) (fun r hr => va_up_ne _ _ hr) (mw_new hM i (by show H1[H.size]? = some (vp_cell _ _); rw [ha0]; exact e1) z1 o1) ⟨Nat.le_trans hS.1 (by omega), fun x h1 h2 => (o1 x (Nat.lt_of_lt_of_le h1 hS.1)).trans (hS.2.1 x h1 h2), hS.2.2⟩
  rw [hL] at kk2
  exact kk2
theorem mw_newobj (hexec : p.tables.exec = Jvm.exec) (hb : c.code = cc) {own C : String} {T : u_T} {N ci index : Nat} {Ts : List Cond} (hts : ∀ w ∈ Ts, w.before args s = true) (hin : ∀ w ∈ u_ws C T N, w ∈ Ts) (ty : Nat → FieldType) (hty : ∀ k, k < N → parseFieldDescriptor (T k).2.2.1 = some (ty k)) (hown : s.vm.findClass own = some m.cls) (hcl : (Cond.classLink own index C).before args s = true) (hinst : (Cond.instantiable C N).before args s = true) (hini : (Cond.initialized C).before args s = true)
    (hK : va_K D cl tys s) (hM : mw D cl lo L κ H) (hS : va_S (fun q => lo ≤ q) H0 H locs) (i : Nat) (hc : cl[ci]? = some (C, T, N)) {fs : List Value} (hfs : ∀ j, j < N → defaultValue (ty j) = vp_V fs j) (hcells : cells + 1 ≤ R.cells) (hslots : slots + N ≤ R.slots) (hdg : decode cc pc = .ok (.new index, 3))
    (kk : ∀ (L1 : Nat → Nat) (κ1 : Nat → Option va_E) (H1 : Heap), κ1 i = some (.inr (ci, fs)) → (∀ r, r ≠ i → κ1 r = κ r) → (∀ r, r ≠ i → L1 r = L r) → mw D cl lo L1 κ1 H1 → va_S (fun q => lo ≤ q) H0 H1 locs →
      W p l e R s m args below meth c H1 locs (cells + 1) (slots + N) Q (F0 m (pc + 3) ls (.ref (L1 i) :: rest))) : W p l e R s m args below meth c H locs cells slots Q (F0 m pc ls rest) := by
  have hKn := hK.1 ci _ hc
  refine W.newcK hexec hb hown hcl hinst hini rfl hdg hcells hslots hKn.2.1 rfl fun H1 kC hkC e1 z1 o1 => ?_
  have hL : (va_up L i H.size) i = H.size := va_up_self _ _ _
  have kk2 := kk (va_up L i H.size) (va_up κ i (some (.inr (ci, fs)))) H1 (va_up_self _ _ _) (fun r hr => va_up_ne _ _ hr) (fun r hr => va_up_ne _ _ hr) (mw_new hM i ⟨_, hc, (u_born ty hts hin hKn hkC e1 hty).to hfs⟩ z1 o1) ⟨Nat.le_trans hS.1 (by omega), fun x h1 h2 => (o1 x (Nat.lt_of_lt_of_le h1 hS.1)).trans (hS.2.1 x h1 h2), hS.2.2⟩
  rw [hL] at kk2
  exact kk2
theorem mw_newq (hexec : p.tables.exec = Jvm.exec) (hb : c.code = cc) {own C : String} {index : Nat} (hown : s.vm.findClass own = some m.cls) (hclink : (Cond.classLink own index C).before args s = true) (hover : va_AO C s) (hM : mw D cl lo L κ H) (hS : va_S (fun q => lo ≤ q) H0 H locs) (i : Nat)
    {a : Int} (ha : 0 ≤ a ∧ a < 2147483648) (hbytes : a.toNat * 4 ≤ 536870912) (hcells : cells + 1 ≤ R.cells) (hslots : slots + a.toNat ≤ R.slots) (hdg : decode cc pc = .ok (.anewarray index, 3))
    (kk : ∀ (L1 : Nat → Nat) (κ1 : Nat → Option va_E) (cA : ClassId) (H1 : Heap), s.vm.findClass ("[" ++ (FieldType.object C).toString) = some cA → κ1 i = some (.inl (cA, a.toNat, .inr (.inr (.inr (.inr (fun _ => none)))))) → (∀ r, r ≠ i → κ1 r = κ r) → (∀ r, r ≠ i → L1 r = L r) → mw D cl lo L1 κ1 H1 → va_S (fun q => lo ≤ q) H0 H1 locs →
      W p l e R s m args below meth c H1 locs (cells + 1) (slots + a.toNat) Q (F0 m (pc + 3) ls (.ref (L1 i) :: rest))) : W p l e R s m args below meth c H locs cells slots Q (F0 m pc ls (.int (iI a) :: rest)) := by
  have hcl := iI_clamp ha
  refine W.anew hexec hb hown hclink (va_AO.use hover) rfl hdg rfl (iI_nn ha) (by rw [hcl]; exact hbytes) hcells (by rw [hcl]; exact hslots) fun cA kA comp f1 f2 f3 f4 => ?_
  rw [hcl]
  generalize hH1 : H.push ({ cls := cA, slots := Array.replicate a.toNat .null, vm := .none } : Cell) = H1
  have z1 : H1.size = H.size + 1 := by rw [← hH1, Array.size_push]
  have e1 : H1[H.size]? = some (arrV cA a.toNat (fun _ => .null)) := by rw [← hH1, Array.getElem?_push_size, ← arrV_new]
  have o1 : ∀ q : Nat, q < H.size → H1[q]? = H[q]? := fun q hq => by rw [← hH1, Array.getElem?_push, if_neg (Nat.ne_of_lt hq)]
  have hL : (va_up L i H.size) i = H.size := va_up_self _ _ _
  have kk2 := kk (va_up L i H.size) (va_up κ i (some (.inl (cA, a.toNat, .inr (.inr (.inr (.inr (fun _ => none)))))))) cA H1 f1 (va_up_self _ _ _) (fun r hr => va_up_ne _ _ hr) (fun r hr => va_up_ne _ _ hr) (mw_new hM i (by show H1[H.size]? = some (vp_cell _ _); rw [vp_cell_q]; exact e1) z1 o1) ⟨Nat.le_trans hS.1 (by omega), fun x h1 h2 => (o1 x (Nat.lt_of_lt_of_le h1 hS.1)).trans (hS.2.1 x h1 h2), hS.2.2⟩
  rw [hL] at kk2
  exact kk2
/-- System.arraycopy between byte arrays (they may be one) -/
theorem mw_copyb (hexec : p.tables.exec = Jvm.exec) (hb : c.code = cc) (hml : c.maxLocals = ls.size) {own : String} {index : Nat} (hown : s.vm.findClass own = some m.cls) (hlink : (Cond.methodLink own index arraycopyName).before args s = true) (hnat : (Cond.native arraycopyName).before args s = true) (hstat : (Cond.static arraycopyName).before args s = true) (hini : (Cond.initialized "java/lang/System").before args s = true)
    (hK : va_K D cl tys s) (hM : mw D cl lo L κ H) {qa qb : Nat} (hS : va_S (fun q => lo ≤ q) H0 H locs) (t0 t1 : Nat) {i j : Nat} {c0 c1 : ClassId} {n0 n1 : Nat} {f g : Nat → Int} (he0 : κ i = some (.inl (c0, n0, .inl (fun x => byt (f x))))) (he1 : κ j = some (.inl (c1, n1, .inl (fun x => byt (g x))))) (ht0 : tys[t0]? = some (c0, .byte)) (ht1 : tys[t1]? = some (c1, .byte))
    (hqa : L i = qa) (hqb : L j = qb) {sp dp n : Int} (hn0 : n0 < 2147483648) (hn1 : n1 < 2147483648) (h1 : 0 ≤ sp) (h2 : 0 ≤ dp) (h3 : 0 ≤ n) (h4 : sp + n ≤ n0) (h5 : dp + n ≤ n1)
    (hframes : 1 ≤ R.frames) (hlocals : (rest.map fun v => v.category).sum + (nativeFrameWords "java/lang/System" "arraycopy" 5 + 11) ≤ R.locals) (hdg : decode cc pc = .ok (.invokestatic index, 3))
    (kk : ∀ (κ1 : Nat → Option va_E) (H1 : Heap) (locs1 : List Loc), κ1 j = some (.inl (c1, n1, .inl (fun x => byt (va_cpy f g sp.toNat dp.toNat n.toNat x)))) → (∀ r, r ≠ j → κ1 r = κ r) → mw D cl lo L κ1 H1 → va_S (fun q => lo ≤ q) H0 H1 locs1 → W p l e R s m args below meth c H1 locs1 cells slots Q (F0 m (pc + 3) ls rest)) : W p l e R s m args below meth c H locs cells slots Q (F0 m pc ls (.int (iI n) :: .int (iI dp) :: .ref qb :: .int (iI sp) :: .ref qa :: rest)) := by
  subst hqa
  subst hqb
  have q1 : (iI sp).toInt = sp := iI_toInt ⟨by omega, by omega⟩
  have q2 : (iI dp).toInt = dp := iI_toInt ⟨by omega, by omega⟩
  have q3 : (iI n).toInt = n := iI_toInt ⟨by omega, by omega⟩
  have r1 : (iI sp).toNatClampNeg = sp.toNat := iI_clamp ⟨h1, by omega⟩
  have r2 : (iI dp).toNatClampNeg = dp.toNat := iI_clamp ⟨h2, by omega⟩
  have r3 : (iI n).toNatClampNeg = n.toNat := iI_clamp ⟨h3, by omega⟩
  intro T hT X
  have hc0 : H[L i]? = some (vp_cell c0 (n0, .inl (fun x => byt (f x)))) := (hM.2.1 i _ he0).2
  have hc1 : H[L j]? = some (vp_cell c1 (n1, .inl (fun x => byt (g x)))) := (hM.2.1 j _ he1).2
  obtain ⟨-, k0, hk0, cm0, hkk0⟩ := (hK.2 t0 _ ht0).1 n0 (fun j => .int (byt (f j)))
  obtain ⟨-, k1, hk1, cm1, hkk1⟩ := (hK.2 t1 _ ht1).1 n1 (fun j => .int (byt (g j)))
  obtain ⟨vm', X', step⟩ := X.arraycopy hexec hown hlink hnat hstat hini (src := L i) (dst := L j) (cs := vp_cell c0 (n0, .inl (fun x => byt (f x)))) (cd := vp_cell c1 (n1, .inl (fun x => byt (g x)))) (srcPos := iI sp) (destPos := iI dp) (n := iI n) (by rw [hT]; exact hc0) (by rw [hT]; exact hc1)
    (fun _ h => by cases h) (fun _ h => by cases h) (fun h => by cases h) (fun h => by cases h) hk0 hk1 hkk0 hkk1 (by simp [refKind]) (iI_nn ⟨h1, by omega⟩) (iI_nn ⟨h2, by omega⟩) (iI_nn ⟨h3, by omega⟩)
    (by rw [q1, q3]; show ¬ _ > ((arrV c0 n0 (fun j => .int (byt (f j)))).slots.size : Int); rw [arrV_size]; omega)
    (by rw [q2, q3]; show ¬ _ > ((arrV c1 n1 (fun j => .int (byt (g j)))).slots.size : Int); rw [arrV_size]; omega)
    (fun vm₁ _ k hk => by
      rw [r3] at hk
      have e : (vp_cell c0 (n0, .inl (fun x => byt (f x)))).slots.getD ((iI sp).toNatClampNeg + k) .null = .int (byt (f ((iI sp).toNatClampNeg + k))) := by
        show (arrV c0 n0 (fun j => .int (byt (f j)))).slots.getD _ _ = _
        rw [Array.getD_eq_getD_getElem?, arrV_read _ _ (by rw [r1]; omega)]
        rfl
      refine ⟨?_, ?_⟩
      · rw [e]
        exact byt_fit _
      · rw [e]
        exact trivial)
    (g := F0 m pc ls (.int (iI n) :: .int (iI dp) :: .ref (L j) :: .int (iI sp) :: .ref (L i) :: rest)) rfl (by rw [hml]) (rest := rest) rfl (by rw [hb]; exact hdg) hframes (by show 2 * 0 + _ + _ ≤ _; omega)
  have e1 : copied (vp_cell c0 (n0, .inl (fun x => byt (f x)))) (vp_cell c1 (n1, .inl (fun x => byt (g x)))) (iI sp) (iI dp) (iI n) = vp_cell c1 (n1, .inl (fun x => byt (va_cpy f g sp.toNat dp.toNat n.toNat x))) := by
    rw [show copied (vp_cell c0 (n0, .inl (fun x => byt (f x)))) (vp_cell c1 (n1, .inl (fun x => byt (g x)))) (iI sp) (iI dp) (iI n) = vp_cell c1 (n1, .inl (va_cpy (fun x => byt (f x)) (fun x => byt (g x)) (iI sp).toNatClampNeg (iI dp).toNatClampNeg (iI n).toNatClampNeg)) from va_copied (n0 := n0) (n1 := n1) (sp := (iI sp).toNatClampNeg) (dp := (iI dp).toNatClampNeg) (n := (iI n).toNatClampNeg) (fun z : Int32 => Value.int z) c0 c1 (fun x => byt (f x)) (fun x => byt (g x)) (by rw [r1, r3]; omega)]
    rw [r1, r2, r3]
    congr 3
    funext x
    simp only [va_cpy]
    split <;> rfl
  rw [e1] at X' step
  have hl : L j < H.size := (Array.getElem?_eq_some_iff.mp hc1).1
  generalize hcell : vp_cell c1 (n1, .inl (fun x => byt (va_cpy f g sp.toNat dp.toNat n.toNat x))) = NC at X' step e1
  have hheap : ((T.setVm vm').setCell (L j) NC).heap = H.setIfInBounds (L j) NC := by rw [← hT]; rfl
  have oq : ∀ q : Nat, q ≠ L j → (H.setIfInBounds (L j) NC)[q]? = H[q]? := fun q hq => by simp [Array.getElem?_setIfInBounds, Ne.symm hq]
  obtain ⟨t, a1, b1⟩ := kk _ _ _ (va_up_self _ _ _) (fun r hr => va_up_ne _ _ hr) (mw_set hM he1 (show (H.setIfInBounds (L j) NC)[L j]? = some (vp_cell _ _) by rw [hcell]; simp [Array.getElem?_setIfInBounds, hl]) (by simp) oq) ⟨by simp; exact hS.1, fun q g1 g2 => by
      rw [oq q (fun e => g2 (by rw [e]; exact (hM.2.1 j _ he1).1))]
      exact hS.2.1 q g1 g2, fun q hq => by
      rcases List.mem_append.mp hq with h | h
      · exact hS.2.2 q h
      · obtain ⟨z, -, hz⟩ := List.mem_map.mp h
        rw [← hz]
        exact (hM.2.1 j _ he1).1⟩ _ hheap X'
  exact ⟨t, step t a1, b1⟩
/-! ints -/
theorem ia_add (hexec : p.tables.exec = Jvm.exec) (hb : c.code = cc) {a b : Int} (hdg : decode cc pc = .ok (.iadd, 1)) (k : W p l e R s m args below meth c H locs cells slots Q (F0 m (pc + 1) ls (.int (iI (a + b)) :: rest))) : W p l e R s m args below meth c H locs cells slots Q (F0 m pc ls (.int (iI b) :: .int (iI a) :: rest)) := lv_iadd hexec hb hdg (by rw [iI_add]; exact k)
theorem ia_sub (hexec : p.tables.exec = Jvm.exec) (hb : c.code = cc) {a b : Int} (hdg : decode cc pc = .ok (.isub, 1)) (k : W p l e R s m args below meth c H locs cells slots Q (F0 m (pc + 1) ls (.int (iI (a - b)) :: rest))) : W p l e R s m args below meth c H locs cells slots Q (F0 m pc ls (.int (iI b) :: .int (iI a) :: rest)) := lv_isub hexec hb hdg (by rw [iI_sub]; exact k)
theorem ia_mul (hexec : p.tables.exec = Jvm.exec) (hb : c.code = cc) {a b : Int} (hdg : decode cc pc = .ok (.imul, 1)) (k : W p l e R s m args below meth c H locs cells slots Q (F0 m (pc + 1) ls (.int (iI (a * b)) :: rest))) : W p l e R s m args below meth c H locs cells slots Q (F0 m pc ls (.int (iI b) :: .int (iI a) :: rest)) := lv_imul hexec hb hdg (by rw [iI_mul]; exact k)
theorem ia_div (hexec : p.tables.exec = Jvm.exec) (hb : c.code = cc) {a b : Int} (ha : 0 ≤ a ∧ a < 2147483648) (hb2 : 0 < b ∧ b < 2147483648) (hdg : decode cc pc = .ok (.idiv, 1)) (k : W p l e R s m args below meth c H locs cells slots Q (F0 m (pc + 1) ls (.int (iI (a / b)) :: rest))) : W p l e R s m args below meth c H locs cells slots Q (F0 m pc ls (.int (iI b) :: .int (iI a) :: rest)) := lv_idiv hexec hb hdg (fun h => by have := (iI_eq (a := b) (b := 0) (by omega) (by omega)).mp h; omega) (by rw [iI_div ha hb2]; exact k)
theorem ia_rem (hexec : p.tables.exec = Jvm.exec) (hb : c.code = cc) {a b : Int} (ha : 0 ≤ a ∧ a < 2147483648) (hb2 : 0 < b ∧ b < 2147483648) (hdg : decode cc pc = .ok (.irem, 1)) (k : W p l e R s m args below meth c H locs cells slots Q (F0 m (pc + 1) ls (.int (iI (a % b)) :: rest))) : W p l e R s m args below meth c H locs cells slots Q (F0 m pc ls (.int (iI b) :: .int (iI a) :: rest)) := lv_irem hexec hb hdg (fun h => by have := (iI_eq (a := b) (b := 0) (by omega) (by omega)).mp h; omega) (by rw [iI_rem ha hb2]; exact k)
theorem ia_and255 (hexec : p.tables.exec = Jvm.exec) (hb : c.code = cc) {a : Int} (hdg : decode cc pc = .ok (.iand, 1)) (k : W p l e R s m args below meth c H locs cells slots Q (F0 m (pc + 1) ls (.int (iI (a % 256)) :: rest))) : W p l e R s m args below meth c H locs cells slots Q (F0 m pc ls (.int (iI 255) :: .int (iI a) :: rest)) := lv_iand hexec hb hdg (by rw [iI_and255]; exact k)
theorem ia_andb (hexec : p.tables.exec = Jvm.exec) (hb : c.code = cc) {a : Int} (hdg : decode cc pc = .ok (.iand, 1)) (k : W p l e R s m args below meth c H locs cells slots Q (F0 m (pc + 1) ls (.int (iI (a % 256)) :: rest))) : W p l e R s m args below meth c H locs cells slots Q (F0 m pc ls (.int (iI 255) :: .int (byt a) :: rest)) := lv_iand hexec hb hdg (by rw [byt_and]; exact k)
theorem ia_i2b (hexec : p.tables.exec = Jvm.exec) (hb : c.code = cc) {a : Int} (hdg : decode cc pc = .ok (.i2b, 1)) (k : W p l e R s m args below meth c H locs cells slots Q (F0 m (pc + 1) ls (.int (byt a) :: rest))) : W p l e R s m args below meth c H locs cells slots Q (F0 m pc ls (.int (iI a) :: rest)) := lv_i2b hexec hb hdg rfl k
theorem ia_i2l (hexec : p.tables.exec = Jvm.exec) (hb : c.code = cc) {a : Int} (ha : -2147483648 ≤ a ∧ a < 2147483648) (hdg : decode cc pc = .ok (.i2l, 1)) (k : W p l e R s m args below meth c H locs cells slots Q (F0 m (pc + 1) ls (.long (lI a) :: rest))) : W p l e R s m args below meth c H locs cells slots Q (F0 m pc ls (.int (iI a) :: rest)) := lv_i2l hexec hb hdg (lI_of ha) k
theorem ia_l2i (hexec : p.tables.exec = Jvm.exec) (hb : c.code = cc) {a : Int} (hdg : decode cc pc = .ok (.l2i, 1)) (k : W p l e R s m args below meth c H locs cells slots Q (F0 m (pc + 1) ls (.int (iI a) :: rest))) : W p l e R s m args below meth c H locs cells slots Q (F0 m pc ls (.long (lI a) :: rest)) := lv_l2i hexec hb hdg (lI_i a) k
theorem ia_ladd (hexec : p.tables.exec = Jvm.exec) (hb : c.code = cc) {a b : Int} (hdg : decode cc pc = .ok (.ladd, 1)) (k : W p l e R s m args below meth c H locs cells slots Q (F0 m (pc + 1) ls (.long (lI (a + b)) :: rest))) : W p l e R s m args below meth c H locs cells slots Q (F0 m pc ls (.long (lI b) :: .long (lI a) :: rest)) := lv_ladd hexec hb hdg (by rw [lI_add]; exact k)
theorem ia_icmp_eq (hexec : p.tables.exec = Jvm.exec) (hb : c.code = cc) {a b off : Int} {tgt : Nat} (hdg : decode cc pc = .ok (.if_icmp .eq off, 3)) (ht : (pc : Int) + off = (tgt : Int)) (ha : -2147483648 ≤ a ∧ a < 2147483648) (hb2 : -2147483648 ≤ b ∧ b < 2147483648) (kt : a = b → W p l e R s m args below meth c H locs cells slots Q (F0 m tgt ls rest)) (kf : ¬ (a = b) → W p l e R s m args below meth c H locs cells slots Q (F0 m (pc + 3) ls rest)) : W p l e R s m args below meth c H locs cells slots Q (F0 m pc ls (.int (iI b) :: .int (iI a) :: rest)) := lv_icmp_eq hexec hb hdg ht (fun h => kt ((iI_eq ha hb2).mp h)) (fun h => kf (fun q => h ((iI_eq ha hb2).mpr q)))
theorem ia_icmp_ne (hexec : p.tables.exec = Jvm.exec) (hb : c.code = cc) {a b off : Int} {tgt : Nat} (hdg : decode cc pc = .ok (.if_icmp .ne off, 3)) (ht : (pc : Int) + off = (tgt : Int)) (ha : -2147483648 ≤ a ∧ a < 2147483648) (hb2 : -2147483648 ≤ b ∧ b < 2147483648) (kt : ¬ a = b → W p l e R s m args below meth c H locs cells slots Q (F0 m tgt ls rest)) (kf : ¬ (¬ a = b) → W p l e R s m args below meth c H locs cells slots Q (F0 m (pc + 3) ls rest)) : W p l e R s m args below meth c H locs cells slots Q (F0 m pc ls (.int (iI b) :: .int (iI a) :: rest)) := lv_icmp_ne hexec hb hdg ht (fun h => kt ((not_congr (iI_eq ha hb2)).mp h)) (fun h => kf (fun q => q ((iI_eq ha hb2).mp h)))
theorem ia_icmp_lt (hexec : p.tables.exec = Jvm.exec) (hb : c.code = cc) {a b off : Int} {tgt : Nat} (hdg : decode cc pc = .ok (.if_icmp .lt off, 3)) (ht : (pc : Int) + off = (tgt : Int)) (ha : -2147483648 ≤ a ∧ a < 2147483648) (hb2 : -2147483648 ≤ b ∧ b < 2147483648) (kt : a < b → W p l e R s m args below meth c H locs cells slots Q (F0 m tgt ls rest)) (kf : ¬ (a < b) → W p l e R s m args below meth c H locs cells slots Q (F0 m (pc + 3) ls rest)) : W p l e R s m args below meth c H locs cells slots Q (F0 m pc ls (.int (iI b) :: .int (iI a) :: rest)) := lv_icmp_lt hexec hb hdg ht (fun h => kt ((iI_lt ha hb2).mp h)) (fun h => kf (fun q => h ((iI_lt ha hb2).mpr q)))
theorem ia_icmp_ge (hexec : p.tables.exec = Jvm.exec) (hb : c.code = cc) {a b off : Int} {tgt : Nat} (hdg : decode cc pc = .ok (.if_icmp .ge off, 3)) (ht : (pc : Int) + off = (tgt : Int)) (ha : -2147483648 ≤ a ∧ a < 2147483648) (hb2 : -2147483648 ≤ b ∧ b < 2147483648) (kt : b ≤ a → W p l e R s m args below meth c H locs cells slots Q (F0 m tgt ls rest)) (kf : ¬ (b ≤ a) → W p l e R s m args below meth c H locs cells slots Q (F0 m (pc + 3) ls rest)) : W p l e R s m args below meth c H locs cells slots Q (F0 m pc ls (.int (iI b) :: .int (iI a) :: rest)) := lv_icmp_ge hexec hb hdg ht (fun h => kt ((iI_le hb2 ha).mp h)) (fun h => kf (fun q => h ((iI_le hb2 ha).mpr q)))
theorem ia_icmp_gt (hexec : p.tables.exec = Jvm.exec) (hb : c.code = cc) {a b off : Int} {tgt : Nat} (hdg : decode cc pc = .ok (.if_icmp .gt off, 3)) (ht : (pc : Int) + off = (tgt : Int)) (ha : -2147483648 ≤ a ∧ a < 2147483648) (hb2 : -2147483648 ≤ b ∧ b < 2147483648) (kt : b < a → W p l e R s m args below meth c H locs cells slots Q (F0 m tgt ls rest)) (kf : ¬ (b < a) → W p l e R s m args below meth c H locs cells slots Q (F0 m (pc + 3) ls rest)) : W p l e R s m args below meth c H locs cells slots Q (F0 m pc ls (.int (iI b) :: .int (iI a) :: rest)) := lv_icmp_gt hexec hb hdg ht (fun h => kt ((iI_lt hb2 ha).mp h)) (fun h => kf (fun q => h ((iI_lt hb2 ha).mpr q)))
theorem ia_icmp_le (hexec : p.tables.exec = Jvm.exec) (hb : c.code = cc) {a b off : Int} {tgt : Nat} (hdg : decode cc pc = .ok (.if_icmp .le off, 3)) (ht : (pc : Int) + off = (tgt : Int)) (ha : -2147483648 ≤ a ∧ a < 2147483648) (hb2 : -2147483648 ≤ b ∧ b < 2147483648) (kt : a ≤ b → W p l e R s m args below meth c H locs cells slots Q (F0 m tgt ls rest)) (kf : ¬ (a ≤ b) → W p l e R s m args below meth c H locs cells slots Q (F0 m (pc + 3) ls rest)) : W p l e R s m args below meth c H locs cells slots Q (F0 m pc ls (.int (iI b) :: .int (iI a) :: rest)) := lv_icmp_le hexec hb hdg ht (fun h => kt ((iI_le ha hb2).mp h)) (fun h => kf (fun q => h ((iI_le ha hb2).mpr q)))
theorem ia_if_eq (hexec : p.tables.exec = Jvm.exec) (hb : c.code = cc) {a off : Int} {tgt : Nat} (hdg : decode cc pc = .ok (.ifCond .eq off, 3)) (ht : (pc : Int) + off = (tgt : Int)) (ha : -2147483648 ≤ a ∧ a < 2147483648) (kt : a = 0 → W p l e R s m args below meth c H locs cells slots Q (F0 m tgt ls rest)) (kf : ¬ (a = 0) → W p l e R s m args below meth c H locs cells slots Q (F0 m (pc + 3) ls rest)) : W p l e R s m args below meth c H locs cells slots Q (F0 m pc ls (.int (iI a) :: rest)) := by
  have h0 : -2147483648 ≤ (0 : Int) ∧ (0 : Int) < 2147483648 := by omega
  exact lv_if_eq hexec hb hdg ht (fun h => kt ((iI_eq ha h0).mp h)) (fun h => kf (fun q => h ((iI_eq ha h0).mpr q)))
theorem ia_if_ne (hexec : p.tables.exec = Jvm.exec) (hb : c.code = cc) {a off : Int} {tgt : Nat} (hdg : decode cc pc = .ok (.ifCond .ne off, 3)) (ht : (pc : Int) + off = (tgt : Int)) (ha : -2147483648 ≤ a ∧ a < 2147483648) (kt : ¬ a = 0 → W p l e R s m args below meth c H locs cells slots Q (F0 m tgt ls rest)) (kf : ¬ (¬ a = 0) → W p l e R s m args below meth c H locs cells slots Q (F0 m (pc + 3) ls rest)) : W p l e R s m args below meth c H locs cells slots Q (F0 m pc ls (.int (iI a) :: rest)) := by
  have h0 : -2147483648 ≤ (0 : Int) ∧ (0 : Int) < 2147483648 := by omega
  exact lv_if_ne hexec hb hdg ht (fun h => kt ((not_congr (iI_eq ha h0)).mp h)) (fun h => kf (fun q => q ((iI_eq ha h0).mp h)))
theorem ia_if_lt (hexec : p.tables.exec = Jvm.exec) (hb : c.code = cc) {a off : Int} {tgt : Nat} (hdg : decode cc pc = .ok (.ifCond .lt off, 3)) (ht : (pc : Int) + off = (tgt : Int)) (ha : -2147483648 ≤ a ∧ a < 2147483648) (kt : a < 0 → W p l e R s m args below meth c H locs cells slots Q (F0 m tgt ls rest)) (kf : ¬ (a < 0) → W p l e R s m args below meth c H locs cells slots Q (F0 m (pc + 3) ls rest)) : W p l e R s m args below meth c H locs cells slots Q (F0 m pc ls (.int (iI a) :: rest)) := by
  have h0 : -2147483648 ≤ (0 : Int) ∧ (0 : Int) < 2147483648 := by omega
  exact lv_if_lt hexec hb hdg ht (fun h => kt ((iI_lt ha h0).mp h)) (fun h => kf (fun q => h ((iI_lt ha h0).mpr q)))
theorem ia_if_ge (hexec : p.tables.exec = Jvm.exec) (hb : c.code = cc) {a off : Int} {tgt : Nat} (hdg : decode cc pc = .ok (.ifCond .ge off, 3)) (ht : (pc : Int) + off = (tgt : Int)) (ha : -2147483648 ≤ a ∧ a < 2147483648) (kt : 0 ≤ a → W p l e R s m args below meth c H locs cells slots Q (F0 m tgt ls rest)) (kf : ¬ (0 ≤ a) → W p l e R s m args below meth c H locs cells slots Q (F0 m (pc + 3) ls rest)) : W p l e R s m args below meth c H locs cells slots Q (F0 m pc ls (.int (iI a) :: rest)) := by
  have h0 : -2147483648 ≤ (0 : Int) ∧ (0 : Int) < 2147483648 := by omega
  exact lv_if_ge hexec hb hdg ht (fun h => kt ((iI_le h0 ha).mp h)) (fun h => kf (fun q => h ((iI_le h0 ha).mpr q)))
theorem ia_if_gt (hexec : p.tables.exec = Jvm.exec) (hb : c.code = cc) {a off : Int} {tgt : Nat} (hdg : decode cc pc = .ok (.ifCond .gt off, 3)) (ht : (pc : Int) + off = (tgt : Int)) (ha : -2147483648 ≤ a ∧ a < 2147483648) (kt : 0 < a → W p l e R s m args below meth c H locs cells slots Q (F0 m tgt ls rest)) (kf : ¬ (0 < a) → W p l e R s m args below meth c H locs cells slots Q (F0 m (pc + 3) ls rest)) : W p l e R s m args below meth c H locs cells slots Q (F0 m pc ls (.int (iI a) :: rest)) := by
  have h0 : -2147483648 ≤ (0 : Int) ∧ (0 : Int) < 2147483648 := by omega
  exact lv_if_gt hexec hb hdg ht (fun h => kt ((iI_lt h0 ha).mp h)) (fun h => kf (fun q => h ((iI_lt h0 ha).mpr q)))
theorem ia_if_le (hexec : p.tables.exec = Jvm.exec) (hb : c.code = cc) {a off : Int} {tgt : Nat} (hdg : decode cc pc = .ok (.ifCond .le off, 3)) (ht : (pc : Int) + off = (tgt : Int)) (ha : -2147483648 ≤ a ∧ a < 2147483648) (kt : a ≤ 0 → W p l e R s m args below meth c H locs cells slots Q (F0 m tgt ls rest)) (kf : ¬ (a ≤ 0) → W p l e R s m args below meth c H locs cells slots Q (F0 m (pc + 3) ls rest)) : W p l e R s m args below meth c H locs cells slots Q (F0 m pc ls (.int (iI a) :: rest)) := by
  have h0 : -2147483648 ≤ (0 : Int) ∧ (0 : Int) < 2147483648 := by omega
  exact lv_if_le hexec hb hdg ht (fun h => kt ((iI_le ha h0).mp h)) (fun h => kf (fun q => h ((iI_le ha h0).mpr q)))
theorem ia_ifz_eq (hexec : p.tables.exec = Jvm.exec) (hb : c.code = cc) {x : Bool} {off : Int} {tgt : Nat} (hdg : decode cc pc = .ok (.ifCond .eq off, 3)) (ht : (pc : Int) + off = (tgt : Int)) (kt : x = false → W p l e R s m args below meth c H locs cells slots Q (F0 m tgt ls rest)) (kf : x = true → W p l e R s m args below meth c H locs cells slots Q (F0 m (pc + 3) ls rest)) : W p l e R s m args below meth c H locs cells slots Q (F0 m pc ls (.int (iI (bI x)) :: rest)) := by
  refine lv_if_eq hexec hb hdg ht (fun h => kt ?_) (fun h => kf ?_)
  · cases x
    · rfl
    · exact absurd h (by decide)
  · cases x
    · exact absurd rfl h
    · rfl
theorem ia_ifz_ne (hexec : p.tables.exec = Jvm.exec) (hb : c.code = cc) {x : Bool} {off : Int} {tgt : Nat} (hdg : decode cc pc = .ok (.ifCond .ne off, 3)) (ht : (pc : Int) + off = (tgt : Int)) (kt : x = true → W p l e R s m args below meth c H locs cells slots Q (F0 m tgt ls rest)) (kf : x = false → W p l e R s m args below meth c H locs cells slots Q (F0 m (pc + 3) ls rest)) : W p l e R s m args below meth c H locs cells slots Q (F0 m pc ls (.int (iI (bI x)) :: rest)) := by
  refine lv_if_ne hexec hb hdg ht (fun h => kt ?_) (fun h => kf ?_)
  · cases x
    · exact absurd rfl h
    · rfl
  · cases x
    · rfl
    · exact absurd h (by decide)
theorem ia_ishr (hexec : p.tables.exec = Jvm.exec) (hb : c.code = cc) {a k : Int} (ha : -2147483648 ≤ a ∧ a < 2147483648) (hk : 0 ≤ k ∧ k < 32) (hdg : decode cc pc = .ok (.ishr, 1)) (kk : W p l e R s m args below meth c H locs cells slots Q (F0 m (pc + 1) ls (.int (iI (a / 2 ^ k.toNat)) :: rest))) : W p l e R s m args below meth c H locs cells slots Q (F0 m pc ls (.int (iI k) :: .int (iI a) :: rest)) := lv_ishr hexec hb hdg (by rw [iI_shr ha hk]; exact kk)
theorem ia_lshr (hexec : p.tables.exec = Jvm.exec) (hb : c.code = cc) {a k : Int} (ha : -9223372036854775808 ≤ a ∧ a < 9223372036854775808) (hk : 0 ≤ k ∧ k < 64) (hdg : decode cc pc = .ok (.lshr, 1)) (kk : W p l e R s m args below meth c H locs cells slots Q (F0 m (pc + 1) ls (.long (lI (a / 2 ^ k.toNat)) :: rest))) : W p l e R s m args below meth c H locs cells slots Q (F0 m pc ls (.int (iI k) :: .long (lI a) :: rest)) := lv_lshr hexec hb hdg (lI_shr ha hk) kk
theorem ia_lshl8 (hexec : p.tables.exec = Jvm.exec) (hb : c.code = cc) {a : Int} (hdg : decode cc pc = .ok (.lshl, 1)) (kk : W p l e R s m args below meth c H locs cells slots Q (F0 m (pc + 1) ls (.long (lI (a * 256)) :: rest))) : W p l e R s m args below meth c H locs cells slots Q (F0 m pc ls (.int (iI 8) :: .long (lI a) :: rest)) := lv_lshl hexec hb hdg (lI_shl a (by decide)) kk
theorem ia_lor8 (hexec : p.tables.exec = Jvm.exec) (hb : c.code = cc) {a b : Int} (hb2 : 0 ≤ b ∧ b < 256) (hdg : decode cc pc = .ok (.lor, 1)) (kk : W p l e R s m args below meth c H locs cells slots Q (F0 m (pc + 1) ls (.long (lI (a * 256 + b)) :: rest))) : W p l e R s m args below meth c H locs cells slots Q (F0 m pc ls (.long (lI b) :: .long (lI (a * 256)) :: rest)) := lv_lor hexec hb hdg (by rw [lI_or8 a hb2]; exact kk)
theorem ia_lcmp (hexec : p.tables.exec = Jvm.exec) (hb : c.code = cc) {a b : Int} (ha : -9223372036854775808 ≤ a ∧ a < 9223372036854775808) (hb2 : -9223372036854775808 ≤ b ∧ b < 9223372036854775808) (hdg : decode cc pc = .ok (.lcmp, 1)) (kk : W p l e R s m args below meth c H locs cells slots Q (F0 m (pc + 1) ls (.int (iI (cmpI a b)) :: rest))) : W p l e R s m args below meth c H locs cells slots Q (F0 m pc ls (.long (lI b) :: .long (lI a) :: rest)) := W.lcmp hexec hb hdg (by rw [lI_cmp ha hb2]; exact kk)
end MR
/-! read-only contracts: the answer r, the world as it was -/
def mwR (r : Option Value) (L : Nat → Nat) (κ : Nat → Option va_E) : Option Value → (Nat → Nat) → (Nat → Option va_E) → Prop := fun v L1 κ1 => v = r ∧ L1 = L ∧ κ1 = κ
theorem mwR_i {a b : Int} {L : Nat → Nat} {κ : Nat → Option va_E} (h : a = b) : mwR (some (.int (iI b))) L κ (some (.int (iI a))) L κ := ⟨by rw [h], rfl, rfl⟩
theorem mwR_l {a b : Int} {L : Nat → Nat} {κ : Nat → Option va_E} (h : a = b) : mwR (some (.long (lI b))) L κ (some (.long (lI a))) L κ := ⟨by rw [h], rfl, rfl⟩
theorem mwR_z {a b : Bool} {L : Nat → Nat} {κ : Nat → Option va_E} (h : a = b) : mwR (some (.int (iI (bI b)))) L κ (some (.int (iI (bI a)))) L κ := ⟨by rw [h], rfl, rfl⟩
section MRO
variable {p : Program} {l : Launch} {e : Env} {R : Room} {s : State} {m : MethodId} {args : Array Value} {below : List Frame} {meth : Method} {c : Code} {H : Heap} {locs : List Loc} {cells slots : Nat} {Q : State → Prop}
variable {cc : ByteArray} {pc : Nat} {ls : Array Slot} {rest : List Value} {D : va_G} {cl : List vw_C} {lo : Nat} {L : Nat → Nat} {κ : Nat → Option va_E} {tys : List (ClassId × FieldType)} {H0 : Heap}
variable {y : MethodName} {bytes : ByteArray} {maxL nL n index : Nat} {ret : Option FieldType} {ws : List Cond} {rm : Room} {Ts : List Cond} {own C : String} {As st0 : List Value} {r0 : Option Value}
theorem mw_rdV (S : CallFix p m c cc nL s args Ts own) (hK : va_K D cl tys s) (hM : mw D cl lo L κ H) (hS : va_S (fun q => lo ≤ q) H0 H locs) {i ci : Nat} {fs : List Value} {r : vw_C} {qa : Nat} (hqa : L i = qa) (he : κ i = some (.inr (ci, fs))) (hc : cl[ci]? = some r)
    (hm : Met l y ws rm (mwP D cl tys lo L κ (.ref (L i) :: As)) (mwQ D cl lo (mwR r0 L κ)) 0 0 (fun q => lo ≤ q)) (cw : CallW R s args own r.1 index y bytes maxL ret ws rm 0 0 n) (hn : As.length = n) (hl : ls.size = nL) (hst : st0 = As.reverse ++ .ref qa :: rest) (hW : (rest.map fun v => v.category).sum ≤ 8) (hdg : decode cc pc = .ok (.invokevirtual index, 3)) (hf : cells ≤ R.cells ∧ slots ≤ R.slots)
    (kk : ∀ (H : Heap) (locs : List Loc), mw D cl lo L κ H → va_S (fun q => lo ≤ q) H0 H locs → W p l e R s m args below meth c H locs cells slots Q (F0 m (pc + 3) ls (r0.toList ++ rest))) : W p l e R s m args below meth c H locs cells slots Q (F0 m pc ls st0) :=
  mw_callV S hK hM hS hqa he hc hm cw hn hl hst hW hdg hf (fun v L1 κ1 H1 locs1 hp hM1 hS1 => by
    obtain ⟨e1, e2, e3⟩ := hp
    subst e1; subst e2; subst e3
    exact kk H1 locs1 hM1 hS1)
theorem mw_rdS (S : CallFix p m c cc nL s args Ts own) (hK : va_K D cl tys s) (hM : mw D cl lo L κ H) (hS : va_S (fun q => lo ≤ q) H0 H locs)
    (hm : Met l y ws rm (mwP D cl tys lo L κ As) (mwQ D cl lo (mwR r0 L κ)) 0 0 (fun q => lo ≤ q)) (cw : CallB R s args own index y bytes maxL ret ws rm 0 0 n ∧ (Cond.static y).before args s = true) (hn : As.length = n) (hl : ls.size = nL) (hst : st0 = As.reverse ++ rest) (hW : (rest.map fun v => v.category).sum ≤ 8) (hdg : decode cc pc = .ok (.invokestatic index, 3)) (hf : cells ≤ R.cells ∧ slots ≤ R.slots)
    (kk : ∀ (H : Heap) (locs : List Loc), mw D cl lo L κ H → va_S (fun q => lo ≤ q) H0 H locs → W p l e R s m args below meth c H locs cells slots Q (F0 m (pc + 3) ls (r0.toList ++ rest))) : W p l e R s m args below meth c H locs cells slots Q (F0 m pc ls st0) :=
  mw_callS S hK hM hS hm cw hn hl hst hW hdg hf (fun v L1 κ1 H1 locs1 hp hM1 hS1 => by
    obtain ⟨e1, e2, e3⟩ := hp
    subst e1; subst e2; subst e3
    exact kk H1 locs1 hM1 hS1)
end MRO
end
section
/-! BYTES: a row is b : Nat → Int (each 0 .. 255, 0 behind the row's end), of which the first sz count -/
def bGet (b : Nat → Int) (sz : Nat) (a : Int) : Int := if 0 ≤ a ∧ a < sz then b a.toNat else -1
theorem bGet_in {b : Nat → Int} {sz : Nat} {a : Int} (h1 : 0 ≤ a) (h2 : a < sz) : bGet b sz a = b a.toNat := if_pos ⟨h1, h2⟩
theorem bGet_out {b : Nat → Int} {sz : Nat} {a : Int} (h : a < 0 ∨ sz ≤ a) : bGet b sz a = -1 := if_neg (by omega)
theorem bGet_r {b : Nat → Int} {sz : Nat} (hb : ∀ x, 0 ≤ b x ∧ b x < 256) (a : Int) : -1 ≤ bGet b sz a ∧ bGet b sz a < 256 := by
  unfold bGet
  have := hb a.toNat
  split <;> omega
def bHas (sz : Nat) (n m : Int) : Bool := decide (0 ≤ n ∧ 0 ≤ m ∧ n ≤ sz ∧ m ≤ sz - n)
theorem bHas_t {sz : Nat} {n m : Int} (h : 0 ≤ n ∧ 0 ≤ m ∧ n ≤ sz ∧ m ≤ sz - n) : true = bHas sz n m := (decide_eq_true h).symm
theorem bHas_f {sz : Nat} {n m : Int} (h : ¬ (0 ≤ n ∧ 0 ≤ m ∧ n ≤ sz ∧ m ≤ sz - n)) : false = bHas sz n m := (decide_eq_false h).symm
theorem bHas_iff {sz : Nat} {n m : Int} : bHas sz n m = true ↔ (0 ≤ n ∧ 0 ≤ m ∧ n ≤ sz ∧ m ≤ sz - n) := decide_eq_true_iff
def bPut (b : Nat → Int) (sz : Nat) (a v : Int) : Nat → Int := if 0 ≤ a ∧ a < sz then va_up b a.toNat (v % 256) else b
def bFzN (b : Nat → Int) (sz : Nat) : Nat → Int → Int
  | 0, _ => -1
  | N + 1, k => if bGet b sz k = 0 then k else bFzN b sz N (k + 1)
def bFz (b : Nat → Int) (sz : Nat) (k to : Int) : Int := bFzN b sz (to - k).toNat k
theorem bFz_end {b : Nat → Int} {sz : Nat} {k to : Int} (h : to ≤ k) : bFz b sz k to = -1 := by
  unfold bFz
  rw [show (to - k).toNat = 0 by omega]
  rfl
theorem bFz_step {b : Nat → Int} {sz : Nat} {k to : Int} (h : k < to) : bFz b sz k to = if bGet b sz k = 0 then k else bFz b sz (k + 1) to := by
  unfold bFz
  rw [show (to - k).toNat = (to - (k + 1)).toNat + 1 by omega]
  rfl
/-- the bytes at, at + 1 .. as a number, lowest first -/
def bNumN (b : Nat → Int) (sz : Nat) (at_ : Int) : Nat → Int → Int
  | 0, acc => acc
  | N + 1, acc => bNumN b sz at_ N (acc * 256 + bGet b sz (at_ + N) % 256)
def bNum (b : Nat → Int) (sz : Nat) (at_ k acc : Int) : Int := bNumN b sz at_ (k + 1).toNat acc
theorem bNum_end {b : Nat → Int} {sz : Nat} {at_ k acc : Int} (h : k < 0) : bNum b sz at_ k acc = acc := by
  unfold bNum
  rw [show (k + 1).toNat = 0 by omega]
  rfl
theorem bNum_step {b : Nat → Int} {sz : Nat} {at_ k acc : Int} (h : 0 ≤ k) : bNum b sz at_ k acc = bNum b sz at_ (k + (-1)) (acc * 256 + bGet b sz (at_ + k) % 256) := by
  unfold bNum
  rw [show (k + 1).toNat = (k + (-1) + 1).toNat + 1 by omega]
  show bNumN b sz at_ _ (acc * 256 + bGet b sz (at_ + ((k + (-1) + 1).toNat : Int)) % 256) = _
  rw [show (((k + (-1) + 1).toNat : Nat) : Int) = k by omega]
def bPnN (sz : Nat) (at_ v : Int) : Nat → Int → (Nat → Int) → Nat → Int
  | 0, _, b => b
  | N + 1, k, b => bPnN sz at_ v N (k + 1) (bPut b sz (at_ + k) (v / 2 ^ (8 * k).toNat))
def bPn (sz : Nat) (at_ v w k : Int) (b : Nat → Int) : Nat → Int := bPnN sz at_ v (w - k).toNat k b
theorem bPn_end {sz : Nat} {at_ v w k : Int} {b : Nat → Int} (h : w ≤ k) : bPn sz at_ v w k b = b := by
  unfold bPn
  rw [show (w - k).toNat = 0 by omega]
  rfl
theorem bPn_step {sz : Nat} {at_ v w k : Int} {b : Nat → Int} (h : k < w) : bPn sz at_ v w k b = bPn sz at_ v w (k + 1) (bPut b sz (at_ + k) (v / 2 ^ (8 * k).toNat)) := by
  unfold bPn
  rw [show (w - k).toNat = (w - (k + 1)).toNat + 1 by omega]
  rfl
def bDigits (a : Int) : Int := if a < 10 then 1 else if a < 100 then 2 else if a < 1000 then 3 else 4
theorem bDigits_r (a : Int) : 1 ≤ bDigits a ∧ bDigits a ≤ 4 := by
  unfold bDigits
  split
  · omega
  · split
    · omega
    · split <;> omega
/-- decimal digits of v put at at_ + k, at_ + k - 1 .. at_ -/
def bPdN (sz : Nat) (at_ : Int) : Nat → Int → (Nat → Int) → Nat → Int
  | 0, _, b => b
  | N + 1, v, b => bPdN sz at_ N (v / 10) (bPut b sz (at_ + N) (48 + v % 10))
def bPd (sz : Nat) (at_ k v : Int) (b : Nat → Int) : Nat → Int := bPdN sz at_ (k + 1).toNat v b
theorem bPd_end {sz : Nat} {at_ k v : Int} {b : Nat → Int} (h : k < 0) : bPd sz at_ k v b = b := by
  unfold bPd
  rw [show (k + 1).toNat = 0 by omega]
  rfl
theorem bPd_step {sz : Nat} {at_ k v : Int} {b : Nat → Int} (h : 0 ≤ k) : bPd sz at_ k v b = bPd sz at_ (k + (-1)) (v / 10) (bPut b sz (at_ + k) (48 + v % 10)) := by
  unfold bPd
  rw [show (k + 1).toNat = (k + (-1) + 1).toNat + 1 by omega]
  show bPdN sz at_ _ _ (bPut b sz (at_ + ((k + (-1) + 1).toNat : Int)) _) = _
  rw [show (((k + (-1) + 1).toNat : Nat) : Int) = k by omega]
def bHdN (b : Nat → Int) (sz : Nat) (at_ : Int) : Nat → Int → Bool
  | 0, _ => true
  | N + 1, v => if bGet b sz (at_ + N) = 48 + v % 10 then bHdN b sz at_ N (v / 10) else false
def bHd (b : Nat → Int) (sz : Nat) (at_ k v : Int) : Bool := bHdN b sz at_ (k + 1).toNat v
theorem bHd_end {b : Nat → Int} {sz : Nat} {at_ k v : Int} (h : k < 0) : bHd b sz at_ k v = true := by
  unfold bHd
  rw [show (k + 1).toNat = 0 by omega]
  rfl
theorem bHd_step {b : Nat → Int} {sz : Nat} {at_ k v : Int} (h : 0 ≤ k) : bHd b sz at_ k v = if bGet b sz (at_ + k) = 48 + v % 10 then bHd b sz at_ (k + (-1)) (v / 10) else false := by
  unfold bHd
  rw [show (k + 1).toNat = (k + (-1) + 1).toNat + 1 by omega]
  show (if bGet b sz (at_ + ((k + (-1) + 1).toNat : Int)) = _ then _ else _) = _
  rw [show (((k + (-1) + 1).toNat : Nat) : Int) = k by omega]
/-- hasDecimal -/
def bDec (b : Nat → Int) (sz : Nat) (at_ n v : Int) : Bool := bHd b sz at_ (n - 1) v && decide (n = bDigits v)
def bEqN (b : Nat → Int) (sz : Nat) (at_ : Int) (b2 : Nat → Int) (sz2 : Nat) (fr : Int) : Nat → Int → Bool
  | 0, _ => true
  | N + 1, k => if bGet b sz (at_ + k) = bGet b2 sz2 (fr + k) then bEqN b sz at_ b2 sz2 fr N (k + 1) else false
def bEq (b : Nat → Int) (sz : Nat) (at_ : Int) (b2 : Nat → Int) (sz2 : Nat) (fr n k : Int) : Bool := bEqN b sz at_ b2 sz2 fr (n - k).toNat k
theorem bEq_end {b : Nat → Int} {sz : Nat} {at_ : Int} {b2 : Nat → Int} {sz2 : Nat} {fr n k : Int} (h : n ≤ k) : bEq b sz at_ b2 sz2 fr n k = true := by
  unfold bEq
  rw [show (n - k).toNat = 0 by omega]
  rfl
theorem bEq_step {b : Nat → Int} {sz : Nat} {at_ : Int} {b2 : Nat → Int} {sz2 : Nat} {fr n k : Int} (h : k < n) : bEq b sz at_ b2 sz2 fr n k = if bGet b sz (at_ + k) = bGet b2 sz2 (fr + k) then bEq b sz at_ b2 sz2 fr n (k + 1) else false := by
  unfold bEq
  rw [show (n - k).toNat = (n - (k + 1)).toNat + 1 by omega]
  rfl
/-! KINDS -/
def kHold (k : Int) : Bool := decide (k = 3 ∨ k = 4)
def kWidth (k : Int) : Int := if k = 8 then 1 else if k = 16 then 4 else if k = 18 then 8 else 0
theorem kWidth_r (k : Int) : 0 ≤ kWidth k ∧ kWidth k ≤ 8 := by
  unfold kWidth
  split
  · omega
  · split
    · omega
    · split <;> omega
def kIs (k : Int) : Bool := decide (k = 2 ∨ k = 10 ∨ k = 3 ∨ k = 4 ∨ k = 8 ∨ k = 16 ∨ k = 18)
def kAllows (k v : Int) : Bool := if k = 8 then decide (v = 0 ∨ v = 1) else if k = 16 then decide (-2147483648 ≤ v ∧ v < 2147483648) else if k = 18 then true else decide (v = 0)
/-! UTF-8 -/
def uLen (x : Int) : Int := if x < 128 then 1 else if x < 194 ∨ 244 < x then 0 else if x < 224 then 2 else if x < 240 then 3 else 4
theorem uLen_r (x : Int) : 0 ≤ uLen x ∧ uLen x ≤ 4 := by
  unfold uLen
  split
  · omega
  · split
    · omega
    · split
      · omega
      · split <;> omega
theorem kHold_t {k : Int} (h : k = 3 ∨ k = 4) : true = kHold k := (decide_eq_true h).symm
theorem kHold_f {k : Int} (h : ¬ (k = 3 ∨ k = 4)) : false = kHold k := (decide_eq_false h).symm
theorem kHold_iff {k : Int} : kHold k = true ↔ (k = 3 ∨ k = 4) := decide_eq_true_iff
theorem kHold_ff {k : Int} : kHold k = false ↔ ¬ (k = 3 ∨ k = 4) := decide_eq_false_iff_not
theorem kIs_t {k : Int} (h : k = 2 ∨ k = 10 ∨ kHold k = true ∨ 0 < kWidth k) : true = kIs k := by
  refine (decide_eq_true ?_).symm
  rw [kHold_iff] at h
  unfold kWidth at h
  by_cases h1 : k = 8
  · omega
  · rw [if_neg h1] at h
    by_cases h2 : k = 16
    · omega
    · rw [if_neg h2] at h
      by_cases h3 : k = 18
      · omega
      · rw [if_neg h3] at h
        omega
theorem kIs_f {k : Int} (h : ¬ k = 2 ∧ ¬ k = 10 ∧ kHold k = false ∧ kWidth k ≤ 0) : false = kIs k := by
  refine (decide_eq_false ?_).symm
  rw [kHold_ff] at h
  unfold kWidth at h
  by_cases h1 : k = 8
  · rw [if_pos h1] at h; omega
  · rw [if_neg h1] at h
    by_cases h2 : k = 16
    · rw [if_pos h2] at h; omega
    · rw [if_neg h2] at h
      by_cases h3 : k = 18
      · rw [if_pos h3] at h; omega
      · rw [if_neg h3] at h
        omega
/-- the length of a right value -/
def kVlen (k : Int) (b : Nat → Int) (sz : Nat) (at_ : Int) : Int := if k = 2 then 4 + bNum b sz at_ 3 0 else if kHold k = true then bNum b sz at_ 3 0 else kWidth k
def uLow (x : Int) : Int := if x = 224 then 160 else if x = 240 then 144 else 128
def uHigh (x : Int) : Int := if x = 237 then 159 else if x = 244 then 143 else 191
def uRtN (b : Nat → Int) (sz : Nat) (at_ : Int) : Nat → Int → Int → Int → Bool
  | 0, _, _, _ => true
  | N + 1, k, lo, hi => if bGet b sz (at_ + k) < lo ∨ hi < bGet b sz (at_ + k) then false else uRtN b sz at_ N (k + 1) 128 191
def uRt (b : Nat → Int) (sz : Nat) (at_ n k lo hi : Int) : Bool := uRtN b sz at_ (n - k).toNat k lo hi
theorem uRt_end {b : Nat → Int} {sz : Nat} {at_ n k lo hi : Int} (h : n ≤ k) : uRt b sz at_ n k lo hi = true := by
  unfold uRt
  rw [show (n - k).toNat = 0 by omega]
  rfl
theorem uRt_step {b : Nat → Int} {sz : Nat} {at_ n k lo hi : Int} (h : k < n) : uRt b sz at_ n k lo hi = if bGet b sz (at_ + k) < lo ∨ hi < bGet b sz (at_ + k) then false else uRt b sz at_ n (k + 1) 128 191 := by
  unfold uRt
  rw [show (n - k).toNat = (n - (k + 1)).toNat + 1 by omega]
  rfl
def uRight (b : Nat → Int) (sz : Nat) (at_ n : Int) : Bool := uRt b sz at_ n 1 (uLow (bGet b sz at_)) (uHigh (bGet b sz at_))
def uFwN (b : Nat → Int) (sz : Nat) (to : Int) : Nat → Int → Int
  | 0, _ => -1
  | N + 1, at_ => if at_ < to then (if uLen (bGet b sz at_) = 0 ∨ to - at_ < uLen (bGet b sz at_) ∨ uRight b sz at_ (uLen (bGet b sz at_)) = false then at_ else uFwN b sz to N (at_ + uLen (bGet b sz at_))) else -1
def uFw (b : Nat → Int) (sz : Nat) (to k at_ : Int) : Int := uFwN b sz to (to - k).toNat at_
theorem uFw_end {b : Nat → Int} {sz : Nat} {to k at_ : Int} (h : to ≤ k ∨ to ≤ at_) : uFw b sz to k at_ = -1 := by
  unfold uFw
  cases hN : (to - k).toNat with
  | zero => rfl
  | succ N => exact if_neg (by omega)
theorem uFw_bad {b : Nat → Int} {sz : Nat} {to k at_ : Int} (h : k < to) (h2 : at_ < to) (h3 : uLen (bGet b sz at_) = 0 ∨ to - at_ < uLen (bGet b sz at_) ∨ uRight b sz at_ (uLen (bGet b sz at_)) = false) : uFw b sz to k at_ = at_ := by
  unfold uFw
  rw [show (to - k).toNat = (to - (k + 1)).toNat + 1 by omega]
  unfold uFwN
  rw [if_pos h2, if_pos h3]
theorem uFw_step {b : Nat → Int} {sz : Nat} {to k at_ : Int} (h : k < to) (h2 : at_ < to) (h3 : ¬ (uLen (bGet b sz at_) = 0 ∨ to - at_ < uLen (bGet b sz at_) ∨ uRight b sz at_ (uLen (bGet b sz at_)) = false)) : uFw b sz to k at_ = uFw b sz to (k + 1) (at_ + uLen (bGet b sz at_)) := by
  unfold uFw
  rw [show (to - k).toNat = (to - (k + 1)).toNat + 1 by omega]
  conv => lhs; unfold uFwN
  rw [if_pos h2, if_neg h3]
/-- the first wrong byte from 'fr' on and ahead of 'to', or -1 -/
def uWrong (b : Nat → Int) (sz : Nat) (fr to : Int) : Int := uFw b sz to fr fr
/-! NODES: a table T of columns (0 kinds, 1 parents, 2 depths, 3 names, 4 values, 5 lengths, 6 counts), cnt rows of it -/
def nCell (T : Nat → Nat → Int) (cnt c : Nat) (x : Int) : Int := if 0 ≤ x ∧ x < cnt then T c x.toNat else -1
theorem nCell_in {T : Nat → Nat → Int} {cnt c : Nat} {x : Int} (h : 0 ≤ x ∧ x < cnt) : nCell T cnt c x = T c x.toNat := if_pos h
theorem nCell_out {T : Nat → Nat → Int} {cnt c : Nat} {x : Int} (h : ¬ (0 ≤ x ∧ x < cnt)) : nCell T cnt c x = -1 := if_neg h
theorem nCell_r {T : Nat → Nat → Int} {cnt : Nat} (hT : ∀ c x, -1000000 ≤ T c x ∧ T c x ≤ 1000000) (c : Nat) (x : Int) : -1000000 ≤ nCell T cnt c x ∧ nCell T cnt c x ≤ 1000000 := by
  unfold nCell
  have := hT c x.toNat
  split <;> omega
def nBehN (T : Nat → Nat → Int) (cnt : Nat) (nd : Int) : Nat → Int → Int
  | 0, _ => cnt
  | N + 1, k => if nCell T cnt 1 k < nd then k else nBehN T cnt nd N (k + 1)
def nBehF (T : Nat → Nat → Int) (cnt : Nat) (nd k : Int) : Int := nBehN T cnt nd (cnt - k).toNat k
theorem nBehF_end {T : Nat → Nat → Int} {cnt : Nat} {nd k : Int} (h : cnt ≤ k) : nBehF T cnt nd k = cnt := by
  unfold nBehF
  rw [show (cnt - k).toNat = 0 by omega]
  rfl
theorem nBehF_step {T : Nat → Nat → Int} {cnt : Nat} {nd k : Int} (h : k < cnt) : nBehF T cnt nd k = if nCell T cnt 1 k < nd then k else nBehF T cnt nd (k + 1) := by
  unfold nBehF
  rw [show ((cnt : Int) - k).toNat = (cnt - (k + 1)).toNat + 1 by omega]
  rfl
def nBeh (T : Nat → Nat → Int) (cnt : Nat) (nd : Int) : Int := nBehF T cnt nd (nd + 1)
theorem nBehF_r {T : Nat → Nat → Int} {cnt : Nat} {nd : Int} : ∀ (N : Nat) (k : Int), (cnt - k).toNat = N → nBehF T cnt nd k ≤ cnt ∧ (k ≤ nBehF T cnt nd k ∨ nBehF T cnt nd k = cnt) := by
  intro N
  induction N with
  | zero => intro k h; rw [nBehF_end (by omega)]; omega
  | succ N ih =>
    intro k h
    rw [nBehF_step (by omega)]
    have := ih (k + 1) (by omega)
    split <;> omega
theorem nBeh_r (T : Nat → Nat → Int) (cnt : Nat) (nd : Int) : nBeh T cnt nd ≤ cnt ∧ (nd + 1 ≤ nBeh T cnt nd ∨ nBeh T cnt nd = cnt) := nBehF_r _ _ rfl
def nLast (T : Nat → Nat → Int) (cnt : Nat) (nd : Int) : Int := nCell T cnt 4 nd + nCell T cnt 5 nd - 1
def nNameLen (T : Nat → Nat → Int) (cnt : Nat) (nd : Int) : Int := nCell T cnt 4 nd - 1 - nCell T cnt 3 nd
def nTextLen (T : Nat → Nat → Int) (cnt : Nat) (nd : Int) : Int := if nCell T cnt 0 nd = 2 then nCell T cnt 5 nd - 5 else 0
def nNext (T : Nat → Nat → Int) (cnt : Nat) (nd : Int) : Int := if nBeh T cnt nd < cnt ∧ nCell T cnt 1 (nBeh T cnt nd) = nCell T cnt 1 nd then nBeh T cnt nd else -1
def nDeepN (T : Nat → Nat → Int) (cnt : Nat) : Nat → Int → Int → Int
  | 0, _, acc => acc
  | N + 1, k, acc => nDeepN T cnt N (k + 1) (if acc < nCell T cnt 2 k then nCell T cnt 2 k else acc)
def nDeepF (T : Nat → Nat → Int) (cnt : Nat) (en k acc : Int) : Int := nDeepN T cnt (en - k).toNat k acc
theorem nDeepF_end {T : Nat → Nat → Int} {cnt : Nat} {en k acc : Int} (h : en ≤ k) : nDeepF T cnt en k acc = acc := by
  unfold nDeepF
  rw [show (en - k).toNat = 0 by omega]
  rfl
theorem nDeepF_step {T : Nat → Nat → Int} {cnt : Nat} {en k acc : Int} (h : k < en) : nDeepF T cnt en k acc = nDeepF T cnt en (k + 1) (if acc < nCell T cnt 2 k then nCell T cnt 2 k else acc) := by
  unfold nDeepF
  rw [show (en - k).toNat = (en - (k + 1)).toNat + 1 by omega]
  rfl
def nDeep (T : Nat → Nat → Int) (cnt : Nat) (nd : Int) : Int := nDeepF T cnt (nBeh T cnt nd) (nd + 1) (nCell T cnt 2 nd)
theorem nDeepF_r {T : Nat → Nat → Int} {cnt : Nat} (hT : ∀ c x, -1000000 ≤ T c x ∧ T c x ≤ 1000000) {en : Int} : ∀ (N : Nat) (k acc : Int), (en - k).toNat = N → -1000000 ≤ acc ∧ acc ≤ 1000000 → -1000000 ≤ nDeepF T cnt en k acc ∧ nDeepF T cnt en k acc ≤ 1000000 := by
  intro N
  induction N with
  | zero => intro k acc h h2; rw [nDeepF_end (by omega)]; exact h2
  | succ N ih =>
    intro k acc h h2
    rw [nDeepF_step (by omega)]
    refine ih (k + 1) _ (by omega) ?_
    have := nCell_r (cnt := cnt) hT 2 k
    split <;> omega
theorem nDeep_r {T : Nat → Nat → Int} {cnt : Nat} (hT : ∀ c x, -1000000 ≤ T c x ∧ T c x ≤ 1000000) (nd : Int) : -1000000 ≤ nDeep T cnt nd ∧ nDeep T cnt nd ≤ 1000000 := nDeepF_r hT _ _ _ rfl (nCell_r hT 2 nd)
def nLevels (T : Nat → Nat → Int) (cnt : Nat) (nd : Int) : Int := nDeep T cnt nd - nCell T cnt 2 nd + bI (kHold (nCell T cnt 0 nd))
/-- is row k an element of nd with the name of n bytes at 'fr' of (b2, sz2)? (b, sz): the document's bytes -/
def nHit (T : Nat → Nat → Int) (cnt : Nat) (b : Nat → Int) (sz : Nat) (nd : Int) (b2 : Nat → Int) (sz2 : Nat) (fr n k : Int) : Bool := decide (nCell T cnt 1 k = nd) && (decide (nNameLen T cnt k = n) && bEq b sz (nCell T cnt 3 k) b2 sz2 fr n 0)
def nNamN (T : Nat → Nat → Int) (cnt : Nat) (b : Nat → Int) (sz : Nat) (nd : Int) (b2 : Nat → Int) (sz2 : Nat) (fr n : Int) : Nat → Int → Int
  | 0, _ => -1
  | N + 1, k => if nHit T cnt b sz nd b2 sz2 fr n k = true then k else nNamN T cnt b sz nd b2 sz2 fr n N (k + 1)
def nNamF (T : Nat → Nat → Int) (cnt : Nat) (b : Nat → Int) (sz : Nat) (nd : Int) (b2 : Nat → Int) (sz2 : Nat) (fr n k : Int) : Int := nNamN T cnt b sz nd b2 sz2 fr n (cnt - k).toNat k
theorem nNamF_end {T : Nat → Nat → Int} {cnt : Nat} {b : Nat → Int} {sz : Nat} {nd : Int} {b2 : Nat → Int} {sz2 : Nat} {fr n k : Int} (h : cnt ≤ k) : nNamF T cnt b sz nd b2 sz2 fr n k = -1 := by
  unfold nNamF
  rw [show (cnt - k).toNat = 0 by omega]
  rfl
theorem nNamF_step {T : Nat → Nat → Int} {cnt : Nat} {b : Nat → Int} {sz : Nat} {nd : Int} {b2 : Nat → Int} {sz2 : Nat} {fr n k : Int} (h : k < cnt) : nNamF T cnt b sz nd b2 sz2 fr n k = if nHit T cnt b sz nd b2 sz2 fr n k = true then k else nNamF T cnt b sz nd b2 sz2 fr n (k + 1) := by
  unfold nNamF
  rw [show ((cnt : Int) - k).toNat = (cnt - (k + 1)).toNat + 1 by omega]
  rfl
def nNamed (T : Nat → Nat → Int) (cnt : Nat) (b : Nat → Int) (sz : Nat) (nd : Int) (b2 : Nat → Int) (sz2 : Nat) (fr n : Int) : Int := nNamF T cnt b sz nd b2 sz2 fr n (nd + 1)
theorem zne {x : Bool} (h : x = false) : ¬ x = true := by rw [h]; decide
theorem zee {x : Bool} (h : ¬ x = false) : x = true := by cases x <;> simp_all
theorem nHit_t {T : Nat → Nat → Int} {cnt : Nat} {b : Nat → Int} {sz : Nat} {nd : Int} {b2 : Nat → Int} {sz2 : Nat} {fr n k : Int} (h1 : nCell T cnt 1 k = nd) (h2 : nNameLen T cnt k = n) (h3 : bEq b sz (nCell T cnt 3 k) b2 sz2 fr n 0 = true) : nHit T cnt b sz nd b2 sz2 fr n k = true := by
  unfold nHit
  rw [decide_eq_true h1, decide_eq_true h2, h3]; rfl
theorem nHit_f {T : Nat → Nat → Int} {cnt : Nat} {b : Nat → Int} {sz : Nat} {nd : Int} {b2 : Nat → Int} {sz2 : Nat} {fr n k : Int} (h : ¬ nCell T cnt 1 k = nd ∨ ¬ nNameLen T cnt k = n ∨ bEq b sz (nCell T cnt 3 k) b2 sz2 fr n 0 = false) : ¬ nHit T cnt b sz nd b2 sz2 fr n k = true := by
  unfold nHit
  rcases h with h | h | h
  · rw [decide_eq_false h]; simp
  · rw [decide_eq_false h]; simp
  · rw [h]; simp
theorem mx_i {a b : Int} (ha : -2147483648 ≤ a ∧ a < 2147483648) (hb : -2147483648 ≤ b ∧ b < 2147483648) : (if iI a < iI b then iI b else iI a) = iI (if a < b then b else a) := by
  by_cases h : a < b
  · rw [if_pos h, if_pos ((iI_lt ha hb).mpr h)]
  · rw [if_neg h, if_neg (fun q => h ((iI_lt ha hb).mp q))]
theorem bPut_in {b : Nat → Int} {sz : Nat} {a v : Int} (h : 0 ≤ a ∧ a < sz) : bPut b sz a v = va_up b a.toNat (v % 256) := if_pos h
theorem bPut_out {b : Nat → Int} {sz : Nat} {a v : Int} (h : ¬ (0 ≤ a ∧ a < sz)) : bPut b sz a v = b := if_neg h
theorem up_r {b : Nat → Int} (hb : ∀ x, 0 ≤ b x ∧ b x < 256) (k : Nat) (v : Int) : ∀ x, 0 ≤ va_up b k (v % 256) x ∧ va_up b k (v % 256) x < 256 := by
  intro x
  have := hb x
  unfold va_up
  split <;> omega
theorem up_z {b : Nat → Int} {n : Nat} (hb : ∀ x, n ≤ x → b x = 0) {k : Nat} (hk : k < n) (v : Int) : ∀ x, n ≤ x → va_up b k v x = 0 := by
  intro x hx
  rw [va_up_ne _ _ (by omega)]
  exact hb x hx
theorem cpy_r {f b : Nat → Int} (hf : ∀ x, 0 ≤ f x ∧ f x < 256) (hb : ∀ x, 0 ≤ b x ∧ b x < 256) (sp dp n : Nat) : ∀ x, 0 ≤ va_cpy f b sp dp n x ∧ va_cpy f b sp dp n x < 256 := by
  intro x
  unfold va_cpy
  split
  · exact hf _
  · exact hb x
theorem cpy_z {f b : Nat → Int} {n : Nat} (hb : ∀ x, n ≤ x → b x = 0) {sp dp m : Nat} (h : dp + m ≤ n) : ∀ x, n ≤ x → va_cpy f b sp dp m x = 0 := by
  intro x hx
  rw [pk_cpy_out (by omega)]
  exact hb x hx
theorem bPut_r {b : Nat → Int} (hb : ∀ x, 0 ≤ b x ∧ b x < 256) (sz : Nat) (a v : Int) : ∀ x, 0 ≤ bPut b sz a v x ∧ bPut b sz a v x < 256 := by
  unfold bPut
  split
  · exact up_r hb _ _
  · exact hb
/-- openGap, cut and putFrom, where they may -/
def bGap (b : Nat → Int) (sz : Nat) (a n : Int) : Nat → Int := va_cpy b b a.toNat (a + n).toNat (sz - a).toNat
def bCut (b : Nat → Int) (sz : Nat) (a n : Int) : Nat → Int := va_cpy b b (a + n).toNat a.toNat (sz - a - n).toNat
def bCopy (b b2 : Nat → Int) (a fr n : Int) : Nat → Int := va_cpy b2 b fr.toNat a.toNat n.toNat
def bApp (b : Nat → Int) (sz : Nat) (b2 : Nat → Int) (fr n : Int) : Nat → Int := bCopy (bGap b sz sz n) b2 sz fr n
def bAppNum (b : Nat → Int) (sz : Nat) (v w : Int) : Nat → Int := bPn (sz + w.toNat) sz v w 0 (bGap b sz sz w)
/-- four bytes, the highest first -/
def bHfN (sz : Nat) (at_ v : Int) : Nat → Int → (Nat → Int) → Nat → Int
  | 0, _, b => b
  | N + 1, k, b => bHfN sz at_ v N (k + 1) (bPut b sz (at_ + k) (v / 2 ^ (24 - 8 * k).toNat))
def bHf (sz : Nat) (at_ v k : Int) (b : Nat → Int) : Nat → Int := bHfN sz at_ v (4 - k).toNat k b
theorem bHf_end {sz : Nat} {at_ v k : Int} {b : Nat → Int} (h : 4 ≤ k) : bHf sz at_ v k b = b := by
  unfold bHf
  rw [show (4 - k).toNat = 0 by omega]
  rfl
theorem bHf_step {sz : Nat} {at_ v k : Int} {b : Nat → Int} (h : k < 4) : bHf sz at_ v k b = bHf sz at_ v (k + 1) (bPut b sz (at_ + k) (v / 2 ^ (24 - 8 * k).toNat)) := by
  unfold bHf
  rw [show (4 - k).toNat = (4 - (k + 1)).toNat + 1 by omega]
  rfl
def bAppHf (b : Nat → Int) (sz : Nat) (v : Int) : Nat → Int := bHf (sz + 4) sz v 0 (bGap b sz sz 4)
/-- a row more: kind k, parent pa, name at nm, value at va, of vl bytes -/
def nApp (T : Nat → Nat → Int) (cnt : Nat) (k pa nm va vl : Int) : Nat → Nat → Int := fun co x =>
  if x = cnt then (if co = 0 then k else if co = 1 then pa else if co = 2 then bI (kHold k) + (if 0 ≤ pa ∧ pa < cnt then T 2 pa.toNat else 0) else if co = 3 then nm else if co = 4 then va else if co = 5 then vl else 0)
  else if co = 6 ∧ 0 ≤ pa ∧ pa < cnt ∧ x = pa.toNat then T 6 x + 1 else T co x
def nInv (T : Nat → Nat → Int) (cnt : Nat) : Prop := (∀ x, T 2 x ≤ x + 1) ∧ (∀ x : Nat, x < cnt → T 6 x ≤ cnt - 1 - x) ∧ ∀ x, 0 ≤ T 6 x
theorem nApp_eq {T : Nat → Nat → Int} {cnt : Nat} {k pa nm va vl : Int} :
    (∀ x, va_up (T 0) cnt k x = nApp T cnt k pa nm va vl 0 x) ∧ (∀ x, va_up (T 1) cnt pa x = nApp T cnt k pa nm va vl 1 x) ∧ (∀ x, va_up (T 3) cnt nm x = nApp T cnt k pa nm va vl 3 x) ∧ (∀ x, va_up (T 4) cnt va x = nApp T cnt k pa nm va vl 4 x) ∧ ∀ x, va_up (T 5) cnt vl x = nApp T cnt k pa nm va vl 5 x := by
  refine ⟨?_, ?_, ?_, ?_, ?_⟩ <;> (intro x; unfold va_up nApp; by_cases h : x = cnt <;> simp [h])
theorem nApp_eq2 {T : Nat → Nat → Int} {cnt : Nat} {k pa nm va vl z : Int} (hz : z = bI (kHold k)) (hp : ¬ (0 ≤ pa ∧ pa < cnt)) : (∀ x, va_up (T 2) cnt z x = nApp T cnt k pa nm va vl 2 x) ∧ ∀ x, va_up (T 6) cnt 0 x = nApp T cnt k pa nm va vl 6 x := by
  refine ⟨?_, ?_⟩ <;> intro x <;> unfold va_up nApp
  · rw [if_neg hp, hz]; by_cases h : x = cnt <;> simp [h]
  · by_cases h : x = cnt
    · simp [h]
    · rw [if_neg h, if_neg h, if_neg (by omega)]
theorem nApp_eq3 {T : Nat → Nat → Int} {cnt : Nat} {k pa nm va vl z : Int} (hz : z = bI (kHold k)) (hp : 0 ≤ pa ∧ pa < cnt) : (∀ x, va_up (va_up (T 2) cnt z) cnt (va_up (T 2) cnt z cnt + va_up (T 2) cnt z pa.toNat) x = nApp T cnt k pa nm va vl 2 x) ∧ ∀ x, va_up (va_up (T 6) cnt 0) pa.toNat (va_up (T 6) cnt 0 pa.toNat + 1) x = nApp T cnt k pa nm va vl 6 x := by
  have hne : pa.toNat ≠ cnt := by omega
  refine ⟨?_, ?_⟩ <;> intro x
  · rw [va_up_self, va_up_ne _ _ hne]
    unfold va_up nApp
    rw [if_pos hp, hz]; by_cases h : x = cnt <;> simp [h]
  · rw [va_up_ne _ _ hne]
    unfold va_up nApp
    by_cases h : x = cnt
    · subst h
      rw [if_neg (by omega)]
      simp
    · by_cases h2 : x = pa.toNat
      · rw [if_pos h2, if_neg h, if_pos ⟨rfl, hp.1, hp.2, h2⟩, h2]
      · rw [if_neg h2, if_neg h, if_neg h, if_neg (fun q => h2 q.2.2.2)]
theorem nApp_r {T : Nat → Nat → Int} {cnt : Nat} {k pa nm va vl : Int} (hc : cnt < 700) (hT : ∀ co x, -1000000 ≤ T co x ∧ T co x ≤ 1000000) (hI : nInv T cnt) (h0 : -1000000 ≤ k ∧ k ≤ 1000000) (h1 : -1000000 ≤ pa ∧ pa ≤ 1000000) (h2 : -1000000 ≤ nm ∧ nm ≤ 1000000) (h3 : -1000000 ≤ va ∧ va ≤ 1000000) (h4 : -1000000 ≤ vl ∧ vl ≤ 1000000) : ∀ co x, -1000000 ≤ nApp T cnt k pa nm va vl co x ∧ nApp T cnt k pa nm va vl co x ≤ 1000000 := by
  intro co x
  have hb := bI_r (kHold k)
  unfold nApp
  by_cases h : x = cnt
  · rw [if_pos h]
    by_cases p : 0 ≤ pa ∧ pa < cnt
    · have := hI.1 pa.toNat
      have := hT 2 pa.toNat
      rw [if_pos p]
      (repeat' split) <;> omega
    · rw [if_neg p]
      (repeat' split) <;> omega
  · rw [if_neg h]
    by_cases p : co = 6 ∧ 0 ≤ pa ∧ pa < cnt ∧ x = pa.toNat
    · rw [if_pos p]
      have := hI.2.1 x (by omega)
      have := hT 6 x
      omega
    · rw [if_neg p]; exact hT co x
theorem nApp_inv {T : Nat → Nat → Int} {cnt : Nat} {k pa nm va vl : Int} (hI : nInv T cnt) : nInv (nApp T cnt k pa nm va vl) (cnt + 1) := by
  have hb := bI_r (kHold k)
  refine ⟨fun x => ?_, fun x hx => ?_, fun x => ?_⟩
  · unfold nApp
    by_cases h : x = cnt
    · rw [if_pos h]
      have := hI.1 pa.toNat
      by_cases p : 0 ≤ pa ∧ pa < cnt
      · simp only [if_pos p]
        simp
        omega
      · simp only [if_neg p]
        simp
        omega
    · rw [if_neg h, if_neg (by omega)]
      exact hI.1 x
  · unfold nApp
    by_cases h : x = cnt
    · rw [if_pos h]
      simp
      omega
    · rw [if_neg h]
      have := hI.2.1 x (by omega)
      split <;> omega
  · unfold nApp
    by_cases h : x = cnt
    · rw [if_pos h]; simp
    · rw [if_neg h]
      have := hI.2.2 x
      split <;> omega
theorem bFzN_r {b : Nat → Int} {sz : Nat} : ∀ (N : Nat) (k : Int), bFzN b sz N k = -1 ∨ (k ≤ bFzN b sz N k ∧ bFzN b sz N k < k + N) := by
  intro N
  induction N with
  | zero => intro k; exact Or.inl rfl
  | succ N ih =>
    intro k
    have := ih (k + 1)
    unfold bFzN
    split <;> omega
theorem bFz_r (b : Nat → Int) (sz : Nat) (k to : Int) : bFz b sz k to = -1 ∨ (k ≤ bFz b sz k to ∧ bFz b sz k to < to) := by
  rcases bFzN_r (b := b) (sz := sz) (to - k).toNat k with h | h
  · exact Or.inl h
  · unfold bFz
    by_cases h2 : k ≤ to
    · omega
    · rw [show (to - k).toNat = 0 by omega]; exact Or.inl rfl
theorem uFwN_r {b : Nat → Int} {sz : Nat} {to : Int} : ∀ (N : Nat) (t : Int), uFwN b sz to N t = -1 ∨ (t ≤ uFwN b sz to N t ∧ uFwN b sz to N t < to) := by
  intro N
  induction N with
  | zero => intro k; exact Or.inl rfl
  | succ N ih =>
    intro t
    have := ih (t + uLen (bGet b sz t))
    have := uLen_r (bGet b sz t)
    unfold uFwN
    split
    · split <;> omega
    · exact Or.inl rfl
theorem uWrong_r (b : Nat → Int) (sz : Nat) (fr to : Int) : uWrong b sz fr to = -1 ∨ (fr ≤ uWrong b sz fr to ∧ uWrong b sz fr to < to) := uFwN_r _ _
theorem bNum4 (b : Nat → Int) (sz : Nat) (a : Int) : bNum b sz a 3 0 = (((bGet b sz (a + 3) % 256) * 256 + bGet b sz (a + 2) % 256) * 256 + bGet b sz (a + 1) % 256) * 256 + bGet b sz (a + 0) % 256 := by
  unfold bNum
  rw [show ((3 : Int) + 1).toNat = 4 from rfl]
  simp [bNumN]
theorem bNum4_r (b : Nat → Int) (sz : Nat) (a : Int) : 0 ≤ bNum b sz a 3 0 ∧ bNum b sz a 3 0 < 4294967296 := by
  rw [bNum4]
  omega
/-! THE READER: its state is at, inside, fault, place, and the table -/
abbrev rS : Type := Int × Int × Int × Int × (Nat → Nat → Int) × Nat
def rLastB (b : Nat → Int) (sz : Nat) (ra ri rf rp : Int) (T : Nat → Nat → Int) (cnt : Nat) : rS :=
  if bGet b sz ra = 0 then (ra + 1, nCell T cnt 1 ri, rf, rp, T, cnt) else (ra, ri, 2, ra, T, cnt)
def rNameOk (b : Nat → Int) (sz : Nat) (ra ri e : Int) (T : Nat → Nat → Int) (cnt : Nat) : Bool :=
  if nCell T cnt 0 ri = 4 then bDec b sz ra (e - ra) (nCell T cnt 6 ri) else decide (nNamed T cnt b sz ri b sz ra (e - ra) = -1)
def rName (b : Nat → Int) (sz : Nat) (last ra ri rf rp : Int) (T : Nat → Nat → Int) (cnt : Nat) : rS :=
  if bFz b sz ra last = -1 then (ra, ri, 1, ra, T, cnt)
  else if ¬ uWrong b sz ra (bFz b sz ra last) = -1 then (ra, ri, 4, uWrong b sz ra (bFz b sz ra last), T, cnt)
  else if rNameOk b sz ra ri (bFz b sz ra last) T cnt = true then (bFz b sz ra last + 1, ri, rf, rp, T, cnt) else (ra, ri, 7, ra, T, cnt)
def rSize (b : Nat → Int) (sz : Nat) (k nm left ra ri rf rp : Int) (T : Nat → Nat → Int) (cnt : Nat) : rS :=
  if left < 4 then (ra, ri, 1, ra, T, cnt)
  else if bNum b sz ra 3 0 < 5 ∨ (ri = -1 ∧ bNum b sz ra 3 0 < left) then (ra, ri, 2, ra, T, cnt)
  else if left < bNum b sz ra 3 0 then (ra, ri, 1, ra, T, cnt)
  else if 16 ≤ nCell T cnt 2 ri then (ra, ri, 8, ra, T, cnt)
  else (ra + 4, cnt, rf, rp, nApp T cnt k ri nm ra (bNum b sz ra 3 0), cnt + 1)
def rText (b : Nat → Int) (sz : Nat) (left ra ri rf rp : Int) (T : Nat → Nat → Int) (cnt : Nat) : rS :=
  if left < 4 then (ra, ri, 1, ra, T, cnt)
  else if bNum b sz ra 3 0 < 1 then (ra, ri, 6, ra, T, cnt)
  else if left - 4 < bNum b sz ra 3 0 then (ra, ri, 1, ra, T, cnt)
  else if ¬ bGet b sz (ra + 4 + bNum b sz ra 3 0 - 1) = 0 then (ra, ri, 6, ra + 4 + bNum b sz ra 3 0 - 1, T, cnt)
  else if ¬ uWrong b sz (ra + 4) (ra + 4 + bNum b sz ra 3 0 - 1) = -1 then (ra, ri, 4, uWrong b sz (ra + 4) (ra + 4 + bNum b sz ra 3 0 - 1), T, cnt)
  else (ra + 4 + bNum b sz ra 3 0 - 1 + 1, ri, rf, rp, T, cnt)
def rNum (b : Nat → Int) (sz : Nat) (k left ra ri rf rp : Int) (T : Nat → Nat → Int) (cnt : Nat) : rS :=
  if left < kWidth k then (ra, ri, 1, ra, T, cnt)
  else if k = 8 ∧ 1 < bGet b sz ra then (ra, ri, 5, ra, T, cnt)
  else (ra + kWidth k, ri, rf, rp, T, cnt)
def rElem (b : Nat → Int) (sz : Nat) (last ra ri rf rp : Int) (T : Nat → Nat → Int) (cnt : Nat) : rS :=
  if kIs (bGet b sz ra) = false then (ra, ri, (if bGet b sz ra = 0 then 2 else 3), ra, T, cnt)
  else match rName b sz last (ra + 1) ri rf rp T cnt with
    | (a1, i1, f1, p1, _, _) =>
      if ¬ f1 = 0 then (a1, i1, f1, p1, T, cnt)
      else if kHold (bGet b sz ra) = true then rSize b sz (bGet b sz ra) (ra + 1) (last - a1) a1 i1 f1 p1 T cnt
      else match (if bGet b sz ra = 2 then rText b sz (last - a1) a1 i1 f1 p1 T cnt else rNum b sz (bGet b sz ra) (last - a1) a1 i1 f1 p1 T cnt) with
        | (a2, i2, f2, p2, _, _) => (a2, i2, f2, p2, nApp T cnt (bGet b sz ra) i2 (ra + 1) a1 (a2 - a1), cnt + 1)
theorem nNamN_r {T : Nat → Nat → Int} {cnt : Nat} {b : Nat → Int} {sz : Nat} {nd : Int} {b2 : Nat → Int} {sz2 : Nat} {fr n : Int} : ∀ (N : Nat) (k : Int), nNamN T cnt b sz nd b2 sz2 fr n N k = -1 ∨ (k ≤ nNamN T cnt b sz nd b2 sz2 fr n N k ∧ nNamN T cnt b sz nd b2 sz2 fr n N k < k + N) := by
  intro N
  induction N with
  | zero => intro k; exact Or.inl rfl
  | succ N ih =>
    intro k
    have := ih (k + 1)
    unfold nNamN
    split <;> omega
theorem nNamed_r (T : Nat → Nat → Int) (cnt : Nat) (b : Nat → Int) (sz : Nat) (nd : Int) (b2 : Nat → Int) (sz2 : Nat) (fr n : Int) : nNamed T cnt b sz nd b2 sz2 fr n = -1 ∨ (nd + 1 ≤ nNamed T cnt b sz nd b2 sz2 fr n ∧ nNamed T cnt b sz nd b2 sz2 fr n < cnt) := by
  rcases nNamN_r (T := T) (cnt := cnt) (b := b) (sz := sz) (nd := nd) (b2 := b2) (sz2 := sz2) (fr := fr) (n := n) (cnt - (nd + 1)).toNat (nd + 1) with h | h
  · exact Or.inl h
  · unfold nNamed nNamF
    by_cases h2 : nd + 1 ≤ cnt
    · omega
    · rw [show ((cnt : Int) - (nd + 1)).toNat = 0 by omega]; exact Or.inl rfl
end
section
abbrev bxC : Nat := 0
abbrev ndC : Nat := 1
abbrev rdC : Nat := 2
abbrev dbC : Nat := 3
abbrev mdC : Nat := 4
/-- the classes of the arrays -/
abbrev tyL (g : Nat → ClassId) : List (ClassId × FieldType) := [(g 0, .byte), (g 1, .int), (g 2, .object "DocumentBytes$Bytes")]
/-- a Bytes: its object in role i, its row (n long) in role j; the first sz of b count -/
def bxs (g : Nat → ClassId) (L : Nat → Nat) (κ : Nat → Option va_E) (i j mo n sz : Nat) (b : Nat → Int) : Prop :=
  κ i = some (.inr (bxC, [.int (iI mo), .ref (L j), .int (iI sz)])) ∧ κ j = some (.inl (g 0, n, .inl (fun x => byt (b x)))) ∧ (sz ≤ n ∧ n ≤ mo ∧ mo ≤ 2005) ∧ (∀ x, 0 ≤ b x ∧ b x < 256) ∧ ∀ x, n ≤ x → b x = 0
/-- the Nodes: role 6, its columns 7 .. 13, cnt rows; the document in role d -/
def nds (g : Nat → ClassId) (L : Nat → Nat) (κ : Nat → Option va_E) (T : Nat → Nat → Int) (cnt d : Nat) : Prop :=
  κ 6 = some (.inr (ndC, [.ref (L 7), .ref (L 8), .ref (L 9), .ref (L 10), .ref (L 11), .ref (L 12), .ref (L 13), .ref (L d), .int (iI cnt)])) ∧ (∀ co, co < 7 → κ (7 + co) = some (.inl (g 1, 700, .inl (fun x => iI (T co x))))) ∧ cnt ≤ 700 ∧ (∀ co x, -1000000 ≤ T co x ∧ T co x ≤ 1000000) ∧ nInv T cnt
/-! the class Bytes in the world: object in role i, row in role j -/
theorem bxs_ne {g : Nat → ClassId} {L : Nat → Nat} {κ : Nat → Option va_E} {i j mo n sz : Nat} {b : Nat → Int} (hB : bxs g L κ i j mo n sz b) : i ≠ j := by
  intro h
  subst h
  have := hB.1.symm.trans hB.2.1
  cases this
theorem bxs_row {g : Nat → ClassId} {L : Nat → Nat} {κ κ1 : Nat → Option va_E} {i j mo n sz : Nat} {b b1 : Nat → Int} (hB : bxs g L κ i j mo n sz b) (e : κ1 j = some (.inl (g 0, n, .inl (fun x => byt (b1 x))))) (hk : ∀ r, r ≠ j → κ1 r = κ r) (h1 : ∀ x, 0 ≤ b1 x ∧ b1 x < 256) (h2 : ∀ x, n ≤ x → b1 x = 0) : bxs g L κ1 i j mo n sz b1 :=
  ⟨(hk i (bxs_ne hB)).trans hB.1, e, hB.2.2.1, h1, h2⟩
theorem bxs_sz {g : Nat → ClassId} {L : Nat → Nat} {κ κ1 : Nat → Option va_E} {i j mo n sz sz1 : Nat} {b : Nat → Int} (hB : bxs g L κ i j mo n sz b) (e : κ1 i = some (.inr (bxC, [.int (iI mo), .ref (L j), .int (iI sz1)]))) (hk : ∀ r, r ≠ i → κ1 r = κ r) (h : sz1 ≤ n) : bxs g L κ1 i j mo n sz1 b :=
  ⟨e, (hk j (Ne.symm (bxs_ne hB))).trans hB.2.1, ⟨h, hB.2.2.1.2⟩, hB.2.2.2⟩
/-- the world moved elsewhere -/
theorem bxs_keep {g : Nat → ClassId} {L L1 : Nat → Nat} {κ κ1 : Nat → Option va_E} {i j mo n sz : Nat} {b : Nat → Int} (hB : bxs g L κ i j mo n sz b) (h1 : κ1 i = κ i) (h2 : κ1 j = κ j) (h3 : L1 j = L j) : bxs g L1 κ1 i j mo n sz b :=
  ⟨by rw [h1, h3]; exact hB.1, h2.trans hB.2.1, hB.2.2⟩
/-- ends: nothing made (U), perhaps a new row (W) -/
def bxU (g : Nat → ClassId) (L : Nat → Nat) (κ : Nat → Option va_E) (i j mo n sz1 : Nat) (b1 : Nat → Int) : Option Value → (Nat → Nat) → (Nat → Option va_E) → Prop := fun v L1 κ1 =>
  v = none ∧ L = L1 ∧ bxs g L κ1 i j mo n sz1 b1 ∧ ∀ r, r ≠ i → r ≠ j → κ1 r = κ r
def bxW (g : Nat → ClassId) (L : Nat → Nat) (κ : Nat → Option va_E) (i j mo sz1 : Nat) (b1 : Nat → Int) : Option Value → (Nat → Nat) → (Nat → Option va_E) → Prop := fun v L1 κ1 =>
  ∃ n1 : Nat, v = none ∧ (∀ r, r ≠ j → L1 r = L r) ∧ bxs g L1 κ1 i j mo n1 sz1 b1 ∧ ∀ r, r ≠ i → r ≠ j → κ1 r = κ r
theorem nds_begin {g : Nat → ClassId} {L : Nat → Nat} {κ κ1 : Nat → Option va_E} {T : Nat → Nat → Int} {cnt d d2 : Nat} (hN : nds g L κ T cnt d) (e : κ1 6 = some (.inr (ndC, [.ref (L 7), .ref (L 8), .ref (L 9), .ref (L 10), .ref (L 11), .ref (L 12), .ref (L 13), .ref (L d2), .int (iI 0)]))) (hk : ∀ r, r ≠ 6 → κ1 r = κ r) : nds g L κ1 T 0 d2 :=
  ⟨e, fun co h => (hk (7 + co) (by omega)).trans (hN.2.1 co h), Nat.zero_le _, hN.2.2.2.1, hN.2.2.2.2.1, fun x hx => absurd hx (Nat.not_lt_zero x), hN.2.2.2.2.2.2⟩
theorem nds_keep {g : Nat → ClassId} {L L1 : Nat → Nat} {κ κ1 : Nat → Option va_E} {T : Nat → Nat → Int} {cnt d : Nat} (hN : nds g L κ T cnt d) (hk : ∀ r, 6 ≤ r → r < 14 → κ1 r = κ r) (hL : ∀ r, 6 ≤ r → r < 14 → L1 r = L r) (hd : L1 d = L d) : nds g L1 κ1 T cnt d :=
  ⟨by rw [hk 6 (by omega) (by omega), hL 7 (by omega) (by omega), hL 8 (by omega) (by omega), hL 9 (by omega) (by omega), hL 10 (by omega) (by omega), hL 11 (by omega) (by omega), hL 12 (by omega) (by omega), hL 13 (by omega) (by omega), hd]; exact hN.1, fun co h => (hk (7 + co) (by omega) (by omega)).trans (hN.2.1 co h), hN.2.2⟩
theorem nds_app {g : Nat → ClassId} {L : Nat → Nat} {κ κ1 : Nat → Option va_E} {T : Nat → Nat → Int} {cnt d : Nat} {k pa nm va vl : Int} {f0 f1 f2 f3 f4 f5 f6 : Nat → Int} (hN : nds g L κ T cnt d) (hc : cnt < 700)
    (e6 : κ1 6 = some (.inr (ndC, [.ref (L 7), .ref (L 8), .ref (L 9), .ref (L 10), .ref (L 11), .ref (L 12), .ref (L 13), .ref (L d), .int (iI (cnt + 1))])))
    (e7 : κ1 7 = some (.inl (g 1, 700, .inl (fun x => iI (f0 x))))) (e8 : κ1 8 = some (.inl (g 1, 700, .inl (fun x => iI (f1 x))))) (e9 : κ1 9 = some (.inl (g 1, 700, .inl (fun x => iI (f2 x))))) (e10 : κ1 10 = some (.inl (g 1, 700, .inl (fun x => iI (f3 x))))) (e11 : κ1 11 = some (.inl (g 1, 700, .inl (fun x => iI (f4 x))))) (e12 : κ1 12 = some (.inl (g 1, 700, .inl (fun x => iI (f5 x))))) (e13 : κ1 13 = some (.inl (g 1, 700, .inl (fun x => iI (f6 x)))))
    (q : (∀ x, f0 x = nApp T cnt k pa nm va vl 0 x) ∧ (∀ x, f1 x = nApp T cnt k pa nm va vl 1 x) ∧ (∀ x, f3 x = nApp T cnt k pa nm va vl 3 x) ∧ (∀ x, f4 x = nApp T cnt k pa nm va vl 4 x) ∧ ∀ x, f5 x = nApp T cnt k pa nm va vl 5 x) (q2 : (∀ x, f2 x = nApp T cnt k pa nm va vl 2 x) ∧ ∀ x, f6 x = nApp T cnt k pa nm va vl 6 x)
    (h0 : -1000000 ≤ k ∧ k ≤ 1000000) (h1 : -1000000 ≤ pa ∧ pa ≤ 1000000) (h2 : -1000000 ≤ nm ∧ nm ≤ 1000000) (h3 : -1000000 ≤ va ∧ va ≤ 1000000) (h4 : -1000000 ≤ vl ∧ vl ≤ 1000000) : nds g L κ1 (nApp T cnt k pa nm va vl) (cnt + 1) d := by
  refine ⟨e6, fun co h => ?_, hc, nApp_r hc hN.2.2.2.1 hN.2.2.2.2 h0 h1 h2 h3 h4, nApp_inv hN.2.2.2.2⟩
  rcases (show co = 0 ∨ co = 1 ∨ co = 2 ∨ co = 3 ∨ co = 4 ∨ co = 5 ∨ co = 6 by omega) with rfl | rfl | rfl | rfl | rfl | rfl | rfl
  · rw [show (fun x => iI (nApp T cnt k pa nm va vl 0 x)) = fun x => iI (f0 x) from funext fun x => by rw [q.1 x]]; exact e7
  · rw [show (fun x => iI (nApp T cnt k pa nm va vl 1 x)) = fun x => iI (f1 x) from funext fun x => by rw [q.2.1 x]]; exact e8
  · rw [show (fun x => iI (nApp T cnt k pa nm va vl 2 x)) = fun x => iI (f2 x) from funext fun x => by rw [q2.1 x]]; exact e9
  · rw [show (fun x => iI (nApp T cnt k pa nm va vl 3 x)) = fun x => iI (f3 x) from funext fun x => by rw [q.2.2.1 x]]; exact e10
  · rw [show (fun x => iI (nApp T cnt k pa nm va vl 4 x)) = fun x => iI (f4 x) from funext fun x => by rw [q.2.2.2.1 x]]; exact e11
  · rw [show (fun x => iI (nApp T cnt k pa nm va vl 5 x)) = fun x => iI (f5 x) from funext fun x => by rw [q.2.2.2.2 x]]; exact e12
  · rw [show (fun x => iI (nApp T cnt k pa nm va vl 6 x)) = fun x => iI (f6 x) from funext fun x => by rw [q2.2 x]]; exact e13
/-- the Reader: role 14; the tape's bytes are role 2 -/
def rds (L : Nat → Nat) (κ : Nat → Option va_E) (ra ri rf rp : Int) : Prop := κ 14 = some (.inr (rdC, [.ref (L 6), .ref (L 2), .int (iI ra), .int (iI ri), .int (iI rf), .int (iI rp)]))
def rdQ (g : Nat → ClassId) (L : Nat → Nat) (κ : Nat → Option va_E) (s : rS) : Option Value → (Nat → Nat) → (Nat → Option va_E) → Prop := fun v L1 κ1 =>
  v = none ∧ L = L1 ∧ rds L κ1 s.1 s.2.1 s.2.2.1 s.2.2.2.1 ∧ nds g L κ1 s.2.2.2.2.1 s.2.2.2.2.2 2 ∧ ∀ r, (r < 6 ∨ 14 < r) → κ1 r = κ r
end
section
theorem d_Bytes_init_0 : decode b_Bytes_init 0 = .ok (.aload_n 0, 1) := by decide +kernel
theorem d_Bytes_init_1 : decode b_Bytes_init 1 = .ok (.invokespecial 3, 3) := by decide +kernel
theorem d_Bytes_init_4 : decode b_Bytes_init 4 = .ok (.aload_n 0, 1) := by decide +kernel
theorem d_Bytes_init_5 : decode b_Bytes_init 5 = .ok (.iload_n 1, 1) := by decide +kernel
theorem d_Bytes_init_6 : decode b_Bytes_init 6 = .ok (.putfield 9, 3) := by decide +kernel
theorem d_Bytes_init_9 : decode b_Bytes_init 9 = .ok (.aload_n 0, 1) := by decide +kernel
theorem d_Bytes_init_10 : decode b_Bytes_init 10 = .ok (.bipush 64, 2) := by decide +kernel
theorem d_Bytes_init_12 : decode b_Bytes_init 12 = .ok (.newarray .byte, 2) := by decide +kernel
theorem d_Bytes_init_14 : decode b_Bytes_init 14 = .ok (.putfield 15, 3) := by decide +kernel
theorem d_Bytes_init_17 : decode b_Bytes_init 17 = .ok (.aload_n 0, 1) := by decide +kernel
theorem d_Bytes_init_18 : decode b_Bytes_init 18 = .ok (.iconst 0, 1) := by decide +kernel
theorem d_Bytes_init_19 : decode b_Bytes_init 19 = .ok (.putfield 19, 3) := by decide +kernel
theorem d_Bytes_init_22 : decode b_Bytes_init 22 = .ok (.return_, 1) := by decide +kernel
theorem d_Bytes_size_0 : decode b_Bytes_size 0 = .ok (.aload_n 0, 1) := by decide +kernel
theorem d_Bytes_size_1 : decode b_Bytes_size 1 = .ok (.getfield 19, 3) := by decide +kernel
theorem d_Bytes_size_4 : decode b_Bytes_size 4 = .ok (.ireturn, 1) := by decide +kernel
theorem d_Bytes_clear_0 : decode b_Bytes_clear 0 = .ok (.aload_n 0, 1) := by decide +kernel
theorem d_Bytes_clear_1 : decode b_Bytes_clear 1 = .ok (.iconst 0, 1) := by decide +kernel
theorem d_Bytes_clear_2 : decode b_Bytes_clear 2 = .ok (.putfield 19, 3) := by decide +kernel
theorem d_Bytes_clear_5 : decode b_Bytes_clear 5 = .ok (.return_, 1) := by decide +kernel
theorem d_Bytes_has_0 : decode b_Bytes_has 0 = .ok (.iload_n 1, 1) := by decide +kernel
theorem d_Bytes_has_1 : decode b_Bytes_has 1 = .ok (.ifCond .lt 29, 3) := by decide +kernel
theorem d_Bytes_has_4 : decode b_Bytes_has 4 = .ok (.iload_n 2, 1) := by decide +kernel
theorem d_Bytes_has_5 : decode b_Bytes_has 5 = .ok (.ifCond .lt 25, 3) := by decide +kernel
theorem d_Bytes_has_8 : decode b_Bytes_has 8 = .ok (.iload_n 1, 1) := by decide +kernel
theorem d_Bytes_has_9 : decode b_Bytes_has 9 = .ok (.aload_n 0, 1) := by decide +kernel
theorem d_Bytes_has_10 : decode b_Bytes_has 10 = .ok (.getfield 19, 3) := by decide +kernel
theorem d_Bytes_has_13 : decode b_Bytes_has 13 = .ok (.if_icmp .gt 17, 3) := by decide +kernel
theorem d_Bytes_has_16 : decode b_Bytes_has 16 = .ok (.iload_n 2, 1) := by decide +kernel
theorem d_Bytes_has_17 : decode b_Bytes_has 17 = .ok (.aload_n 0, 1) := by decide +kernel
theorem d_Bytes_has_18 : decode b_Bytes_has 18 = .ok (.getfield 19, 3) := by decide +kernel
theorem d_Bytes_has_21 : decode b_Bytes_has 21 = .ok (.iload_n 1, 1) := by decide +kernel
theorem d_Bytes_has_22 : decode b_Bytes_has 22 = .ok (.isub, 1) := by decide +kernel
theorem d_Bytes_has_23 : decode b_Bytes_has 23 = .ok (.if_icmp .gt 7, 3) := by decide +kernel
theorem d_Bytes_has_26 : decode b_Bytes_has 26 = .ok (.iconst 1, 1) := by decide +kernel
theorem d_Bytes_has_27 : decode b_Bytes_has 27 = .ok (.goto 4, 3) := by decide +kernel
theorem d_Bytes_has_30 : decode b_Bytes_has 30 = .ok (.iconst 0, 1) := by decide +kernel
theorem d_Bytes_has_31 : decode b_Bytes_has 31 = .ok (.ireturn, 1) := by decide +kernel
theorem d_Bytes_get_0 : decode b_Bytes_get 0 = .ok (.iload_n 1, 1) := by decide +kernel
theorem d_Bytes_get_1 : decode b_Bytes_get 1 = .ok (.ifCond .lt 24, 3) := by decide +kernel
theorem d_Bytes_get_4 : decode b_Bytes_get 4 = .ok (.iload_n 1, 1) := by decide +kernel
theorem d_Bytes_get_5 : decode b_Bytes_get 5 = .ok (.aload_n 0, 1) := by decide +kernel
theorem d_Bytes_get_6 : decode b_Bytes_get 6 = .ok (.getfield 19, 3) := by decide +kernel
theorem d_Bytes_get_9 : decode b_Bytes_get 9 = .ok (.if_icmp .ge 16, 3) := by decide +kernel
theorem d_Bytes_get_12 : decode b_Bytes_get 12 = .ok (.aload_n 0, 1) := by decide +kernel
theorem d_Bytes_get_13 : decode b_Bytes_get 13 = .ok (.getfield 15, 3) := by decide +kernel
theorem d_Bytes_get_16 : decode b_Bytes_get 16 = .ok (.iload_n 1, 1) := by decide +kernel
theorem d_Bytes_get_17 : decode b_Bytes_get 17 = .ok (.baload, 1) := by decide +kernel
theorem d_Bytes_get_18 : decode b_Bytes_get 18 = .ok (.sipush 255, 3) := by decide +kernel
theorem d_Bytes_get_21 : decode b_Bytes_get 21 = .ok (.iand, 1) := by decide +kernel
theorem d_Bytes_get_22 : decode b_Bytes_get 22 = .ok (.goto 4, 3) := by decide +kernel
theorem d_Bytes_get_25 : decode b_Bytes_get 25 = .ok (.iconst (-1), 1) := by decide +kernel
theorem d_Bytes_get_26 : decode b_Bytes_get 26 = .ok (.ireturn, 1) := by decide +kernel
theorem d_Bytes_put_0 : decode b_Bytes_put 0 = .ok (.iload_n 1, 1) := by decide +kernel
theorem d_Bytes_put_1 : decode b_Bytes_put 1 = .ok (.ifCond .lt 19, 3) := by decide +kernel
theorem d_Bytes_put_4 : decode b_Bytes_put 4 = .ok (.iload_n 1, 1) := by decide +kernel
theorem d_Bytes_put_5 : decode b_Bytes_put 5 = .ok (.aload_n 0, 1) := by decide +kernel
theorem d_Bytes_put_6 : decode b_Bytes_put 6 = .ok (.getfield 19, 3) := by decide +kernel
theorem d_Bytes_put_9 : decode b_Bytes_put 9 = .ok (.if_icmp .ge 11, 3) := by decide +kernel
theorem d_Bytes_put_12 : decode b_Bytes_put 12 = .ok (.aload_n 0, 1) := by decide +kernel
theorem d_Bytes_put_13 : decode b_Bytes_put 13 = .ok (.getfield 15, 3) := by decide +kernel
theorem d_Bytes_put_16 : decode b_Bytes_put 16 = .ok (.iload_n 1, 1) := by decide +kernel
theorem d_Bytes_put_17 : decode b_Bytes_put 17 = .ok (.iload_n 2, 1) := by decide +kernel
theorem d_Bytes_put_18 : decode b_Bytes_put 18 = .ok (.i2b, 1) := by decide +kernel
theorem d_Bytes_put_19 : decode b_Bytes_put 19 = .ok (.bastore, 1) := by decide +kernel
theorem d_Bytes_put_20 : decode b_Bytes_put 20 = .ok (.return_, 1) := by decide +kernel
theorem d_Bytes_firstZero_0 : decode b_Bytes_firstZero 0 = .ok (.iload_n 1, 1) := by decide +kernel
theorem d_Bytes_firstZero_1 : decode b_Bytes_firstZero 1 = .ok (.istore_n 3, 1) := by decide +kernel
theorem d_Bytes_firstZero_2 : decode b_Bytes_firstZero 2 = .ok (.iload_n 3, 1) := by decide +kernel
theorem d_Bytes_firstZero_3 : decode b_Bytes_firstZero 3 = .ok (.iload_n 2, 1) := by decide +kernel
theorem d_Bytes_firstZero_4 : decode b_Bytes_firstZero 4 = .ok (.if_icmp .ge 19, 3) := by decide +kernel
theorem d_Bytes_firstZero_7 : decode b_Bytes_firstZero 7 = .ok (.aload_n 0, 1) := by decide +kernel
theorem d_Bytes_firstZero_8 : decode b_Bytes_firstZero 8 = .ok (.iload_n 3, 1) := by decide +kernel
theorem d_Bytes_firstZero_9 : decode b_Bytes_firstZero 9 = .ok (.invokevirtual 22, 3) := by decide +kernel
theorem d_Bytes_firstZero_12 : decode b_Bytes_firstZero 12 = .ok (.ifCond .ne 5, 3) := by decide +kernel
theorem d_Bytes_firstZero_15 : decode b_Bytes_firstZero 15 = .ok (.iload_n 3, 1) := by decide +kernel
theorem d_Bytes_firstZero_16 : decode b_Bytes_firstZero 16 = .ok (.ireturn, 1) := by decide +kernel
theorem d_Bytes_firstZero_17 : decode b_Bytes_firstZero 17 = .ok (.iinc 3 1, 3) := by decide +kernel
theorem d_Bytes_firstZero_20 : decode b_Bytes_firstZero 20 = .ok (.goto (-18), 3) := by decide +kernel
theorem d_Bytes_firstZero_23 : decode b_Bytes_firstZero 23 = .ok (.iconst (-1), 1) := by decide +kernel
theorem d_Bytes_firstZero_24 : decode b_Bytes_firstZero 24 = .ok (.ireturn, 1) := by decide +kernel
theorem d_Bytes_numberAt_0 : decode b_Bytes_numberAt 0 = .ok (.lconst 0, 1) := by decide +kernel
theorem d_Bytes_numberAt_1 : decode b_Bytes_numberAt 1 = .ok (.lstore_n 3, 1) := by decide +kernel
theorem d_Bytes_numberAt_2 : decode b_Bytes_numberAt 2 = .ok (.iload_n 2, 1) := by decide +kernel
theorem d_Bytes_numberAt_3 : decode b_Bytes_numberAt 3 = .ok (.iconst 1, 1) := by decide +kernel
theorem d_Bytes_numberAt_4 : decode b_Bytes_numberAt 4 = .ok (.isub, 1) := by decide +kernel
theorem d_Bytes_numberAt_5 : decode b_Bytes_numberAt 5 = .ok (.istore 5, 2) := by decide +kernel
theorem d_Bytes_numberAt_7 : decode b_Bytes_numberAt 7 = .ok (.iload 5, 2) := by decide +kernel
theorem d_Bytes_numberAt_9 : decode b_Bytes_numberAt 9 = .ok (.ifCond .lt 28, 3) := by decide +kernel
theorem d_Bytes_numberAt_12 : decode b_Bytes_numberAt 12 = .ok (.lload_n 3, 1) := by decide +kernel
theorem d_Bytes_numberAt_13 : decode b_Bytes_numberAt 13 = .ok (.bipush 8, 2) := by decide +kernel
theorem d_Bytes_numberAt_15 : decode b_Bytes_numberAt 15 = .ok (.lshl, 1) := by decide +kernel
theorem d_Bytes_numberAt_16 : decode b_Bytes_numberAt 16 = .ok (.aload_n 0, 1) := by decide +kernel
theorem d_Bytes_numberAt_17 : decode b_Bytes_numberAt 17 = .ok (.iload_n 1, 1) := by decide +kernel
theorem d_Bytes_numberAt_18 : decode b_Bytes_numberAt 18 = .ok (.iload 5, 2) := by decide +kernel
theorem d_Bytes_numberAt_20 : decode b_Bytes_numberAt 20 = .ok (.iadd, 1) := by decide +kernel
theorem d_Bytes_numberAt_21 : decode b_Bytes_numberAt 21 = .ok (.invokevirtual 22, 3) := by decide +kernel
theorem d_Bytes_numberAt_24 : decode b_Bytes_numberAt 24 = .ok (.sipush 255, 3) := by decide +kernel
theorem d_Bytes_numberAt_27 : decode b_Bytes_numberAt 27 = .ok (.iand, 1) := by decide +kernel
theorem d_Bytes_numberAt_28 : decode b_Bytes_numberAt 28 = .ok (.i2l, 1) := by decide +kernel
theorem d_Bytes_numberAt_29 : decode b_Bytes_numberAt 29 = .ok (.lor, 1) := by decide +kernel
theorem d_Bytes_numberAt_30 : decode b_Bytes_numberAt 30 = .ok (.lstore_n 3, 1) := by decide +kernel
theorem d_Bytes_numberAt_31 : decode b_Bytes_numberAt 31 = .ok (.iinc 5 (-1), 3) := by decide +kernel
theorem d_Bytes_numberAt_34 : decode b_Bytes_numberAt 34 = .ok (.goto (-27), 3) := by decide +kernel
theorem d_Bytes_numberAt_37 : decode b_Bytes_numberAt 37 = .ok (.lload_n 3, 1) := by decide +kernel
theorem d_Bytes_numberAt_38 : decode b_Bytes_numberAt 38 = .ok (.lreturn, 1) := by decide +kernel
theorem d_Bytes_putNumber_0 : decode b_Bytes_putNumber 0 = .ok (.iconst 0, 1) := by decide +kernel
theorem d_Bytes_putNumber_1 : decode b_Bytes_putNumber 1 = .ok (.istore 5, 2) := by decide +kernel
theorem d_Bytes_putNumber_3 : decode b_Bytes_putNumber 3 = .ok (.iload 5, 2) := by decide +kernel
theorem d_Bytes_putNumber_5 : decode b_Bytes_putNumber 5 = .ok (.iload_n 2, 1) := by decide +kernel
theorem d_Bytes_putNumber_6 : decode b_Bytes_putNumber 6 = .ok (.if_icmp .ge 25, 3) := by decide +kernel
theorem d_Bytes_putNumber_9 : decode b_Bytes_putNumber 9 = .ok (.aload_n 0, 1) := by decide +kernel
theorem d_Bytes_putNumber_10 : decode b_Bytes_putNumber 10 = .ok (.iload_n 1, 1) := by decide +kernel
theorem d_Bytes_putNumber_11 : decode b_Bytes_putNumber 11 = .ok (.iload 5, 2) := by decide +kernel
theorem d_Bytes_putNumber_13 : decode b_Bytes_putNumber 13 = .ok (.iadd, 1) := by decide +kernel
theorem d_Bytes_putNumber_14 : decode b_Bytes_putNumber 14 = .ok (.lload_n 3, 1) := by decide +kernel
theorem d_Bytes_putNumber_15 : decode b_Bytes_putNumber 15 = .ok (.bipush 8, 2) := by decide +kernel
theorem d_Bytes_putNumber_17 : decode b_Bytes_putNumber 17 = .ok (.iload 5, 2) := by decide +kernel
theorem d_Bytes_putNumber_19 : decode b_Bytes_putNumber 19 = .ok (.imul, 1) := by decide +kernel
theorem d_Bytes_putNumber_20 : decode b_Bytes_putNumber 20 = .ok (.lshr, 1) := by decide +kernel
theorem d_Bytes_putNumber_21 : decode b_Bytes_putNumber 21 = .ok (.l2i, 1) := by decide +kernel
theorem d_Bytes_putNumber_22 : decode b_Bytes_putNumber 22 = .ok (.invokevirtual 26, 3) := by decide +kernel
theorem d_Bytes_putNumber_25 : decode b_Bytes_putNumber 25 = .ok (.iinc 5 1, 3) := by decide +kernel
theorem d_Bytes_putNumber_28 : decode b_Bytes_putNumber 28 = .ok (.goto (-25), 3) := by decide +kernel
theorem d_Bytes_putNumber_31 : decode b_Bytes_putNumber 31 = .ok (.return_, 1) := by decide +kernel
theorem d_Bytes_digits_0 : decode b_Bytes_digits 0 = .ok (.iload_n 0, 1) := by decide +kernel
theorem d_Bytes_digits_1 : decode b_Bytes_digits 1 = .ok (.bipush 10, 2) := by decide +kernel
theorem d_Bytes_digits_3 : decode b_Bytes_digits 3 = .ok (.if_icmp .ge 7, 3) := by decide +kernel
theorem d_Bytes_digits_6 : decode b_Bytes_digits 6 = .ok (.iconst 1, 1) := by decide +kernel
theorem d_Bytes_digits_7 : decode b_Bytes_digits 7 = .ok (.goto 25, 3) := by decide +kernel
theorem d_Bytes_digits_10 : decode b_Bytes_digits 10 = .ok (.iload_n 0, 1) := by decide +kernel
theorem d_Bytes_digits_11 : decode b_Bytes_digits 11 = .ok (.bipush 100, 2) := by decide +kernel
theorem d_Bytes_digits_13 : decode b_Bytes_digits 13 = .ok (.if_icmp .ge 7, 3) := by decide +kernel
theorem d_Bytes_digits_16 : decode b_Bytes_digits 16 = .ok (.iconst 2, 1) := by decide +kernel
theorem d_Bytes_digits_17 : decode b_Bytes_digits 17 = .ok (.goto 15, 3) := by decide +kernel
theorem d_Bytes_digits_20 : decode b_Bytes_digits 20 = .ok (.iload_n 0, 1) := by decide +kernel
theorem d_Bytes_digits_21 : decode b_Bytes_digits 21 = .ok (.sipush 1000, 3) := by decide +kernel
theorem d_Bytes_digits_24 : decode b_Bytes_digits 24 = .ok (.if_icmp .ge 7, 3) := by decide +kernel
theorem d_Bytes_digits_27 : decode b_Bytes_digits 27 = .ok (.iconst 3, 1) := by decide +kernel
theorem d_Bytes_digits_28 : decode b_Bytes_digits 28 = .ok (.goto 4, 3) := by decide +kernel
theorem d_Bytes_digits_31 : decode b_Bytes_digits 31 = .ok (.iconst 4, 1) := by decide +kernel
theorem d_Bytes_digits_32 : decode b_Bytes_digits 32 = .ok (.ireturn, 1) := by decide +kernel
theorem d_Bytes_putDecimal_0 : decode b_Bytes_putDecimal 0 = .ok (.iload_n 3, 1) := by decide +kernel
theorem d_Bytes_putDecimal_1 : decode b_Bytes_putDecimal 1 = .ok (.istore 4, 2) := by decide +kernel
theorem d_Bytes_putDecimal_3 : decode b_Bytes_putDecimal 3 = .ok (.iload_n 2, 1) := by decide +kernel
theorem d_Bytes_putDecimal_4 : decode b_Bytes_putDecimal 4 = .ok (.iconst 1, 1) := by decide +kernel
theorem d_Bytes_putDecimal_5 : decode b_Bytes_putDecimal 5 = .ok (.isub, 1) := by decide +kernel
theorem d_Bytes_putDecimal_6 : decode b_Bytes_putDecimal 6 = .ok (.istore 5, 2) := by decide +kernel
theorem d_Bytes_putDecimal_8 : decode b_Bytes_putDecimal 8 = .ok (.iload 5, 2) := by decide +kernel
theorem d_Bytes_putDecimal_10 : decode b_Bytes_putDecimal 10 = .ok (.ifCond .lt 32, 3) := by decide +kernel
theorem d_Bytes_putDecimal_13 : decode b_Bytes_putDecimal 13 = .ok (.aload_n 0, 1) := by decide +kernel
theorem d_Bytes_putDecimal_14 : decode b_Bytes_putDecimal 14 = .ok (.iload_n 1, 1) := by decide +kernel
theorem d_Bytes_putDecimal_15 : decode b_Bytes_putDecimal 15 = .ok (.iload 5, 2) := by decide +kernel
theorem d_Bytes_putDecimal_17 : decode b_Bytes_putDecimal 17 = .ok (.iadd, 1) := by decide +kernel
theorem d_Bytes_putDecimal_18 : decode b_Bytes_putDecimal 18 = .ok (.bipush 48, 2) := by decide +kernel
theorem d_Bytes_putDecimal_20 : decode b_Bytes_putDecimal 20 = .ok (.iload 4, 2) := by decide +kernel
theorem d_Bytes_putDecimal_22 : decode b_Bytes_putDecimal 22 = .ok (.bipush 10, 2) := by decide +kernel
theorem d_Bytes_putDecimal_24 : decode b_Bytes_putDecimal 24 = .ok (.irem, 1) := by decide +kernel
theorem d_Bytes_putDecimal_25 : decode b_Bytes_putDecimal 25 = .ok (.iadd, 1) := by decide +kernel
theorem d_Bytes_putDecimal_26 : decode b_Bytes_putDecimal 26 = .ok (.invokevirtual 26, 3) := by decide +kernel
theorem d_Bytes_putDecimal_29 : decode b_Bytes_putDecimal 29 = .ok (.iload 4, 2) := by decide +kernel
theorem d_Bytes_putDecimal_31 : decode b_Bytes_putDecimal 31 = .ok (.bipush 10, 2) := by decide +kernel
theorem d_Bytes_putDecimal_33 : decode b_Bytes_putDecimal 33 = .ok (.idiv, 1) := by decide +kernel
theorem d_Bytes_putDecimal_34 : decode b_Bytes_putDecimal 34 = .ok (.istore 4, 2) := by decide +kernel
theorem d_Bytes_putDecimal_36 : decode b_Bytes_putDecimal 36 = .ok (.iinc 5 (-1), 3) := by decide +kernel
theorem d_Bytes_putDecimal_39 : decode b_Bytes_putDecimal 39 = .ok (.goto (-31), 3) := by decide +kernel
theorem d_Bytes_putDecimal_42 : decode b_Bytes_putDecimal 42 = .ok (.return_, 1) := by decide +kernel
theorem d_Bytes_hasDecimal_0 : decode b_Bytes_hasDecimal 0 = .ok (.iload_n 3, 1) := by decide +kernel
theorem d_Bytes_hasDecimal_1 : decode b_Bytes_hasDecimal 1 = .ok (.istore 4, 2) := by decide +kernel
theorem d_Bytes_hasDecimal_3 : decode b_Bytes_hasDecimal 3 = .ok (.iload_n 2, 1) := by decide +kernel
theorem d_Bytes_hasDecimal_4 : decode b_Bytes_hasDecimal 4 = .ok (.iconst 1, 1) := by decide +kernel
theorem d_Bytes_hasDecimal_5 : decode b_Bytes_hasDecimal 5 = .ok (.isub, 1) := by decide +kernel
theorem d_Bytes_hasDecimal_6 : decode b_Bytes_hasDecimal 6 = .ok (.istore 5, 2) := by decide +kernel
theorem d_Bytes_hasDecimal_8 : decode b_Bytes_hasDecimal 8 = .ok (.iload 5, 2) := by decide +kernel
theorem d_Bytes_hasDecimal_10 : decode b_Bytes_hasDecimal 10 = .ok (.ifCond .lt 37, 3) := by decide +kernel
theorem d_Bytes_hasDecimal_13 : decode b_Bytes_hasDecimal 13 = .ok (.aload_n 0, 1) := by decide +kernel
theorem d_Bytes_hasDecimal_14 : decode b_Bytes_hasDecimal 14 = .ok (.iload_n 1, 1) := by decide +kernel
theorem d_Bytes_hasDecimal_15 : decode b_Bytes_hasDecimal 15 = .ok (.iload 5, 2) := by decide +kernel
theorem d_Bytes_hasDecimal_17 : decode b_Bytes_hasDecimal 17 = .ok (.iadd, 1) := by decide +kernel
theorem d_Bytes_hasDecimal_18 : decode b_Bytes_hasDecimal 18 = .ok (.invokevirtual 22, 3) := by decide +kernel
theorem d_Bytes_hasDecimal_21 : decode b_Bytes_hasDecimal 21 = .ok (.bipush 48, 2) := by decide +kernel
theorem d_Bytes_hasDecimal_23 : decode b_Bytes_hasDecimal 23 = .ok (.iload 4, 2) := by decide +kernel
theorem d_Bytes_hasDecimal_25 : decode b_Bytes_hasDecimal 25 = .ok (.bipush 10, 2) := by decide +kernel
theorem d_Bytes_hasDecimal_27 : decode b_Bytes_hasDecimal 27 = .ok (.irem, 1) := by decide +kernel
theorem d_Bytes_hasDecimal_28 : decode b_Bytes_hasDecimal 28 = .ok (.iadd, 1) := by decide +kernel
theorem d_Bytes_hasDecimal_29 : decode b_Bytes_hasDecimal 29 = .ok (.if_icmp .eq 5, 3) := by decide +kernel
theorem d_Bytes_hasDecimal_32 : decode b_Bytes_hasDecimal 32 = .ok (.iconst 0, 1) := by decide +kernel
theorem d_Bytes_hasDecimal_33 : decode b_Bytes_hasDecimal 33 = .ok (.ireturn, 1) := by decide +kernel
theorem d_Bytes_hasDecimal_34 : decode b_Bytes_hasDecimal 34 = .ok (.iload 4, 2) := by decide +kernel
theorem d_Bytes_hasDecimal_36 : decode b_Bytes_hasDecimal 36 = .ok (.bipush 10, 2) := by decide +kernel
theorem d_Bytes_hasDecimal_38 : decode b_Bytes_hasDecimal 38 = .ok (.idiv, 1) := by decide +kernel
theorem d_Bytes_hasDecimal_39 : decode b_Bytes_hasDecimal 39 = .ok (.istore 4, 2) := by decide +kernel
theorem d_Bytes_hasDecimal_41 : decode b_Bytes_hasDecimal 41 = .ok (.iinc 5 (-1), 3) := by decide +kernel
theorem d_Bytes_hasDecimal_44 : decode b_Bytes_hasDecimal 44 = .ok (.goto (-36), 3) := by decide +kernel
theorem d_Bytes_hasDecimal_47 : decode b_Bytes_hasDecimal 47 = .ok (.iload_n 2, 1) := by decide +kernel
theorem d_Bytes_hasDecimal_48 : decode b_Bytes_hasDecimal 48 = .ok (.iload_n 3, 1) := by decide +kernel
theorem d_Bytes_hasDecimal_49 : decode b_Bytes_hasDecimal 49 = .ok (.invokestatic 30, 3) := by decide +kernel
theorem d_Bytes_hasDecimal_52 : decode b_Bytes_hasDecimal 52 = .ok (.if_icmp .ne 7, 3) := by decide +kernel
theorem d_Bytes_hasDecimal_55 : decode b_Bytes_hasDecimal 55 = .ok (.iconst 1, 1) := by decide +kernel
theorem d_Bytes_hasDecimal_56 : decode b_Bytes_hasDecimal 56 = .ok (.goto 4, 3) := by decide +kernel
theorem d_Bytes_hasDecimal_59 : decode b_Bytes_hasDecimal 59 = .ok (.iconst 0, 1) := by decide +kernel
theorem d_Bytes_hasDecimal_60 : decode b_Bytes_hasDecimal 60 = .ok (.ireturn, 1) := by decide +kernel
theorem d_Bytes_equalsAt_0 : decode b_Bytes_equalsAt 0 = .ok (.iconst 0, 1) := by decide +kernel
theorem d_Bytes_equalsAt_1 : decode b_Bytes_equalsAt 1 = .ok (.istore 5, 2) := by decide +kernel
theorem d_Bytes_equalsAt_3 : decode b_Bytes_equalsAt 3 = .ok (.iload 5, 2) := by decide +kernel
theorem d_Bytes_equalsAt_5 : decode b_Bytes_equalsAt 5 = .ok (.iload 4, 2) := by decide +kernel
theorem d_Bytes_equalsAt_7 : decode b_Bytes_equalsAt 7 = .ok (.if_icmp .ge 30, 3) := by decide +kernel
theorem d_Bytes_equalsAt_10 : decode b_Bytes_equalsAt 10 = .ok (.aload_n 0, 1) := by decide +kernel
theorem d_Bytes_equalsAt_11 : decode b_Bytes_equalsAt 11 = .ok (.iload_n 1, 1) := by decide +kernel
theorem d_Bytes_equalsAt_12 : decode b_Bytes_equalsAt 12 = .ok (.iload 5, 2) := by decide +kernel
theorem d_Bytes_equalsAt_14 : decode b_Bytes_equalsAt 14 = .ok (.iadd, 1) := by decide +kernel
theorem d_Bytes_equalsAt_15 : decode b_Bytes_equalsAt 15 = .ok (.invokevirtual 22, 3) := by decide +kernel
theorem d_Bytes_equalsAt_18 : decode b_Bytes_equalsAt 18 = .ok (.aload_n 2, 1) := by decide +kernel
theorem d_Bytes_equalsAt_19 : decode b_Bytes_equalsAt 19 = .ok (.iload_n 3, 1) := by decide +kernel
theorem d_Bytes_equalsAt_20 : decode b_Bytes_equalsAt 20 = .ok (.iload 5, 2) := by decide +kernel
theorem d_Bytes_equalsAt_22 : decode b_Bytes_equalsAt 22 = .ok (.iadd, 1) := by decide +kernel
theorem d_Bytes_equalsAt_23 : decode b_Bytes_equalsAt 23 = .ok (.invokevirtual 22, 3) := by decide +kernel
theorem d_Bytes_equalsAt_26 : decode b_Bytes_equalsAt 26 = .ok (.if_icmp .eq 5, 3) := by decide +kernel
theorem d_Bytes_equalsAt_29 : decode b_Bytes_equalsAt 29 = .ok (.iconst 0, 1) := by decide +kernel
theorem d_Bytes_equalsAt_30 : decode b_Bytes_equalsAt 30 = .ok (.ireturn, 1) := by decide +kernel
theorem d_Bytes_equalsAt_31 : decode b_Bytes_equalsAt 31 = .ok (.iinc 5 1, 3) := by decide +kernel
theorem d_Bytes_equalsAt_34 : decode b_Bytes_equalsAt 34 = .ok (.goto (-31), 3) := by decide +kernel
theorem d_Bytes_equalsAt_37 : decode b_Bytes_equalsAt 37 = .ok (.iconst 1, 1) := by decide +kernel
theorem d_Bytes_equalsAt_38 : decode b_Bytes_equalsAt 38 = .ok (.ireturn, 1) := by decide +kernel
theorem d_Bytes_openGap_0 : decode b_Bytes_openGap 0 = .ok (.iload_n 1, 1) := by decide +kernel
theorem d_Bytes_openGap_1 : decode b_Bytes_openGap 1 = .ok (.ifCond .lt 28, 3) := by decide +kernel
theorem d_Bytes_openGap_4 : decode b_Bytes_openGap 4 = .ok (.iload_n 1, 1) := by decide +kernel
theorem d_Bytes_openGap_5 : decode b_Bytes_openGap 5 = .ok (.aload_n 0, 1) := by decide +kernel
theorem d_Bytes_openGap_6 : decode b_Bytes_openGap 6 = .ok (.getfield 19, 3) := by decide +kernel
theorem d_Bytes_openGap_9 : decode b_Bytes_openGap 9 = .ok (.if_icmp .gt 20, 3) := by decide +kernel
theorem d_Bytes_openGap_12 : decode b_Bytes_openGap 12 = .ok (.iload_n 2, 1) := by decide +kernel
theorem d_Bytes_openGap_13 : decode b_Bytes_openGap 13 = .ok (.ifCond .lt 16, 3) := by decide +kernel
theorem d_Bytes_openGap_16 : decode b_Bytes_openGap 16 = .ok (.iload_n 2, 1) := by decide +kernel
theorem d_Bytes_openGap_17 : decode b_Bytes_openGap 17 = .ok (.aload_n 0, 1) := by decide +kernel
theorem d_Bytes_openGap_18 : decode b_Bytes_openGap 18 = .ok (.getfield 9, 3) := by decide +kernel
theorem d_Bytes_openGap_21 : decode b_Bytes_openGap 21 = .ok (.aload_n 0, 1) := by decide +kernel
theorem d_Bytes_openGap_22 : decode b_Bytes_openGap 22 = .ok (.getfield 19, 3) := by decide +kernel
theorem d_Bytes_openGap_25 : decode b_Bytes_openGap 25 = .ok (.isub, 1) := by decide +kernel
theorem d_Bytes_openGap_26 : decode b_Bytes_openGap 26 = .ok (.if_icmp .le 4, 3) := by decide +kernel
theorem d_Bytes_openGap_29 : decode b_Bytes_openGap 29 = .ok (.return_, 1) := by decide +kernel
theorem d_Bytes_openGap_30 : decode b_Bytes_openGap 30 = .ok (.aload_n 0, 1) := by decide +kernel
theorem d_Bytes_openGap_31 : decode b_Bytes_openGap 31 = .ok (.getfield 19, 3) := by decide +kernel
theorem d_Bytes_openGap_34 : decode b_Bytes_openGap 34 = .ok (.iload_n 2, 1) := by decide +kernel
theorem d_Bytes_openGap_35 : decode b_Bytes_openGap 35 = .ok (.iadd, 1) := by decide +kernel
theorem d_Bytes_openGap_36 : decode b_Bytes_openGap 36 = .ok (.aload_n 0, 1) := by decide +kernel
theorem d_Bytes_openGap_37 : decode b_Bytes_openGap 37 = .ok (.getfield 15, 3) := by decide +kernel
theorem d_Bytes_openGap_40 : decode b_Bytes_openGap 40 = .ok (.arraylength, 1) := by decide +kernel
theorem d_Bytes_openGap_41 : decode b_Bytes_openGap 41 = .ok (.if_icmp .le 18, 3) := by decide +kernel
theorem d_Bytes_openGap_44 : decode b_Bytes_openGap 44 = .ok (.aload_n 0, 1) := by decide +kernel
theorem d_Bytes_openGap_45 : decode b_Bytes_openGap 45 = .ok (.aload_n 0, 1) := by decide +kernel
theorem d_Bytes_openGap_46 : decode b_Bytes_openGap 46 = .ok (.getfield 15, 3) := by decide +kernel
theorem d_Bytes_openGap_49 : decode b_Bytes_openGap 49 = .ok (.aload_n 0, 1) := by decide +kernel
theorem d_Bytes_openGap_50 : decode b_Bytes_openGap 50 = .ok (.getfield 9, 3) := by decide +kernel
theorem d_Bytes_openGap_53 : decode b_Bytes_openGap 53 = .ok (.invokestatic 33, 3) := by decide +kernel
theorem d_Bytes_openGap_56 : decode b_Bytes_openGap 56 = .ok (.putfield 15, 3) := by decide +kernel
theorem d_Bytes_openGap_59 : decode b_Bytes_openGap 59 = .ok (.aload_n 0, 1) := by decide +kernel
theorem d_Bytes_openGap_60 : decode b_Bytes_openGap 60 = .ok (.getfield 15, 3) := by decide +kernel
theorem d_Bytes_openGap_63 : decode b_Bytes_openGap 63 = .ok (.iload_n 1, 1) := by decide +kernel
theorem d_Bytes_openGap_64 : decode b_Bytes_openGap 64 = .ok (.aload_n 0, 1) := by decide +kernel
theorem d_Bytes_openGap_65 : decode b_Bytes_openGap 65 = .ok (.getfield 15, 3) := by decide +kernel
theorem d_Bytes_openGap_68 : decode b_Bytes_openGap 68 = .ok (.iload_n 1, 1) := by decide +kernel
theorem d_Bytes_openGap_69 : decode b_Bytes_openGap 69 = .ok (.iload_n 2, 1) := by decide +kernel
theorem d_Bytes_openGap_70 : decode b_Bytes_openGap 70 = .ok (.iadd, 1) := by decide +kernel
theorem d_Bytes_openGap_71 : decode b_Bytes_openGap 71 = .ok (.aload_n 0, 1) := by decide +kernel
theorem d_Bytes_openGap_72 : decode b_Bytes_openGap 72 = .ok (.getfield 19, 3) := by decide +kernel
theorem d_Bytes_openGap_75 : decode b_Bytes_openGap 75 = .ok (.iload_n 1, 1) := by decide +kernel
theorem d_Bytes_openGap_76 : decode b_Bytes_openGap 76 = .ok (.isub, 1) := by decide +kernel
theorem d_Bytes_openGap_77 : decode b_Bytes_openGap 77 = .ok (.invokestatic 39, 3) := by decide +kernel
theorem d_Bytes_openGap_80 : decode b_Bytes_openGap 80 = .ok (.aload_n 0, 1) := by decide +kernel
theorem d_Bytes_openGap_81 : decode b_Bytes_openGap 81 = .ok (.dup, 1) := by decide +kernel
theorem d_Bytes_openGap_82 : decode b_Bytes_openGap 82 = .ok (.getfield 19, 3) := by decide +kernel
theorem d_Bytes_openGap_85 : decode b_Bytes_openGap 85 = .ok (.iload_n 2, 1) := by decide +kernel
theorem d_Bytes_openGap_86 : decode b_Bytes_openGap 86 = .ok (.iadd, 1) := by decide +kernel
theorem d_Bytes_openGap_87 : decode b_Bytes_openGap 87 = .ok (.putfield 19, 3) := by decide +kernel
theorem d_Bytes_openGap_90 : decode b_Bytes_openGap 90 = .ok (.return_, 1) := by decide +kernel
theorem d_Bytes_cut_0 : decode b_Bytes_cut 0 = .ok (.iload_n 1, 1) := by decide +kernel
theorem d_Bytes_cut_1 : decode b_Bytes_cut 1 = .ok (.ifCond .lt 17, 3) := by decide +kernel
theorem d_Bytes_cut_4 : decode b_Bytes_cut 4 = .ok (.iload_n 2, 1) := by decide +kernel
theorem d_Bytes_cut_5 : decode b_Bytes_cut 5 = .ok (.ifCond .lt 13, 3) := by decide +kernel
theorem d_Bytes_cut_8 : decode b_Bytes_cut 8 = .ok (.iload_n 1, 1) := by decide +kernel
theorem d_Bytes_cut_9 : decode b_Bytes_cut 9 = .ok (.aload_n 0, 1) := by decide +kernel
theorem d_Bytes_cut_10 : decode b_Bytes_cut 10 = .ok (.getfield 19, 3) := by decide +kernel
theorem d_Bytes_cut_13 : decode b_Bytes_cut 13 = .ok (.iload_n 2, 1) := by decide +kernel
theorem d_Bytes_cut_14 : decode b_Bytes_cut 14 = .ok (.isub, 1) := by decide +kernel
theorem d_Bytes_cut_15 : decode b_Bytes_cut 15 = .ok (.if_icmp .le 4, 3) := by decide +kernel
theorem d_Bytes_cut_18 : decode b_Bytes_cut 18 = .ok (.return_, 1) := by decide +kernel
theorem d_Bytes_cut_19 : decode b_Bytes_cut 19 = .ok (.aload_n 0, 1) := by decide +kernel
theorem d_Bytes_cut_20 : decode b_Bytes_cut 20 = .ok (.getfield 15, 3) := by decide +kernel
theorem d_Bytes_cut_23 : decode b_Bytes_cut 23 = .ok (.iload_n 1, 1) := by decide +kernel
theorem d_Bytes_cut_24 : decode b_Bytes_cut 24 = .ok (.iload_n 2, 1) := by decide +kernel
theorem d_Bytes_cut_25 : decode b_Bytes_cut 25 = .ok (.iadd, 1) := by decide +kernel
theorem d_Bytes_cut_26 : decode b_Bytes_cut 26 = .ok (.aload_n 0, 1) := by decide +kernel
theorem d_Bytes_cut_27 : decode b_Bytes_cut 27 = .ok (.getfield 15, 3) := by decide +kernel
theorem d_Bytes_cut_30 : decode b_Bytes_cut 30 = .ok (.iload_n 1, 1) := by decide +kernel
theorem d_Bytes_cut_31 : decode b_Bytes_cut 31 = .ok (.aload_n 0, 1) := by decide +kernel
theorem d_Bytes_cut_32 : decode b_Bytes_cut 32 = .ok (.getfield 19, 3) := by decide +kernel
theorem d_Bytes_cut_35 : decode b_Bytes_cut 35 = .ok (.iload_n 1, 1) := by decide +kernel
theorem d_Bytes_cut_36 : decode b_Bytes_cut 36 = .ok (.isub, 1) := by decide +kernel
theorem d_Bytes_cut_37 : decode b_Bytes_cut 37 = .ok (.iload_n 2, 1) := by decide +kernel
theorem d_Bytes_cut_38 : decode b_Bytes_cut 38 = .ok (.isub, 1) := by decide +kernel
theorem d_Bytes_cut_39 : decode b_Bytes_cut 39 = .ok (.invokestatic 39, 3) := by decide +kernel
theorem d_Bytes_cut_42 : decode b_Bytes_cut 42 = .ok (.aload_n 0, 1) := by decide +kernel
theorem d_Bytes_cut_43 : decode b_Bytes_cut 43 = .ok (.dup, 1) := by decide +kernel
theorem d_Bytes_cut_44 : decode b_Bytes_cut 44 = .ok (.getfield 19, 3) := by decide +kernel
theorem d_Bytes_cut_47 : decode b_Bytes_cut 47 = .ok (.iload_n 2, 1) := by decide +kernel
theorem d_Bytes_cut_48 : decode b_Bytes_cut 48 = .ok (.isub, 1) := by decide +kernel
theorem d_Bytes_cut_49 : decode b_Bytes_cut 49 = .ok (.putfield 19, 3) := by decide +kernel
theorem d_Bytes_cut_52 : decode b_Bytes_cut 52 = .ok (.return_, 1) := by decide +kernel
theorem d_Bytes_putFrom_0 : decode b_Bytes_putFrom 0 = .ok (.iload_n 1, 1) := by decide +kernel
theorem d_Bytes_putFrom_1 : decode b_Bytes_putFrom 1 = .ok (.ifCond .lt 34, 3) := by decide +kernel
theorem d_Bytes_putFrom_4 : decode b_Bytes_putFrom 4 = .ok (.iload_n 3, 1) := by decide +kernel
theorem d_Bytes_putFrom_5 : decode b_Bytes_putFrom 5 = .ok (.ifCond .lt 30, 3) := by decide +kernel
theorem d_Bytes_putFrom_8 : decode b_Bytes_putFrom 8 = .ok (.iload 4, 2) := by decide +kernel
theorem d_Bytes_putFrom_10 : decode b_Bytes_putFrom 10 = .ok (.ifCond .lt 25, 3) := by decide +kernel
theorem d_Bytes_putFrom_13 : decode b_Bytes_putFrom 13 = .ok (.iload_n 1, 1) := by decide +kernel
theorem d_Bytes_putFrom_14 : decode b_Bytes_putFrom 14 = .ok (.aload_n 0, 1) := by decide +kernel
theorem d_Bytes_putFrom_15 : decode b_Bytes_putFrom 15 = .ok (.getfield 19, 3) := by decide +kernel
theorem d_Bytes_putFrom_18 : decode b_Bytes_putFrom 18 = .ok (.iload 4, 2) := by decide +kernel
theorem d_Bytes_putFrom_20 : decode b_Bytes_putFrom 20 = .ok (.isub, 1) := by decide +kernel
theorem d_Bytes_putFrom_21 : decode b_Bytes_putFrom 21 = .ok (.if_icmp .gt 14, 3) := by decide +kernel
theorem d_Bytes_putFrom_24 : decode b_Bytes_putFrom 24 = .ok (.iload_n 3, 1) := by decide +kernel
theorem d_Bytes_putFrom_25 : decode b_Bytes_putFrom 25 = .ok (.aload_n 2, 1) := by decide +kernel
theorem d_Bytes_putFrom_26 : decode b_Bytes_putFrom 26 = .ok (.getfield 19, 3) := by decide +kernel
theorem d_Bytes_putFrom_29 : decode b_Bytes_putFrom 29 = .ok (.iload 4, 2) := by decide +kernel
theorem d_Bytes_putFrom_31 : decode b_Bytes_putFrom 31 = .ok (.isub, 1) := by decide +kernel
theorem d_Bytes_putFrom_32 : decode b_Bytes_putFrom 32 = .ok (.if_icmp .le 4, 3) := by decide +kernel
theorem d_Bytes_putFrom_35 : decode b_Bytes_putFrom 35 = .ok (.return_, 1) := by decide +kernel
theorem d_Bytes_putFrom_36 : decode b_Bytes_putFrom 36 = .ok (.aload_n 2, 1) := by decide +kernel
theorem d_Bytes_putFrom_37 : decode b_Bytes_putFrom 37 = .ok (.getfield 15, 3) := by decide +kernel
theorem d_Bytes_putFrom_40 : decode b_Bytes_putFrom 40 = .ok (.iload_n 3, 1) := by decide +kernel
theorem d_Bytes_putFrom_41 : decode b_Bytes_putFrom 41 = .ok (.aload_n 0, 1) := by decide +kernel
theorem d_Bytes_putFrom_42 : decode b_Bytes_putFrom 42 = .ok (.getfield 15, 3) := by decide +kernel
theorem d_Bytes_putFrom_45 : decode b_Bytes_putFrom 45 = .ok (.iload_n 1, 1) := by decide +kernel
theorem d_Bytes_putFrom_46 : decode b_Bytes_putFrom 46 = .ok (.iload 4, 2) := by decide +kernel
theorem d_Bytes_putFrom_48 : decode b_Bytes_putFrom 48 = .ok (.invokestatic 39, 3) := by decide +kernel
theorem d_Bytes_putFrom_51 : decode b_Bytes_putFrom 51 = .ok (.return_, 1) := by decide +kernel
theorem d_Bytes_appendFrom_0 : decode b_Bytes_appendFrom 0 = .ok (.aload_n 0, 1) := by decide +kernel
theorem d_Bytes_appendFrom_1 : decode b_Bytes_appendFrom 1 = .ok (.getfield 19, 3) := by decide +kernel
theorem d_Bytes_appendFrom_4 : decode b_Bytes_appendFrom 4 = .ok (.istore 4, 2) := by decide +kernel
theorem d_Bytes_appendFrom_6 : decode b_Bytes_appendFrom 6 = .ok (.aload_n 0, 1) := by decide +kernel
theorem d_Bytes_appendFrom_7 : decode b_Bytes_appendFrom 7 = .ok (.iload 4, 2) := by decide +kernel
theorem d_Bytes_appendFrom_9 : decode b_Bytes_appendFrom 9 = .ok (.iload_n 3, 1) := by decide +kernel
theorem d_Bytes_appendFrom_10 : decode b_Bytes_appendFrom 10 = .ok (.invokevirtual 45, 3) := by decide +kernel
theorem d_Bytes_appendFrom_13 : decode b_Bytes_appendFrom 13 = .ok (.aload_n 0, 1) := by decide +kernel
theorem d_Bytes_appendFrom_14 : decode b_Bytes_appendFrom 14 = .ok (.iload 4, 2) := by decide +kernel
theorem d_Bytes_appendFrom_16 : decode b_Bytes_appendFrom 16 = .ok (.aload_n 1, 1) := by decide +kernel
theorem d_Bytes_appendFrom_17 : decode b_Bytes_appendFrom 17 = .ok (.iload_n 2, 1) := by decide +kernel
theorem d_Bytes_appendFrom_18 : decode b_Bytes_appendFrom 18 = .ok (.iload_n 3, 1) := by decide +kernel
theorem d_Bytes_appendFrom_19 : decode b_Bytes_appendFrom 19 = .ok (.invokevirtual 48, 3) := by decide +kernel
theorem d_Bytes_appendFrom_22 : decode b_Bytes_appendFrom 22 = .ok (.return_, 1) := by decide +kernel
theorem d_Bytes_appendNumber_0 : decode b_Bytes_appendNumber 0 = .ok (.aload_n 0, 1) := by decide +kernel
theorem d_Bytes_appendNumber_1 : decode b_Bytes_appendNumber 1 = .ok (.getfield 19, 3) := by decide +kernel
theorem d_Bytes_appendNumber_4 : decode b_Bytes_appendNumber 4 = .ok (.istore 4, 2) := by decide +kernel
theorem d_Bytes_appendNumber_6 : decode b_Bytes_appendNumber 6 = .ok (.aload_n 0, 1) := by decide +kernel
theorem d_Bytes_appendNumber_7 : decode b_Bytes_appendNumber 7 = .ok (.iload 4, 2) := by decide +kernel
theorem d_Bytes_appendNumber_9 : decode b_Bytes_appendNumber 9 = .ok (.iload_n 3, 1) := by decide +kernel
theorem d_Bytes_appendNumber_10 : decode b_Bytes_appendNumber 10 = .ok (.invokevirtual 45, 3) := by decide +kernel
theorem d_Bytes_appendNumber_13 : decode b_Bytes_appendNumber 13 = .ok (.aload_n 0, 1) := by decide +kernel
theorem d_Bytes_appendNumber_14 : decode b_Bytes_appendNumber 14 = .ok (.iload 4, 2) := by decide +kernel
theorem d_Bytes_appendNumber_16 : decode b_Bytes_appendNumber 16 = .ok (.iload_n 3, 1) := by decide +kernel
theorem d_Bytes_appendNumber_17 : decode b_Bytes_appendNumber 17 = .ok (.lload_n 1, 1) := by decide +kernel
theorem d_Bytes_appendNumber_18 : decode b_Bytes_appendNumber 18 = .ok (.invokevirtual 52, 3) := by decide +kernel
theorem d_Bytes_appendNumber_21 : decode b_Bytes_appendNumber 21 = .ok (.return_, 1) := by decide +kernel
theorem d_Bytes_appendHighestFirst_0 : decode b_Bytes_appendHighestFirst 0 = .ok (.aload_n 0, 1) := by decide +kernel
theorem d_Bytes_appendHighestFirst_1 : decode b_Bytes_appendHighestFirst 1 = .ok (.getfield 19, 3) := by decide +kernel
theorem d_Bytes_appendHighestFirst_4 : decode b_Bytes_appendHighestFirst 4 = .ok (.istore_n 2, 1) := by decide +kernel
theorem d_Bytes_appendHighestFirst_5 : decode b_Bytes_appendHighestFirst 5 = .ok (.aload_n 0, 1) := by decide +kernel
theorem d_Bytes_appendHighestFirst_6 : decode b_Bytes_appendHighestFirst 6 = .ok (.iload_n 2, 1) := by decide +kernel
theorem d_Bytes_appendHighestFirst_7 : decode b_Bytes_appendHighestFirst 7 = .ok (.iconst 4, 1) := by decide +kernel
theorem d_Bytes_appendHighestFirst_8 : decode b_Bytes_appendHighestFirst 8 = .ok (.invokevirtual 45, 3) := by decide +kernel
theorem d_Bytes_appendHighestFirst_11 : decode b_Bytes_appendHighestFirst 11 = .ok (.iconst 0, 1) := by decide +kernel
theorem d_Bytes_appendHighestFirst_12 : decode b_Bytes_appendHighestFirst 12 = .ok (.istore_n 3, 1) := by decide +kernel
theorem d_Bytes_appendHighestFirst_13 : decode b_Bytes_appendHighestFirst 13 = .ok (.iload_n 3, 1) := by decide +kernel
theorem d_Bytes_appendHighestFirst_14 : decode b_Bytes_appendHighestFirst 14 = .ok (.iconst 4, 1) := by decide +kernel
theorem d_Bytes_appendHighestFirst_15 : decode b_Bytes_appendHighestFirst 15 = .ok (.if_icmp .ge 25, 3) := by decide +kernel
theorem d_Bytes_appendHighestFirst_18 : decode b_Bytes_appendHighestFirst 18 = .ok (.aload_n 0, 1) := by decide +kernel
theorem d_Bytes_appendHighestFirst_19 : decode b_Bytes_appendHighestFirst 19 = .ok (.iload_n 2, 1) := by decide +kernel
theorem d_Bytes_appendHighestFirst_20 : decode b_Bytes_appendHighestFirst 20 = .ok (.iload_n 3, 1) := by decide +kernel
theorem d_Bytes_appendHighestFirst_21 : decode b_Bytes_appendHighestFirst 21 = .ok (.iadd, 1) := by decide +kernel
theorem d_Bytes_appendHighestFirst_22 : decode b_Bytes_appendHighestFirst 22 = .ok (.iload_n 1, 1) := by decide +kernel
theorem d_Bytes_appendHighestFirst_23 : decode b_Bytes_appendHighestFirst 23 = .ok (.bipush 24, 2) := by decide +kernel
theorem d_Bytes_appendHighestFirst_25 : decode b_Bytes_appendHighestFirst 25 = .ok (.bipush 8, 2) := by decide +kernel
theorem d_Bytes_appendHighestFirst_27 : decode b_Bytes_appendHighestFirst 27 = .ok (.iload_n 3, 1) := by decide +kernel
theorem d_Bytes_appendHighestFirst_28 : decode b_Bytes_appendHighestFirst 28 = .ok (.imul, 1) := by decide +kernel
theorem d_Bytes_appendHighestFirst_29 : decode b_Bytes_appendHighestFirst 29 = .ok (.isub, 1) := by decide +kernel
theorem d_Bytes_appendHighestFirst_30 : decode b_Bytes_appendHighestFirst 30 = .ok (.ishr, 1) := by decide +kernel
theorem d_Bytes_appendHighestFirst_31 : decode b_Bytes_appendHighestFirst 31 = .ok (.invokevirtual 26, 3) := by decide +kernel
theorem d_Bytes_appendHighestFirst_34 : decode b_Bytes_appendHighestFirst 34 = .ok (.iinc 3 1, 3) := by decide +kernel
theorem d_Bytes_appendHighestFirst_37 : decode b_Bytes_appendHighestFirst 37 = .ok (.goto (-24), 3) := by decide +kernel
theorem d_Bytes_appendHighestFirst_40 : decode b_Bytes_appendHighestFirst 40 = .ok (.return_, 1) := by decide +kernel
theorem d_Bytes_appendEmptyDocument_0 : decode b_Bytes_appendEmptyDocument 0 = .ok (.aload_n 0, 1) := by decide +kernel
theorem d_Bytes_appendEmptyDocument_1 : decode b_Bytes_appendEmptyDocument 1 = .ok (.ldc2_w 56, 3) := by decide +kernel
theorem d_Bytes_appendEmptyDocument_4 : decode b_Bytes_appendEmptyDocument 4 = .ok (.iconst 4, 1) := by decide +kernel
theorem d_Bytes_appendEmptyDocument_5 : decode b_Bytes_appendEmptyDocument 5 = .ok (.invokevirtual 58, 3) := by decide +kernel
theorem d_Bytes_appendEmptyDocument_8 : decode b_Bytes_appendEmptyDocument 8 = .ok (.aload_n 0, 1) := by decide +kernel
theorem d_Bytes_appendEmptyDocument_9 : decode b_Bytes_appendEmptyDocument 9 = .ok (.lconst 0, 1) := by decide +kernel
theorem d_Bytes_appendEmptyDocument_10 : decode b_Bytes_appendEmptyDocument 10 = .ok (.iconst 1, 1) := by decide +kernel
theorem d_Bytes_appendEmptyDocument_11 : decode b_Bytes_appendEmptyDocument 11 = .ok (.invokevirtual 58, 3) := by decide +kernel
theorem d_Bytes_appendEmptyDocument_14 : decode b_Bytes_appendEmptyDocument 14 = .ok (.return_, 1) := by decide +kernel
theorem d_Bytes_appendText_0 : decode b_Bytes_appendText 0 = .ok (.aload_n 0, 1) := by decide +kernel
theorem d_Bytes_appendText_1 : decode b_Bytes_appendText 1 = .ok (.iload_n 3, 1) := by decide +kernel
theorem d_Bytes_appendText_2 : decode b_Bytes_appendText 2 = .ok (.iconst 1, 1) := by decide +kernel
theorem d_Bytes_appendText_3 : decode b_Bytes_appendText 3 = .ok (.iadd, 1) := by decide +kernel
theorem d_Bytes_appendText_4 : decode b_Bytes_appendText 4 = .ok (.i2l, 1) := by decide +kernel
theorem d_Bytes_appendText_5 : decode b_Bytes_appendText 5 = .ok (.iconst 4, 1) := by decide +kernel
theorem d_Bytes_appendText_6 : decode b_Bytes_appendText 6 = .ok (.invokevirtual 58, 3) := by decide +kernel
theorem d_Bytes_appendText_9 : decode b_Bytes_appendText 9 = .ok (.aload_n 0, 1) := by decide +kernel
theorem d_Bytes_appendText_10 : decode b_Bytes_appendText 10 = .ok (.aload_n 1, 1) := by decide +kernel
theorem d_Bytes_appendText_11 : decode b_Bytes_appendText 11 = .ok (.iload_n 2, 1) := by decide +kernel
theorem d_Bytes_appendText_12 : decode b_Bytes_appendText 12 = .ok (.iload_n 3, 1) := by decide +kernel
theorem d_Bytes_appendText_13 : decode b_Bytes_appendText 13 = .ok (.invokevirtual 62, 3) := by decide +kernel
theorem d_Bytes_appendText_16 : decode b_Bytes_appendText 16 = .ok (.aload_n 0, 1) := by decide +kernel
theorem d_Bytes_appendText_17 : decode b_Bytes_appendText 17 = .ok (.lconst 0, 1) := by decide +kernel
theorem d_Bytes_appendText_18 : decode b_Bytes_appendText 18 = .ok (.iconst 1, 1) := by decide +kernel
theorem d_Bytes_appendText_19 : decode b_Bytes_appendText 19 = .ok (.invokevirtual 58, 3) := by decide +kernel
theorem d_Bytes_appendText_22 : decode b_Bytes_appendText 22 = .ok (.return_, 1) := by decide +kernel
theorem d_Kinds_isKind_0 : decode b_Kinds_isKind 0 = .ok (.iload_n 0, 1) := by decide +kernel
theorem d_Kinds_isKind_1 : decode b_Kinds_isKind 1 = .ok (.iconst 2, 1) := by decide +kernel
theorem d_Kinds_isKind_2 : decode b_Kinds_isKind 2 = .ok (.if_icmp .eq 23, 3) := by decide +kernel
theorem d_Kinds_isKind_5 : decode b_Kinds_isKind 5 = .ok (.iload_n 0, 1) := by decide +kernel
theorem d_Kinds_isKind_6 : decode b_Kinds_isKind 6 = .ok (.bipush 10, 2) := by decide +kernel
theorem d_Kinds_isKind_8 : decode b_Kinds_isKind 8 = .ok (.if_icmp .eq 17, 3) := by decide +kernel
theorem d_Kinds_isKind_11 : decode b_Kinds_isKind 11 = .ok (.iload_n 0, 1) := by decide +kernel
theorem d_Kinds_isKind_12 : decode b_Kinds_isKind 12 = .ok (.invokestatic 9, 3) := by decide +kernel
theorem d_Kinds_isKind_15 : decode b_Kinds_isKind 15 = .ok (.ifCond .ne 10, 3) := by decide +kernel
theorem d_Kinds_isKind_18 : decode b_Kinds_isKind 18 = .ok (.iload_n 0, 1) := by decide +kernel
theorem d_Kinds_isKind_19 : decode b_Kinds_isKind 19 = .ok (.invokestatic 15, 3) := by decide +kernel
theorem d_Kinds_isKind_22 : decode b_Kinds_isKind 22 = .ok (.ifCond .le 7, 3) := by decide +kernel
theorem d_Kinds_isKind_25 : decode b_Kinds_isKind 25 = .ok (.iconst 1, 1) := by decide +kernel
theorem d_Kinds_isKind_26 : decode b_Kinds_isKind 26 = .ok (.goto 4, 3) := by decide +kernel
theorem d_Kinds_isKind_29 : decode b_Kinds_isKind 29 = .ok (.iconst 0, 1) := by decide +kernel
theorem d_Kinds_isKind_30 : decode b_Kinds_isKind 30 = .ok (.ireturn, 1) := by decide +kernel
theorem d_Kinds_holdsElements_0 : decode b_Kinds_holdsElements 0 = .ok (.iload_n 0, 1) := by decide +kernel
theorem d_Kinds_holdsElements_1 : decode b_Kinds_holdsElements 1 = .ok (.iconst 3, 1) := by decide +kernel
theorem d_Kinds_holdsElements_2 : decode b_Kinds_holdsElements 2 = .ok (.if_icmp .eq 8, 3) := by decide +kernel
theorem d_Kinds_holdsElements_5 : decode b_Kinds_holdsElements 5 = .ok (.iload_n 0, 1) := by decide +kernel
theorem d_Kinds_holdsElements_6 : decode b_Kinds_holdsElements 6 = .ok (.iconst 4, 1) := by decide +kernel
theorem d_Kinds_holdsElements_7 : decode b_Kinds_holdsElements 7 = .ok (.if_icmp .ne 7, 3) := by decide +kernel
theorem d_Kinds_holdsElements_10 : decode b_Kinds_holdsElements 10 = .ok (.iconst 1, 1) := by decide +kernel
theorem d_Kinds_holdsElements_11 : decode b_Kinds_holdsElements 11 = .ok (.goto 4, 3) := by decide +kernel
theorem d_Kinds_holdsElements_14 : decode b_Kinds_holdsElements 14 = .ok (.iconst 0, 1) := by decide +kernel
theorem d_Kinds_holdsElements_15 : decode b_Kinds_holdsElements 15 = .ok (.ireturn, 1) := by decide +kernel
theorem d_Kinds_width_0 : decode b_Kinds_width 0 = .ok (.iload_n 0, 1) := by decide +kernel
theorem d_Kinds_width_1 : decode b_Kinds_width 1 = .ok (.lookupswitch 42 #[(8, 35), (16, 37), (18, 39)], 35) := by decide +kernel
theorem d_Kinds_width_36 : decode b_Kinds_width 36 = .ok (.iconst 1, 1) := by decide +kernel
theorem d_Kinds_width_37 : decode b_Kinds_width 37 = .ok (.ireturn, 1) := by decide +kernel
theorem d_Kinds_width_38 : decode b_Kinds_width 38 = .ok (.iconst 4, 1) := by decide +kernel
theorem d_Kinds_width_39 : decode b_Kinds_width 39 = .ok (.ireturn, 1) := by decide +kernel
theorem d_Kinds_width_40 : decode b_Kinds_width 40 = .ok (.bipush 8, 2) := by decide +kernel
theorem d_Kinds_width_42 : decode b_Kinds_width 42 = .ok (.ireturn, 1) := by decide +kernel
theorem d_Kinds_width_43 : decode b_Kinds_width 43 = .ok (.iconst 0, 1) := by decide +kernel
theorem d_Kinds_width_44 : decode b_Kinds_width 44 = .ok (.ireturn, 1) := by decide +kernel
theorem d_Kinds_valueLength_0 : decode b_Kinds_valueLength 0 = .ok (.iload_n 0, 1) := by decide +kernel
theorem d_Kinds_valueLength_1 : decode b_Kinds_valueLength 1 = .ok (.iconst 2, 1) := by decide +kernel
theorem d_Kinds_valueLength_2 : decode b_Kinds_valueLength 2 = .ok (.if_icmp .ne 13, 3) := by decide +kernel
theorem d_Kinds_valueLength_5 : decode b_Kinds_valueLength 5 = .ok (.iconst 4, 1) := by decide +kernel
theorem d_Kinds_valueLength_6 : decode b_Kinds_valueLength 6 = .ok (.aload_n 1, 1) := by decide +kernel
theorem d_Kinds_valueLength_7 : decode b_Kinds_valueLength 7 = .ok (.iload_n 2, 1) := by decide +kernel
theorem d_Kinds_valueLength_8 : decode b_Kinds_valueLength 8 = .ok (.iconst 4, 1) := by decide +kernel
theorem d_Kinds_valueLength_9 : decode b_Kinds_valueLength 9 = .ok (.invokevirtual 19, 3) := by decide +kernel
theorem d_Kinds_valueLength_12 : decode b_Kinds_valueLength 12 = .ok (.l2i, 1) := by decide +kernel
theorem d_Kinds_valueLength_13 : decode b_Kinds_valueLength 13 = .ok (.iadd, 1) := by decide +kernel
theorem d_Kinds_valueLength_14 : decode b_Kinds_valueLength 14 = .ok (.ireturn, 1) := by decide +kernel
theorem d_Kinds_valueLength_15 : decode b_Kinds_valueLength 15 = .ok (.iload_n 0, 1) := by decide +kernel
theorem d_Kinds_valueLength_16 : decode b_Kinds_valueLength 16 = .ok (.invokestatic 9, 3) := by decide +kernel
theorem d_Kinds_valueLength_19 : decode b_Kinds_valueLength 19 = .ok (.ifCond .eq 13, 3) := by decide +kernel
theorem d_Kinds_valueLength_22 : decode b_Kinds_valueLength 22 = .ok (.aload_n 1, 1) := by decide +kernel
theorem d_Kinds_valueLength_23 : decode b_Kinds_valueLength 23 = .ok (.iload_n 2, 1) := by decide +kernel
theorem d_Kinds_valueLength_24 : decode b_Kinds_valueLength 24 = .ok (.iconst 4, 1) := by decide +kernel
theorem d_Kinds_valueLength_25 : decode b_Kinds_valueLength 25 = .ok (.invokevirtual 19, 3) := by decide +kernel
theorem d_Kinds_valueLength_28 : decode b_Kinds_valueLength 28 = .ok (.l2i, 1) := by decide +kernel
theorem d_Kinds_valueLength_29 : decode b_Kinds_valueLength 29 = .ok (.goto 7, 3) := by decide +kernel
theorem d_Kinds_valueLength_32 : decode b_Kinds_valueLength 32 = .ok (.iload_n 0, 1) := by decide +kernel
theorem d_Kinds_valueLength_33 : decode b_Kinds_valueLength 33 = .ok (.invokestatic 15, 3) := by decide +kernel
theorem d_Kinds_valueLength_36 : decode b_Kinds_valueLength 36 = .ok (.ireturn, 1) := by decide +kernel
theorem d_Kinds_allows_0 : decode b_Kinds_allows 0 = .ok (.iload_n 0, 1) := by decide +kernel
theorem d_Kinds_allows_1 : decode b_Kinds_allows 1 = .ok (.lookupswitch 69 #[(8, 35), (16, 53), (18, 67)], 35) := by decide +kernel
theorem d_Kinds_allows_36 : decode b_Kinds_allows 36 = .ok (.lload_n 1, 1) := by decide +kernel
theorem d_Kinds_allows_37 : decode b_Kinds_allows 37 = .ok (.lconst 0, 1) := by decide +kernel
theorem d_Kinds_allows_38 : decode b_Kinds_allows 38 = .ok (.lcmp, 1) := by decide +kernel
theorem d_Kinds_allows_39 : decode b_Kinds_allows 39 = .ok (.ifCond .eq 9, 3) := by decide +kernel
theorem d_Kinds_allows_42 : decode b_Kinds_allows 42 = .ok (.lload_n 1, 1) := by decide +kernel
theorem d_Kinds_allows_43 : decode b_Kinds_allows 43 = .ok (.lconst 1, 1) := by decide +kernel
theorem d_Kinds_allows_44 : decode b_Kinds_allows 44 = .ok (.lcmp, 1) := by decide +kernel
theorem d_Kinds_allows_45 : decode b_Kinds_allows 45 = .ok (.ifCond .ne 7, 3) := by decide +kernel
theorem d_Kinds_allows_48 : decode b_Kinds_allows 48 = .ok (.iconst 1, 1) := by decide +kernel
theorem d_Kinds_allows_49 : decode b_Kinds_allows 49 = .ok (.goto 4, 3) := by decide +kernel
theorem d_Kinds_allows_52 : decode b_Kinds_allows 52 = .ok (.iconst 0, 1) := by decide +kernel
theorem d_Kinds_allows_53 : decode b_Kinds_allows 53 = .ok (.ireturn, 1) := by decide +kernel
theorem d_Kinds_allows_54 : decode b_Kinds_allows 54 = .ok (.lload_n 1, 1) := by decide +kernel
theorem d_Kinds_allows_55 : decode b_Kinds_allows 55 = .ok (.lload_n 1, 1) := by decide +kernel
theorem d_Kinds_allows_56 : decode b_Kinds_allows 56 = .ok (.l2i, 1) := by decide +kernel
theorem d_Kinds_allows_57 : decode b_Kinds_allows 57 = .ok (.i2l, 1) := by decide +kernel
theorem d_Kinds_allows_58 : decode b_Kinds_allows 58 = .ok (.lcmp, 1) := by decide +kernel
theorem d_Kinds_allows_59 : decode b_Kinds_allows 59 = .ok (.ifCond .ne 7, 3) := by decide +kernel
theorem d_Kinds_allows_62 : decode b_Kinds_allows 62 = .ok (.iconst 1, 1) := by decide +kernel
theorem d_Kinds_allows_63 : decode b_Kinds_allows 63 = .ok (.goto 4, 3) := by decide +kernel
theorem d_Kinds_allows_66 : decode b_Kinds_allows 66 = .ok (.iconst 0, 1) := by decide +kernel
theorem d_Kinds_allows_67 : decode b_Kinds_allows 67 = .ok (.ireturn, 1) := by decide +kernel
theorem d_Kinds_allows_68 : decode b_Kinds_allows 68 = .ok (.iconst 1, 1) := by decide +kernel
theorem d_Kinds_allows_69 : decode b_Kinds_allows 69 = .ok (.ireturn, 1) := by decide +kernel
theorem d_Kinds_allows_70 : decode b_Kinds_allows 70 = .ok (.lload_n 1, 1) := by decide +kernel
theorem d_Kinds_allows_71 : decode b_Kinds_allows 71 = .ok (.lconst 0, 1) := by decide +kernel
theorem d_Kinds_allows_72 : decode b_Kinds_allows 72 = .ok (.lcmp, 1) := by decide +kernel
theorem d_Kinds_allows_73 : decode b_Kinds_allows 73 = .ok (.ifCond .ne 7, 3) := by decide +kernel
theorem d_Kinds_allows_76 : decode b_Kinds_allows 76 = .ok (.iconst 1, 1) := by decide +kernel
theorem d_Kinds_allows_77 : decode b_Kinds_allows 77 = .ok (.goto 4, 3) := by decide +kernel
theorem d_Kinds_allows_80 : decode b_Kinds_allows 80 = .ok (.iconst 0, 1) := by decide +kernel
theorem d_Kinds_allows_81 : decode b_Kinds_allows 81 = .ok (.ireturn, 1) := by decide +kernel
theorem d_Utf8_firstWrong_0 : decode b_Utf8_firstWrong 0 = .ok (.iload_n 1, 1) := by decide +kernel
theorem d_Utf8_firstWrong_1 : decode b_Utf8_firstWrong 1 = .ok (.istore_n 3, 1) := by decide +kernel
theorem d_Utf8_firstWrong_2 : decode b_Utf8_firstWrong 2 = .ok (.iload_n 1, 1) := by decide +kernel
theorem d_Utf8_firstWrong_3 : decode b_Utf8_firstWrong 3 = .ok (.istore 4, 2) := by decide +kernel
theorem d_Utf8_firstWrong_5 : decode b_Utf8_firstWrong 5 = .ok (.iload 4, 2) := by decide +kernel
theorem d_Utf8_firstWrong_7 : decode b_Utf8_firstWrong 7 = .ok (.iload_n 2, 1) := by decide +kernel
theorem d_Utf8_firstWrong_8 : decode b_Utf8_firstWrong 8 = .ok (.if_icmp .ge 54, 3) := by decide +kernel
theorem d_Utf8_firstWrong_11 : decode b_Utf8_firstWrong 11 = .ok (.iload_n 3, 1) := by decide +kernel
theorem d_Utf8_firstWrong_12 : decode b_Utf8_firstWrong 12 = .ok (.iload_n 2, 1) := by decide +kernel
theorem d_Utf8_firstWrong_13 : decode b_Utf8_firstWrong 13 = .ok (.if_icmp .ge 49, 3) := by decide +kernel
theorem d_Utf8_firstWrong_16 : decode b_Utf8_firstWrong 16 = .ok (.aload_n 0, 1) := by decide +kernel
theorem d_Utf8_firstWrong_17 : decode b_Utf8_firstWrong 17 = .ok (.iload_n 3, 1) := by decide +kernel
theorem d_Utf8_firstWrong_18 : decode b_Utf8_firstWrong 18 = .ok (.invokevirtual 9, 3) := by decide +kernel
theorem d_Utf8_firstWrong_21 : decode b_Utf8_firstWrong 21 = .ok (.invokestatic 15, 3) := by decide +kernel
theorem d_Utf8_firstWrong_24 : decode b_Utf8_firstWrong 24 = .ok (.istore 5, 2) := by decide +kernel
theorem d_Utf8_firstWrong_26 : decode b_Utf8_firstWrong 26 = .ok (.iload 5, 2) := by decide +kernel
theorem d_Utf8_firstWrong_28 : decode b_Utf8_firstWrong 28 = .ok (.ifCond .eq 21, 3) := by decide +kernel
theorem d_Utf8_firstWrong_31 : decode b_Utf8_firstWrong 31 = .ok (.iload 5, 2) := by decide +kernel
theorem d_Utf8_firstWrong_33 : decode b_Utf8_firstWrong 33 = .ok (.iload_n 2, 1) := by decide +kernel
theorem d_Utf8_firstWrong_34 : decode b_Utf8_firstWrong 34 = .ok (.iload_n 3, 1) := by decide +kernel
theorem d_Utf8_firstWrong_35 : decode b_Utf8_firstWrong 35 = .ok (.isub, 1) := by decide +kernel
theorem d_Utf8_firstWrong_36 : decode b_Utf8_firstWrong 36 = .ok (.if_icmp .gt 13, 3) := by decide +kernel
theorem d_Utf8_firstWrong_39 : decode b_Utf8_firstWrong 39 = .ok (.aload_n 0, 1) := by decide +kernel
theorem d_Utf8_firstWrong_40 : decode b_Utf8_firstWrong 40 = .ok (.iload_n 3, 1) := by decide +kernel
theorem d_Utf8_firstWrong_41 : decode b_Utf8_firstWrong 41 = .ok (.iload 5, 2) := by decide +kernel
theorem d_Utf8_firstWrong_43 : decode b_Utf8_firstWrong 43 = .ok (.invokestatic 20, 3) := by decide +kernel
theorem d_Utf8_firstWrong_46 : decode b_Utf8_firstWrong 46 = .ok (.ifCond .ne 5, 3) := by decide +kernel
theorem d_Utf8_firstWrong_49 : decode b_Utf8_firstWrong 49 = .ok (.iload_n 3, 1) := by decide +kernel
theorem d_Utf8_firstWrong_50 : decode b_Utf8_firstWrong 50 = .ok (.ireturn, 1) := by decide +kernel
theorem d_Utf8_firstWrong_51 : decode b_Utf8_firstWrong 51 = .ok (.iload_n 3, 1) := by decide +kernel
theorem d_Utf8_firstWrong_52 : decode b_Utf8_firstWrong 52 = .ok (.iload 5, 2) := by decide +kernel
theorem d_Utf8_firstWrong_54 : decode b_Utf8_firstWrong 54 = .ok (.iadd, 1) := by decide +kernel
theorem d_Utf8_firstWrong_55 : decode b_Utf8_firstWrong 55 = .ok (.istore_n 3, 1) := by decide +kernel
theorem d_Utf8_firstWrong_56 : decode b_Utf8_firstWrong 56 = .ok (.iinc 4 1, 3) := by decide +kernel
theorem d_Utf8_firstWrong_59 : decode b_Utf8_firstWrong 59 = .ok (.goto (-54), 3) := by decide +kernel
theorem d_Utf8_firstWrong_62 : decode b_Utf8_firstWrong 62 = .ok (.iconst (-1), 1) := by decide +kernel
theorem d_Utf8_firstWrong_63 : decode b_Utf8_firstWrong 63 = .ok (.ireturn, 1) := by decide +kernel
theorem d_Utf8_lengthBehind_0 : decode b_Utf8_lengthBehind 0 = .ok (.iload_n 0, 1) := by decide +kernel
theorem d_Utf8_lengthBehind_1 : decode b_Utf8_lengthBehind 1 = .ok (.sipush 128, 3) := by decide +kernel
theorem d_Utf8_lengthBehind_4 : decode b_Utf8_lengthBehind 4 = .ok (.if_icmp .ge 5, 3) := by decide +kernel
theorem d_Utf8_lengthBehind_7 : decode b_Utf8_lengthBehind 7 = .ok (.iconst 1, 1) := by decide +kernel
theorem d_Utf8_lengthBehind_8 : decode b_Utf8_lengthBehind 8 = .ok (.ireturn, 1) := by decide +kernel
theorem d_Utf8_lengthBehind_9 : decode b_Utf8_lengthBehind 9 = .ok (.iload_n 0, 1) := by decide +kernel
theorem d_Utf8_lengthBehind_10 : decode b_Utf8_lengthBehind 10 = .ok (.sipush 194, 3) := by decide +kernel
theorem d_Utf8_lengthBehind_13 : decode b_Utf8_lengthBehind 13 = .ok (.if_icmp .lt 10, 3) := by decide +kernel
theorem d_Utf8_lengthBehind_16 : decode b_Utf8_lengthBehind 16 = .ok (.iload_n 0, 1) := by decide +kernel
theorem d_Utf8_lengthBehind_17 : decode b_Utf8_lengthBehind 17 = .ok (.sipush 244, 3) := by decide +kernel
theorem d_Utf8_lengthBehind_20 : decode b_Utf8_lengthBehind 20 = .ok (.if_icmp .le 5, 3) := by decide +kernel
theorem d_Utf8_lengthBehind_23 : decode b_Utf8_lengthBehind 23 = .ok (.iconst 0, 1) := by decide +kernel
theorem d_Utf8_lengthBehind_24 : decode b_Utf8_lengthBehind 24 = .ok (.ireturn, 1) := by decide +kernel
theorem d_Utf8_lengthBehind_25 : decode b_Utf8_lengthBehind 25 = .ok (.iload_n 0, 1) := by decide +kernel
theorem d_Utf8_lengthBehind_26 : decode b_Utf8_lengthBehind 26 = .ok (.sipush 224, 3) := by decide +kernel
theorem d_Utf8_lengthBehind_29 : decode b_Utf8_lengthBehind 29 = .ok (.if_icmp .ge 7, 3) := by decide +kernel
theorem d_Utf8_lengthBehind_32 : decode b_Utf8_lengthBehind 32 = .ok (.iconst 2, 1) := by decide +kernel
theorem d_Utf8_lengthBehind_33 : decode b_Utf8_lengthBehind 33 = .ok (.goto 15, 3) := by decide +kernel
theorem d_Utf8_lengthBehind_36 : decode b_Utf8_lengthBehind 36 = .ok (.iload_n 0, 1) := by decide +kernel
theorem d_Utf8_lengthBehind_37 : decode b_Utf8_lengthBehind 37 = .ok (.sipush 240, 3) := by decide +kernel
theorem d_Utf8_lengthBehind_40 : decode b_Utf8_lengthBehind 40 = .ok (.if_icmp .ge 7, 3) := by decide +kernel
theorem d_Utf8_lengthBehind_43 : decode b_Utf8_lengthBehind 43 = .ok (.iconst 3, 1) := by decide +kernel
theorem d_Utf8_lengthBehind_44 : decode b_Utf8_lengthBehind 44 = .ok (.goto 4, 3) := by decide +kernel
theorem d_Utf8_lengthBehind_47 : decode b_Utf8_lengthBehind 47 = .ok (.iconst 4, 1) := by decide +kernel
theorem d_Utf8_lengthBehind_48 : decode b_Utf8_lengthBehind 48 = .ok (.ireturn, 1) := by decide +kernel
theorem d_Utf8_isRight_0 : decode b_Utf8_isRight 0 = .ok (.aload_n 0, 1) := by decide +kernel
theorem d_Utf8_isRight_1 : decode b_Utf8_isRight 1 = .ok (.iload_n 1, 1) := by decide +kernel
theorem d_Utf8_isRight_2 : decode b_Utf8_isRight 2 = .ok (.invokevirtual 9, 3) := by decide +kernel
theorem d_Utf8_isRight_5 : decode b_Utf8_isRight 5 = .ok (.istore_n 3, 1) := by decide +kernel
theorem d_Utf8_isRight_6 : decode b_Utf8_isRight 6 = .ok (.iload_n 3, 1) := by decide +kernel
theorem d_Utf8_isRight_7 : decode b_Utf8_isRight 7 = .ok (.sipush 224, 3) := by decide +kernel
theorem d_Utf8_isRight_10 : decode b_Utf8_isRight 10 = .ok (.if_icmp .ne 9, 3) := by decide +kernel
theorem d_Utf8_isRight_13 : decode b_Utf8_isRight 13 = .ok (.sipush 160, 3) := by decide +kernel
theorem d_Utf8_isRight_16 : decode b_Utf8_isRight 16 = .ok (.goto 19, 3) := by decide +kernel
theorem d_Utf8_isRight_19 : decode b_Utf8_isRight 19 = .ok (.iload_n 3, 1) := by decide +kernel
theorem d_Utf8_isRight_20 : decode b_Utf8_isRight 20 = .ok (.sipush 240, 3) := by decide +kernel
theorem d_Utf8_isRight_23 : decode b_Utf8_isRight 23 = .ok (.if_icmp .ne 9, 3) := by decide +kernel
theorem d_Utf8_isRight_26 : decode b_Utf8_isRight 26 = .ok (.sipush 144, 3) := by decide +kernel
theorem d_Utf8_isRight_29 : decode b_Utf8_isRight 29 = .ok (.goto 6, 3) := by decide +kernel
theorem d_Utf8_isRight_32 : decode b_Utf8_isRight 32 = .ok (.sipush 128, 3) := by decide +kernel
theorem d_Utf8_isRight_35 : decode b_Utf8_isRight 35 = .ok (.istore 4, 2) := by decide +kernel
theorem d_Utf8_isRight_37 : decode b_Utf8_isRight 37 = .ok (.iload_n 3, 1) := by decide +kernel
theorem d_Utf8_isRight_38 : decode b_Utf8_isRight 38 = .ok (.sipush 237, 3) := by decide +kernel
theorem d_Utf8_isRight_41 : decode b_Utf8_isRight 41 = .ok (.if_icmp .ne 9, 3) := by decide +kernel
theorem d_Utf8_isRight_44 : decode b_Utf8_isRight 44 = .ok (.sipush 159, 3) := by decide +kernel
theorem d_Utf8_isRight_47 : decode b_Utf8_isRight 47 = .ok (.goto 19, 3) := by decide +kernel
theorem d_Utf8_isRight_50 : decode b_Utf8_isRight 50 = .ok (.iload_n 3, 1) := by decide +kernel
theorem d_Utf8_isRight_51 : decode b_Utf8_isRight 51 = .ok (.sipush 244, 3) := by decide +kernel
theorem d_Utf8_isRight_54 : decode b_Utf8_isRight 54 = .ok (.if_icmp .ne 9, 3) := by decide +kernel
theorem d_Utf8_isRight_57 : decode b_Utf8_isRight 57 = .ok (.sipush 143, 3) := by decide +kernel
theorem d_Utf8_isRight_60 : decode b_Utf8_isRight 60 = .ok (.goto 6, 3) := by decide +kernel
theorem d_Utf8_isRight_63 : decode b_Utf8_isRight 63 = .ok (.sipush 191, 3) := by decide +kernel
theorem d_Utf8_isRight_66 : decode b_Utf8_isRight 66 = .ok (.istore 5, 2) := by decide +kernel
theorem d_Utf8_isRight_68 : decode b_Utf8_isRight 68 = .ok (.iconst 1, 1) := by decide +kernel
theorem d_Utf8_isRight_69 : decode b_Utf8_isRight 69 = .ok (.istore 6, 2) := by decide +kernel
theorem d_Utf8_isRight_71 : decode b_Utf8_isRight 71 = .ok (.iload 6, 2) := by decide +kernel
theorem d_Utf8_isRight_73 : decode b_Utf8_isRight 73 = .ok (.iload_n 2, 1) := by decide +kernel
theorem d_Utf8_isRight_74 : decode b_Utf8_isRight 74 = .ok (.if_icmp .ge 45, 3) := by decide +kernel
theorem d_Utf8_isRight_77 : decode b_Utf8_isRight 77 = .ok (.aload_n 0, 1) := by decide +kernel
theorem d_Utf8_isRight_78 : decode b_Utf8_isRight 78 = .ok (.iload_n 1, 1) := by decide +kernel
theorem d_Utf8_isRight_79 : decode b_Utf8_isRight 79 = .ok (.iload 6, 2) := by decide +kernel
theorem d_Utf8_isRight_81 : decode b_Utf8_isRight 81 = .ok (.iadd, 1) := by decide +kernel
theorem d_Utf8_isRight_82 : decode b_Utf8_isRight 82 = .ok (.invokevirtual 9, 3) := by decide +kernel
theorem d_Utf8_isRight_85 : decode b_Utf8_isRight 85 = .ok (.istore 7, 2) := by decide +kernel
theorem d_Utf8_isRight_87 : decode b_Utf8_isRight 87 = .ok (.iload 7, 2) := by decide +kernel
theorem d_Utf8_isRight_89 : decode b_Utf8_isRight 89 = .ok (.iload 4, 2) := by decide +kernel
theorem d_Utf8_isRight_91 : decode b_Utf8_isRight 91 = .ok (.if_icmp .lt 10, 3) := by decide +kernel
theorem d_Utf8_isRight_94 : decode b_Utf8_isRight 94 = .ok (.iload 7, 2) := by decide +kernel
theorem d_Utf8_isRight_96 : decode b_Utf8_isRight 96 = .ok (.iload 5, 2) := by decide +kernel
theorem d_Utf8_isRight_98 : decode b_Utf8_isRight 98 = .ok (.if_icmp .le 5, 3) := by decide +kernel
theorem d_Utf8_isRight_101 : decode b_Utf8_isRight 101 = .ok (.iconst 0, 1) := by decide +kernel
theorem d_Utf8_isRight_102 : decode b_Utf8_isRight 102 = .ok (.ireturn, 1) := by decide +kernel
theorem d_Utf8_isRight_103 : decode b_Utf8_isRight 103 = .ok (.sipush 128, 3) := by decide +kernel
theorem d_Utf8_isRight_106 : decode b_Utf8_isRight 106 = .ok (.istore 4, 2) := by decide +kernel
theorem d_Utf8_isRight_108 : decode b_Utf8_isRight 108 = .ok (.sipush 191, 3) := by decide +kernel
theorem d_Utf8_isRight_111 : decode b_Utf8_isRight 111 = .ok (.istore 5, 2) := by decide +kernel
theorem d_Utf8_isRight_113 : decode b_Utf8_isRight 113 = .ok (.iinc 6 1, 3) := by decide +kernel
theorem d_Utf8_isRight_116 : decode b_Utf8_isRight 116 = .ok (.goto (-45), 3) := by decide +kernel
theorem d_Utf8_isRight_119 : decode b_Utf8_isRight 119 = .ok (.iconst 1, 1) := by decide +kernel
theorem d_Utf8_isRight_120 : decode b_Utf8_isRight 120 = .ok (.ireturn, 1) := by decide +kernel
theorem d_Nodes_init_0 : decode b_Nodes_init 0 = .ok (.aload_n 0, 1) := by decide +kernel
theorem d_Nodes_init_1 : decode b_Nodes_init 1 = .ok (.invokespecial 3, 3) := by decide +kernel
theorem d_Nodes_init_4 : decode b_Nodes_init 4 = .ok (.aload_n 0, 1) := by decide +kernel
theorem d_Nodes_init_5 : decode b_Nodes_init 5 = .ok (.sipush 700, 3) := by decide +kernel
theorem d_Nodes_init_8 : decode b_Nodes_init 8 = .ok (.newarray .int, 2) := by decide +kernel
theorem d_Nodes_init_10 : decode b_Nodes_init 10 = .ok (.putfield 9, 3) := by decide +kernel
theorem d_Nodes_init_13 : decode b_Nodes_init 13 = .ok (.aload_n 0, 1) := by decide +kernel
theorem d_Nodes_init_14 : decode b_Nodes_init 14 = .ok (.sipush 700, 3) := by decide +kernel
theorem d_Nodes_init_17 : decode b_Nodes_init 17 = .ok (.newarray .int, 2) := by decide +kernel
theorem d_Nodes_init_19 : decode b_Nodes_init 19 = .ok (.putfield 15, 3) := by decide +kernel
theorem d_Nodes_init_22 : decode b_Nodes_init 22 = .ok (.aload_n 0, 1) := by decide +kernel
theorem d_Nodes_init_23 : decode b_Nodes_init 23 = .ok (.sipush 700, 3) := by decide +kernel
theorem d_Nodes_init_26 : decode b_Nodes_init 26 = .ok (.newarray .int, 2) := by decide +kernel
theorem d_Nodes_init_28 : decode b_Nodes_init 28 = .ok (.putfield 18, 3) := by decide +kernel
theorem d_Nodes_init_31 : decode b_Nodes_init 31 = .ok (.aload_n 0, 1) := by decide +kernel
theorem d_Nodes_init_32 : decode b_Nodes_init 32 = .ok (.sipush 700, 3) := by decide +kernel
theorem d_Nodes_init_35 : decode b_Nodes_init 35 = .ok (.newarray .int, 2) := by decide +kernel
theorem d_Nodes_init_37 : decode b_Nodes_init 37 = .ok (.putfield 21, 3) := by decide +kernel
theorem d_Nodes_init_40 : decode b_Nodes_init 40 = .ok (.aload_n 0, 1) := by decide +kernel
theorem d_Nodes_init_41 : decode b_Nodes_init 41 = .ok (.sipush 700, 3) := by decide +kernel
theorem d_Nodes_init_44 : decode b_Nodes_init 44 = .ok (.newarray .int, 2) := by decide +kernel
theorem d_Nodes_init_46 : decode b_Nodes_init 46 = .ok (.putfield 24, 3) := by decide +kernel
theorem d_Nodes_init_49 : decode b_Nodes_init 49 = .ok (.aload_n 0, 1) := by decide +kernel
theorem d_Nodes_init_50 : decode b_Nodes_init 50 = .ok (.sipush 700, 3) := by decide +kernel
theorem d_Nodes_init_53 : decode b_Nodes_init 53 = .ok (.newarray .int, 2) := by decide +kernel
theorem d_Nodes_init_55 : decode b_Nodes_init 55 = .ok (.putfield 27, 3) := by decide +kernel
theorem d_Nodes_init_58 : decode b_Nodes_init 58 = .ok (.aload_n 0, 1) := by decide +kernel
theorem d_Nodes_init_59 : decode b_Nodes_init 59 = .ok (.sipush 700, 3) := by decide +kernel
theorem d_Nodes_init_62 : decode b_Nodes_init 62 = .ok (.newarray .int, 2) := by decide +kernel
theorem d_Nodes_init_64 : decode b_Nodes_init 64 = .ok (.putfield 30, 3) := by decide +kernel
theorem d_Nodes_init_67 : decode b_Nodes_init 67 = .ok (.aload_n 0, 1) := by decide +kernel
theorem d_Nodes_init_68 : decode b_Nodes_init 68 = .ok (.aload_n 1, 1) := by decide +kernel
theorem d_Nodes_init_69 : decode b_Nodes_init 69 = .ok (.putfield 33, 3) := by decide +kernel
theorem d_Nodes_init_72 : decode b_Nodes_init 72 = .ok (.aload_n 0, 1) := by decide +kernel
theorem d_Nodes_init_73 : decode b_Nodes_init 73 = .ok (.iconst 0, 1) := by decide +kernel
theorem d_Nodes_init_74 : decode b_Nodes_init 74 = .ok (.putfield 37, 3) := by decide +kernel
theorem d_Nodes_init_77 : decode b_Nodes_init 77 = .ok (.return_, 1) := by decide +kernel
theorem d_Nodes_begin_0 : decode b_Nodes_begin 0 = .ok (.aload_n 0, 1) := by decide +kernel
theorem d_Nodes_begin_1 : decode b_Nodes_begin 1 = .ok (.aload_n 1, 1) := by decide +kernel
theorem d_Nodes_begin_2 : decode b_Nodes_begin 2 = .ok (.putfield 33, 3) := by decide +kernel
theorem d_Nodes_begin_5 : decode b_Nodes_begin 5 = .ok (.aload_n 0, 1) := by decide +kernel
theorem d_Nodes_begin_6 : decode b_Nodes_begin 6 = .ok (.iconst 0, 1) := by decide +kernel
theorem d_Nodes_begin_7 : decode b_Nodes_begin 7 = .ok (.putfield 37, 3) := by decide +kernel
theorem d_Nodes_begin_10 : decode b_Nodes_begin 10 = .ok (.return_, 1) := by decide +kernel
theorem d_Nodes_append_0 : decode b_Nodes_append 0 = .ok (.aload_n 0, 1) := by decide +kernel
theorem d_Nodes_append_1 : decode b_Nodes_append 1 = .ok (.getfield 37, 3) := by decide +kernel
theorem d_Nodes_append_4 : decode b_Nodes_append 4 = .ok (.sipush 700, 3) := by decide +kernel
theorem d_Nodes_append_7 : decode b_Nodes_append 7 = .ok (.if_icmp .lt 5, 3) := by decide +kernel
theorem d_Nodes_append_10 : decode b_Nodes_append 10 = .ok (.iconst (-1), 1) := by decide +kernel
theorem d_Nodes_append_11 : decode b_Nodes_append 11 = .ok (.ireturn, 1) := by decide +kernel
theorem d_Nodes_append_12 : decode b_Nodes_append 12 = .ok (.aload_n 0, 1) := by decide +kernel
theorem d_Nodes_append_13 : decode b_Nodes_append 13 = .ok (.getfield 37, 3) := by decide +kernel
theorem d_Nodes_append_16 : decode b_Nodes_append 16 = .ok (.istore 6, 2) := by decide +kernel
theorem d_Nodes_append_18 : decode b_Nodes_append 18 = .ok (.aload_n 0, 1) := by decide +kernel
theorem d_Nodes_append_19 : decode b_Nodes_append 19 = .ok (.dup, 1) := by decide +kernel
theorem d_Nodes_append_20 : decode b_Nodes_append 20 = .ok (.getfield 37, 3) := by decide +kernel
theorem d_Nodes_append_23 : decode b_Nodes_append 23 = .ok (.iconst 1, 1) := by decide +kernel
theorem d_Nodes_append_24 : decode b_Nodes_append 24 = .ok (.iadd, 1) := by decide +kernel
theorem d_Nodes_append_25 : decode b_Nodes_append 25 = .ok (.putfield 37, 3) := by decide +kernel
theorem d_Nodes_append_28 : decode b_Nodes_append 28 = .ok (.aload_n 0, 1) := by decide +kernel
theorem d_Nodes_append_29 : decode b_Nodes_append 29 = .ok (.getfield 9, 3) := by decide +kernel
theorem d_Nodes_append_32 : decode b_Nodes_append 32 = .ok (.iload 6, 2) := by decide +kernel
theorem d_Nodes_append_34 : decode b_Nodes_append 34 = .ok (.iload_n 1, 1) := by decide +kernel
theorem d_Nodes_append_35 : decode b_Nodes_append 35 = .ok (.iastore, 1) := by decide +kernel
theorem d_Nodes_append_36 : decode b_Nodes_append 36 = .ok (.aload_n 0, 1) := by decide +kernel
theorem d_Nodes_append_37 : decode b_Nodes_append 37 = .ok (.getfield 15, 3) := by decide +kernel
theorem d_Nodes_append_40 : decode b_Nodes_append 40 = .ok (.iload 6, 2) := by decide +kernel
theorem d_Nodes_append_42 : decode b_Nodes_append 42 = .ok (.iload_n 2, 1) := by decide +kernel
theorem d_Nodes_append_43 : decode b_Nodes_append 43 = .ok (.iastore, 1) := by decide +kernel
theorem d_Nodes_append_44 : decode b_Nodes_append 44 = .ok (.aload_n 0, 1) := by decide +kernel
theorem d_Nodes_append_45 : decode b_Nodes_append 45 = .ok (.getfield 18, 3) := by decide +kernel
theorem d_Nodes_append_48 : decode b_Nodes_append 48 = .ok (.iload 6, 2) := by decide +kernel
theorem d_Nodes_append_50 : decode b_Nodes_append 50 = .ok (.iload_n 1, 1) := by decide +kernel
theorem d_Nodes_append_51 : decode b_Nodes_append 51 = .ok (.invokestatic 41, 3) := by decide +kernel
theorem d_Nodes_append_54 : decode b_Nodes_append 54 = .ok (.ifCond .eq 7, 3) := by decide +kernel
theorem d_Nodes_append_57 : decode b_Nodes_append 57 = .ok (.iconst 1, 1) := by decide +kernel
theorem d_Nodes_append_58 : decode b_Nodes_append 58 = .ok (.goto 4, 3) := by decide +kernel
theorem d_Nodes_append_61 : decode b_Nodes_append 61 = .ok (.iconst 0, 1) := by decide +kernel
theorem d_Nodes_append_62 : decode b_Nodes_append 62 = .ok (.iastore, 1) := by decide +kernel
theorem d_Nodes_append_63 : decode b_Nodes_append 63 = .ok (.aload_n 0, 1) := by decide +kernel
theorem d_Nodes_append_64 : decode b_Nodes_append 64 = .ok (.getfield 21, 3) := by decide +kernel
theorem d_Nodes_append_67 : decode b_Nodes_append 67 = .ok (.iload 6, 2) := by decide +kernel
theorem d_Nodes_append_69 : decode b_Nodes_append 69 = .ok (.iload_n 3, 1) := by decide +kernel
theorem d_Nodes_append_70 : decode b_Nodes_append 70 = .ok (.iastore, 1) := by decide +kernel
theorem d_Nodes_append_71 : decode b_Nodes_append 71 = .ok (.aload_n 0, 1) := by decide +kernel
theorem d_Nodes_append_72 : decode b_Nodes_append 72 = .ok (.getfield 24, 3) := by decide +kernel
theorem d_Nodes_append_75 : decode b_Nodes_append 75 = .ok (.iload 6, 2) := by decide +kernel
theorem d_Nodes_append_77 : decode b_Nodes_append 77 = .ok (.iload 4, 2) := by decide +kernel
theorem d_Nodes_append_79 : decode b_Nodes_append 79 = .ok (.iastore, 1) := by decide +kernel
theorem d_Nodes_append_80 : decode b_Nodes_append 80 = .ok (.aload_n 0, 1) := by decide +kernel
theorem d_Nodes_append_81 : decode b_Nodes_append 81 = .ok (.getfield 27, 3) := by decide +kernel
theorem d_Nodes_append_84 : decode b_Nodes_append 84 = .ok (.iload 6, 2) := by decide +kernel
theorem d_Nodes_append_86 : decode b_Nodes_append 86 = .ok (.iload 5, 2) := by decide +kernel
theorem d_Nodes_append_88 : decode b_Nodes_append 88 = .ok (.iastore, 1) := by decide +kernel
theorem d_Nodes_append_89 : decode b_Nodes_append 89 = .ok (.aload_n 0, 1) := by decide +kernel
theorem d_Nodes_append_90 : decode b_Nodes_append 90 = .ok (.getfield 30, 3) := by decide +kernel
theorem d_Nodes_append_93 : decode b_Nodes_append 93 = .ok (.iload 6, 2) := by decide +kernel
theorem d_Nodes_append_95 : decode b_Nodes_append 95 = .ok (.iconst 0, 1) := by decide +kernel
theorem d_Nodes_append_96 : decode b_Nodes_append 96 = .ok (.iastore, 1) := by decide +kernel
theorem d_Nodes_append_97 : decode b_Nodes_append 97 = .ok (.iload_n 2, 1) := by decide +kernel
theorem d_Nodes_append_98 : decode b_Nodes_append 98 = .ok (.ifCond .lt 35, 3) := by decide +kernel
theorem d_Nodes_append_101 : decode b_Nodes_append 101 = .ok (.iload_n 2, 1) := by decide +kernel
theorem d_Nodes_append_102 : decode b_Nodes_append 102 = .ok (.iload 6, 2) := by decide +kernel
theorem d_Nodes_append_104 : decode b_Nodes_append 104 = .ok (.if_icmp .ge 29, 3) := by decide +kernel
theorem d_Nodes_append_107 : decode b_Nodes_append 107 = .ok (.aload_n 0, 1) := by decide +kernel
theorem d_Nodes_append_108 : decode b_Nodes_append 108 = .ok (.getfield 18, 3) := by decide +kernel
theorem d_Nodes_append_111 : decode b_Nodes_append 111 = .ok (.iload 6, 2) := by decide +kernel
theorem d_Nodes_append_113 : decode b_Nodes_append 113 = .ok (.dup2, 1) := by decide +kernel
theorem d_Nodes_append_114 : decode b_Nodes_append 114 = .ok (.iaload, 1) := by decide +kernel
theorem d_Nodes_append_115 : decode b_Nodes_append 115 = .ok (.aload_n 0, 1) := by decide +kernel
theorem d_Nodes_append_116 : decode b_Nodes_append 116 = .ok (.getfield 18, 3) := by decide +kernel
theorem d_Nodes_append_119 : decode b_Nodes_append 119 = .ok (.iload_n 2, 1) := by decide +kernel
theorem d_Nodes_append_120 : decode b_Nodes_append 120 = .ok (.iaload, 1) := by decide +kernel
theorem d_Nodes_append_121 : decode b_Nodes_append 121 = .ok (.iadd, 1) := by decide +kernel
theorem d_Nodes_append_122 : decode b_Nodes_append 122 = .ok (.iastore, 1) := by decide +kernel
theorem d_Nodes_append_123 : decode b_Nodes_append 123 = .ok (.aload_n 0, 1) := by decide +kernel
theorem d_Nodes_append_124 : decode b_Nodes_append 124 = .ok (.getfield 30, 3) := by decide +kernel
theorem d_Nodes_append_127 : decode b_Nodes_append 127 = .ok (.iload_n 2, 1) := by decide +kernel
theorem d_Nodes_append_128 : decode b_Nodes_append 128 = .ok (.dup2, 1) := by decide +kernel
theorem d_Nodes_append_129 : decode b_Nodes_append 129 = .ok (.iaload, 1) := by decide +kernel
theorem d_Nodes_append_130 : decode b_Nodes_append 130 = .ok (.iconst 1, 1) := by decide +kernel
theorem d_Nodes_append_131 : decode b_Nodes_append 131 = .ok (.iadd, 1) := by decide +kernel
theorem d_Nodes_append_132 : decode b_Nodes_append 132 = .ok (.iastore, 1) := by decide +kernel
theorem d_Nodes_append_133 : decode b_Nodes_append 133 = .ok (.iload 6, 2) := by decide +kernel
theorem d_Nodes_append_135 : decode b_Nodes_append 135 = .ok (.ireturn, 1) := by decide +kernel
theorem d_Nodes_scan_0 : decode b_Nodes_scan 0 = .ok (.aload_n 0, 1) := by decide +kernel
theorem d_Nodes_scan_1 : decode b_Nodes_scan 1 = .ok (.aload_n 1, 1) := by decide +kernel
theorem d_Nodes_scan_2 : decode b_Nodes_scan 2 = .ok (.invokevirtual 47, 3) := by decide +kernel
theorem d_Nodes_scan_5 : decode b_Nodes_scan 5 = .ok (.aload_n 0, 1) := by decide +kernel
theorem d_Nodes_scan_6 : decode b_Nodes_scan 6 = .ok (.iconst 3, 1) := by decide +kernel
theorem d_Nodes_scan_7 : decode b_Nodes_scan 7 = .ok (.iconst (-1), 1) := by decide +kernel
theorem d_Nodes_scan_8 : decode b_Nodes_scan 8 = .ok (.iconst (-1), 1) := by decide +kernel
theorem d_Nodes_scan_9 : decode b_Nodes_scan 9 = .ok (.iconst 0, 1) := by decide +kernel
theorem d_Nodes_scan_10 : decode b_Nodes_scan 10 = .ok (.aload_n 1, 1) := by decide +kernel
theorem d_Nodes_scan_11 : decode b_Nodes_scan 11 = .ok (.invokevirtual 51, 3) := by decide +kernel
theorem d_Nodes_scan_14 : decode b_Nodes_scan 14 = .ok (.invokevirtual 57, 3) := by decide +kernel
theorem d_Nodes_scan_17 : decode b_Nodes_scan 17 = .ok (.istore_n 2, 1) := by decide +kernel
theorem d_Nodes_scan_18 : decode b_Nodes_scan 18 = .ok (.iconst 4, 1) := by decide +kernel
theorem d_Nodes_scan_19 : decode b_Nodes_scan 19 = .ok (.istore_n 3, 1) := by decide +kernel
theorem d_Nodes_scan_20 : decode b_Nodes_scan 20 = .ok (.iconst 0, 1) := by decide +kernel
theorem d_Nodes_scan_21 : decode b_Nodes_scan 21 = .ok (.istore 4, 2) := by decide +kernel
theorem d_Nodes_scan_23 : decode b_Nodes_scan 23 = .ok (.iload 4, 2) := by decide +kernel
theorem d_Nodes_scan_25 : decode b_Nodes_scan 25 = .ok (.sipush 2000, 3) := by decide +kernel
theorem d_Nodes_scan_28 : decode b_Nodes_scan 28 = .ok (.if_icmp .ge 116, 3) := by decide +kernel
theorem d_Nodes_scan_31 : decode b_Nodes_scan 31 = .ok (.iload_n 2, 1) := by decide +kernel
theorem d_Nodes_scan_32 : decode b_Nodes_scan 32 = .ok (.ifCond .lt 112, 3) := by decide +kernel
theorem d_Nodes_scan_35 : decode b_Nodes_scan 35 = .ok (.iload_n 3, 1) := by decide +kernel
theorem d_Nodes_scan_36 : decode b_Nodes_scan 36 = .ok (.aload_n 0, 1) := by decide +kernel
theorem d_Nodes_scan_37 : decode b_Nodes_scan 37 = .ok (.iload_n 2, 1) := by decide +kernel
theorem d_Nodes_scan_38 : decode b_Nodes_scan 38 = .ok (.invokevirtual 61, 3) := by decide +kernel
theorem d_Nodes_scan_41 : decode b_Nodes_scan 41 = .ok (.if_icmp .lt 15, 3) := by decide +kernel
theorem d_Nodes_scan_44 : decode b_Nodes_scan 44 = .ok (.iinc 3 1, 3) := by decide +kernel
theorem d_Nodes_scan_47 : decode b_Nodes_scan 47 = .ok (.aload_n 0, 1) := by decide +kernel
theorem d_Nodes_scan_48 : decode b_Nodes_scan 48 = .ok (.iload_n 2, 1) := by decide +kernel
theorem d_Nodes_scan_49 : decode b_Nodes_scan 49 = .ok (.invokevirtual 65, 3) := by decide +kernel
theorem d_Nodes_scan_52 : decode b_Nodes_scan 52 = .ok (.istore_n 2, 1) := by decide +kernel
theorem d_Nodes_scan_53 : decode b_Nodes_scan 53 = .ok (.goto 85, 3) := by decide +kernel
theorem d_Nodes_scan_56 : decode b_Nodes_scan 56 = .ok (.aload_n 1, 1) := by decide +kernel
theorem d_Nodes_scan_57 : decode b_Nodes_scan 57 = .ok (.iload_n 3, 1) := by decide +kernel
theorem d_Nodes_scan_58 : decode b_Nodes_scan 58 = .ok (.invokevirtual 68, 3) := by decide +kernel
theorem d_Nodes_scan_61 : decode b_Nodes_scan 61 = .ok (.istore 5, 2) := by decide +kernel
theorem d_Nodes_scan_63 : decode b_Nodes_scan 63 = .ok (.aload_n 1, 1) := by decide +kernel
theorem d_Nodes_scan_64 : decode b_Nodes_scan 64 = .ok (.iload_n 3, 1) := by decide +kernel
theorem d_Nodes_scan_65 : decode b_Nodes_scan 65 = .ok (.iconst 1, 1) := by decide +kernel
theorem d_Nodes_scan_66 : decode b_Nodes_scan 66 = .ok (.iadd, 1) := by decide +kernel
theorem d_Nodes_scan_67 : decode b_Nodes_scan 67 = .ok (.aload_n 1, 1) := by decide +kernel
theorem d_Nodes_scan_68 : decode b_Nodes_scan 68 = .ok (.invokevirtual 51, 3) := by decide +kernel
theorem d_Nodes_scan_71 : decode b_Nodes_scan 71 = .ok (.invokevirtual 71, 3) := by decide +kernel
theorem d_Nodes_scan_74 : decode b_Nodes_scan 74 = .ok (.iconst 1, 1) := by decide +kernel
theorem d_Nodes_scan_75 : decode b_Nodes_scan 75 = .ok (.iadd, 1) := by decide +kernel
theorem d_Nodes_scan_76 : decode b_Nodes_scan 76 = .ok (.istore 6, 2) := by decide +kernel
theorem d_Nodes_scan_78 : decode b_Nodes_scan 78 = .ok (.iload 5, 2) := by decide +kernel
theorem d_Nodes_scan_80 : decode b_Nodes_scan 80 = .ok (.aload_n 1, 1) := by decide +kernel
theorem d_Nodes_scan_81 : decode b_Nodes_scan 81 = .ok (.iload 6, 2) := by decide +kernel
theorem d_Nodes_scan_83 : decode b_Nodes_scan 83 = .ok (.invokestatic 75, 3) := by decide +kernel
theorem d_Nodes_scan_86 : decode b_Nodes_scan 86 = .ok (.istore 7, 2) := by decide +kernel
theorem d_Nodes_scan_88 : decode b_Nodes_scan 88 = .ok (.aload_n 0, 1) := by decide +kernel
theorem d_Nodes_scan_89 : decode b_Nodes_scan 89 = .ok (.iload 5, 2) := by decide +kernel
theorem d_Nodes_scan_91 : decode b_Nodes_scan 91 = .ok (.iload_n 2, 1) := by decide +kernel
theorem d_Nodes_scan_92 : decode b_Nodes_scan 92 = .ok (.iload_n 3, 1) := by decide +kernel
theorem d_Nodes_scan_93 : decode b_Nodes_scan 93 = .ok (.iconst 1, 1) := by decide +kernel
theorem d_Nodes_scan_94 : decode b_Nodes_scan 94 = .ok (.iadd, 1) := by decide +kernel
theorem d_Nodes_scan_95 : decode b_Nodes_scan 95 = .ok (.iload 6, 2) := by decide +kernel
theorem d_Nodes_scan_97 : decode b_Nodes_scan 97 = .ok (.iload 7, 2) := by decide +kernel
theorem d_Nodes_scan_99 : decode b_Nodes_scan 99 = .ok (.invokevirtual 57, 3) := by decide +kernel
theorem d_Nodes_scan_102 : decode b_Nodes_scan 102 = .ok (.istore 8, 2) := by decide +kernel
theorem d_Nodes_scan_104 : decode b_Nodes_scan 104 = .ok (.iload 5, 2) := by decide +kernel
theorem d_Nodes_scan_106 : decode b_Nodes_scan 106 = .ok (.invokestatic 41, 3) := by decide +kernel
theorem d_Nodes_scan_109 : decode b_Nodes_scan 109 = .ok (.istore 9, 2) := by decide +kernel
theorem d_Nodes_scan_111 : decode b_Nodes_scan 111 = .ok (.iload 6, 2) := by decide +kernel
theorem d_Nodes_scan_113 : decode b_Nodes_scan 113 = .ok (.iload 9, 2) := by decide +kernel
theorem d_Nodes_scan_115 : decode b_Nodes_scan 115 = .ok (.ifCond .eq 7, 3) := by decide +kernel
theorem d_Nodes_scan_118 : decode b_Nodes_scan 118 = .ok (.iconst 4, 1) := by decide +kernel
theorem d_Nodes_scan_119 : decode b_Nodes_scan 119 = .ok (.goto 5, 3) := by decide +kernel
theorem d_Nodes_scan_122 : decode b_Nodes_scan 122 = .ok (.iload 7, 2) := by decide +kernel
theorem d_Nodes_scan_124 : decode b_Nodes_scan 124 = .ok (.iadd, 1) := by decide +kernel
theorem d_Nodes_scan_125 : decode b_Nodes_scan 125 = .ok (.istore_n 3, 1) := by decide +kernel
theorem d_Nodes_scan_126 : decode b_Nodes_scan 126 = .ok (.iload 9, 2) := by decide +kernel
theorem d_Nodes_scan_128 : decode b_Nodes_scan 128 = .ok (.ifCond .eq 8, 3) := by decide +kernel
theorem d_Nodes_scan_131 : decode b_Nodes_scan 131 = .ok (.iload 8, 2) := by decide +kernel
theorem d_Nodes_scan_133 : decode b_Nodes_scan 133 = .ok (.goto 4, 3) := by decide +kernel
theorem d_Nodes_scan_136 : decode b_Nodes_scan 136 = .ok (.iload_n 2, 1) := by decide +kernel
theorem d_Nodes_scan_137 : decode b_Nodes_scan 137 = .ok (.istore_n 2, 1) := by decide +kernel
theorem d_Nodes_scan_138 : decode b_Nodes_scan 138 = .ok (.iinc 4 1, 3) := by decide +kernel
theorem d_Nodes_scan_141 : decode b_Nodes_scan 141 = .ok (.goto (-118), 3) := by decide +kernel
theorem d_Nodes_scan_144 : decode b_Nodes_scan 144 = .ok (.return_, 1) := by decide +kernel
theorem d_Nodes_count_0 : decode b_Nodes_count 0 = .ok (.aload_n 0, 1) := by decide +kernel
theorem d_Nodes_count_1 : decode b_Nodes_count 1 = .ok (.getfield 37, 3) := by decide +kernel
theorem d_Nodes_count_4 : decode b_Nodes_count 4 = .ok (.ireturn, 1) := by decide +kernel
theorem d_Nodes_cell_0 : decode b_Nodes_cell 0 = .ok (.iload_n 2, 1) := by decide +kernel
theorem d_Nodes_cell_1 : decode b_Nodes_cell 1 = .ok (.ifCond .lt 23, 3) := by decide +kernel
theorem d_Nodes_cell_4 : decode b_Nodes_cell 4 = .ok (.iload_n 2, 1) := by decide +kernel
theorem d_Nodes_cell_5 : decode b_Nodes_cell 5 = .ok (.aload_n 0, 1) := by decide +kernel
theorem d_Nodes_cell_6 : decode b_Nodes_cell 6 = .ok (.getfield 37, 3) := by decide +kernel
theorem d_Nodes_cell_9 : decode b_Nodes_cell 9 = .ok (.if_icmp .ge 15, 3) := by decide +kernel
theorem d_Nodes_cell_12 : decode b_Nodes_cell 12 = .ok (.iload_n 2, 1) := by decide +kernel
theorem d_Nodes_cell_13 : decode b_Nodes_cell 13 = .ok (.aload_n 1, 1) := by decide +kernel
theorem d_Nodes_cell_14 : decode b_Nodes_cell 14 = .ok (.arraylength, 1) := by decide +kernel
theorem d_Nodes_cell_15 : decode b_Nodes_cell 15 = .ok (.if_icmp .ge 9, 3) := by decide +kernel
theorem d_Nodes_cell_18 : decode b_Nodes_cell 18 = .ok (.aload_n 1, 1) := by decide +kernel
theorem d_Nodes_cell_19 : decode b_Nodes_cell 19 = .ok (.iload_n 2, 1) := by decide +kernel
theorem d_Nodes_cell_20 : decode b_Nodes_cell 20 = .ok (.iaload, 1) := by decide +kernel
theorem d_Nodes_cell_21 : decode b_Nodes_cell 21 = .ok (.goto 4, 3) := by decide +kernel
theorem d_Nodes_cell_24 : decode b_Nodes_cell 24 = .ok (.iconst (-1), 1) := by decide +kernel
theorem d_Nodes_cell_25 : decode b_Nodes_cell 25 = .ok (.ireturn, 1) := by decide +kernel
theorem d_Nodes_kind_0 : decode b_Nodes_kind 0 = .ok (.aload_n 0, 1) := by decide +kernel
theorem d_Nodes_kind_1 : decode b_Nodes_kind 1 = .ok (.aload_n 0, 1) := by decide +kernel
theorem d_Nodes_kind_2 : decode b_Nodes_kind 2 = .ok (.getfield 9, 3) := by decide +kernel
theorem d_Nodes_kind_5 : decode b_Nodes_kind 5 = .ok (.iload_n 1, 1) := by decide +kernel
theorem d_Nodes_kind_6 : decode b_Nodes_kind 6 = .ok (.invokevirtual 79, 3) := by decide +kernel
theorem d_Nodes_kind_9 : decode b_Nodes_kind 9 = .ok (.ireturn, 1) := by decide +kernel
theorem d_Nodes_parent_0 : decode b_Nodes_parent 0 = .ok (.aload_n 0, 1) := by decide +kernel
theorem d_Nodes_parent_1 : decode b_Nodes_parent 1 = .ok (.aload_n 0, 1) := by decide +kernel
theorem d_Nodes_parent_2 : decode b_Nodes_parent 2 = .ok (.getfield 15, 3) := by decide +kernel
theorem d_Nodes_parent_5 : decode b_Nodes_parent 5 = .ok (.iload_n 1, 1) := by decide +kernel
theorem d_Nodes_parent_6 : decode b_Nodes_parent 6 = .ok (.invokevirtual 79, 3) := by decide +kernel
theorem d_Nodes_parent_9 : decode b_Nodes_parent 9 = .ok (.ireturn, 1) := by decide +kernel
theorem d_Nodes_depth_0 : decode b_Nodes_depth 0 = .ok (.aload_n 0, 1) := by decide +kernel
theorem d_Nodes_depth_1 : decode b_Nodes_depth 1 = .ok (.aload_n 0, 1) := by decide +kernel
theorem d_Nodes_depth_2 : decode b_Nodes_depth 2 = .ok (.getfield 18, 3) := by decide +kernel
theorem d_Nodes_depth_5 : decode b_Nodes_depth 5 = .ok (.iload_n 1, 1) := by decide +kernel
theorem d_Nodes_depth_6 : decode b_Nodes_depth 6 = .ok (.invokevirtual 79, 3) := by decide +kernel
theorem d_Nodes_depth_9 : decode b_Nodes_depth 9 = .ok (.ireturn, 1) := by decide +kernel
theorem d_Nodes_name_0 : decode b_Nodes_name 0 = .ok (.aload_n 0, 1) := by decide +kernel
theorem d_Nodes_name_1 : decode b_Nodes_name 1 = .ok (.aload_n 0, 1) := by decide +kernel
theorem d_Nodes_name_2 : decode b_Nodes_name 2 = .ok (.getfield 21, 3) := by decide +kernel
theorem d_Nodes_name_5 : decode b_Nodes_name 5 = .ok (.iload_n 1, 1) := by decide +kernel
theorem d_Nodes_name_6 : decode b_Nodes_name 6 = .ok (.invokevirtual 79, 3) := by decide +kernel
theorem d_Nodes_name_9 : decode b_Nodes_name 9 = .ok (.ireturn, 1) := by decide +kernel
theorem d_Nodes_nameLength_0 : decode b_Nodes_nameLength 0 = .ok (.aload_n 0, 1) := by decide +kernel
theorem d_Nodes_nameLength_1 : decode b_Nodes_nameLength 1 = .ok (.aload_n 0, 1) := by decide +kernel
theorem d_Nodes_nameLength_2 : decode b_Nodes_nameLength 2 = .ok (.getfield 24, 3) := by decide +kernel
theorem d_Nodes_nameLength_5 : decode b_Nodes_nameLength 5 = .ok (.iload_n 1, 1) := by decide +kernel
theorem d_Nodes_nameLength_6 : decode b_Nodes_nameLength 6 = .ok (.invokevirtual 79, 3) := by decide +kernel
theorem d_Nodes_nameLength_9 : decode b_Nodes_nameLength 9 = .ok (.iconst 1, 1) := by decide +kernel
theorem d_Nodes_nameLength_10 : decode b_Nodes_nameLength 10 = .ok (.isub, 1) := by decide +kernel
theorem d_Nodes_nameLength_11 : decode b_Nodes_nameLength 11 = .ok (.aload_n 0, 1) := by decide +kernel
theorem d_Nodes_nameLength_12 : decode b_Nodes_nameLength 12 = .ok (.aload_n 0, 1) := by decide +kernel
theorem d_Nodes_nameLength_13 : decode b_Nodes_nameLength 13 = .ok (.getfield 21, 3) := by decide +kernel
theorem d_Nodes_nameLength_16 : decode b_Nodes_nameLength 16 = .ok (.iload_n 1, 1) := by decide +kernel
theorem d_Nodes_nameLength_17 : decode b_Nodes_nameLength 17 = .ok (.invokevirtual 79, 3) := by decide +kernel
theorem d_Nodes_nameLength_20 : decode b_Nodes_nameLength 20 = .ok (.isub, 1) := by decide +kernel
theorem d_Nodes_nameLength_21 : decode b_Nodes_nameLength 21 = .ok (.ireturn, 1) := by decide +kernel
theorem d_Nodes_value_0 : decode b_Nodes_value 0 = .ok (.aload_n 0, 1) := by decide +kernel
theorem d_Nodes_value_1 : decode b_Nodes_value 1 = .ok (.aload_n 0, 1) := by decide +kernel
theorem d_Nodes_value_2 : decode b_Nodes_value 2 = .ok (.getfield 24, 3) := by decide +kernel
theorem d_Nodes_value_5 : decode b_Nodes_value 5 = .ok (.iload_n 1, 1) := by decide +kernel
theorem d_Nodes_value_6 : decode b_Nodes_value 6 = .ok (.invokevirtual 79, 3) := by decide +kernel
theorem d_Nodes_value_9 : decode b_Nodes_value 9 = .ok (.ireturn, 1) := by decide +kernel
theorem d_Nodes_valueLength_0 : decode b_Nodes_valueLength 0 = .ok (.aload_n 0, 1) := by decide +kernel
theorem d_Nodes_valueLength_1 : decode b_Nodes_valueLength 1 = .ok (.aload_n 0, 1) := by decide +kernel
theorem d_Nodes_valueLength_2 : decode b_Nodes_valueLength 2 = .ok (.getfield 27, 3) := by decide +kernel
theorem d_Nodes_valueLength_5 : decode b_Nodes_valueLength 5 = .ok (.iload_n 1, 1) := by decide +kernel
theorem d_Nodes_valueLength_6 : decode b_Nodes_valueLength 6 = .ok (.invokevirtual 79, 3) := by decide +kernel
theorem d_Nodes_valueLength_9 : decode b_Nodes_valueLength 9 = .ok (.ireturn, 1) := by decide +kernel
theorem d_Nodes_textLength_0 : decode b_Nodes_textLength 0 = .ok (.aload_n 0, 1) := by decide +kernel
theorem d_Nodes_textLength_1 : decode b_Nodes_textLength 1 = .ok (.aload_n 0, 1) := by decide +kernel
theorem d_Nodes_textLength_2 : decode b_Nodes_textLength 2 = .ok (.getfield 9, 3) := by decide +kernel
theorem d_Nodes_textLength_5 : decode b_Nodes_textLength 5 = .ok (.iload_n 1, 1) := by decide +kernel
theorem d_Nodes_textLength_6 : decode b_Nodes_textLength 6 = .ok (.invokevirtual 79, 3) := by decide +kernel
theorem d_Nodes_textLength_9 : decode b_Nodes_textLength 9 = .ok (.iconst 2, 1) := by decide +kernel
theorem d_Nodes_textLength_10 : decode b_Nodes_textLength 10 = .ok (.if_icmp .ne 17, 3) := by decide +kernel
theorem d_Nodes_textLength_13 : decode b_Nodes_textLength 13 = .ok (.aload_n 0, 1) := by decide +kernel
theorem d_Nodes_textLength_14 : decode b_Nodes_textLength 14 = .ok (.aload_n 0, 1) := by decide +kernel
theorem d_Nodes_textLength_15 : decode b_Nodes_textLength 15 = .ok (.getfield 27, 3) := by decide +kernel
theorem d_Nodes_textLength_18 : decode b_Nodes_textLength 18 = .ok (.iload_n 1, 1) := by decide +kernel
theorem d_Nodes_textLength_19 : decode b_Nodes_textLength 19 = .ok (.invokevirtual 79, 3) := by decide +kernel
theorem d_Nodes_textLength_22 : decode b_Nodes_textLength 22 = .ok (.iconst 5, 1) := by decide +kernel
theorem d_Nodes_textLength_23 : decode b_Nodes_textLength 23 = .ok (.isub, 1) := by decide +kernel
theorem d_Nodes_textLength_24 : decode b_Nodes_textLength 24 = .ok (.goto 4, 3) := by decide +kernel
theorem d_Nodes_textLength_27 : decode b_Nodes_textLength 27 = .ok (.iconst 0, 1) := by decide +kernel
theorem d_Nodes_textLength_28 : decode b_Nodes_textLength 28 = .ok (.ireturn, 1) := by decide +kernel
theorem d_Nodes_elements_0 : decode b_Nodes_elements 0 = .ok (.aload_n 0, 1) := by decide +kernel
theorem d_Nodes_elements_1 : decode b_Nodes_elements 1 = .ok (.aload_n 0, 1) := by decide +kernel
theorem d_Nodes_elements_2 : decode b_Nodes_elements 2 = .ok (.getfield 30, 3) := by decide +kernel
theorem d_Nodes_elements_5 : decode b_Nodes_elements 5 = .ok (.iload_n 1, 1) := by decide +kernel
theorem d_Nodes_elements_6 : decode b_Nodes_elements 6 = .ok (.invokevirtual 79, 3) := by decide +kernel
theorem d_Nodes_elements_9 : decode b_Nodes_elements 9 = .ok (.ireturn, 1) := by decide +kernel
theorem d_Nodes_lastByte_0 : decode b_Nodes_lastByte 0 = .ok (.aload_n 0, 1) := by decide +kernel
theorem d_Nodes_lastByte_1 : decode b_Nodes_lastByte 1 = .ok (.aload_n 0, 1) := by decide +kernel
theorem d_Nodes_lastByte_2 : decode b_Nodes_lastByte 2 = .ok (.getfield 24, 3) := by decide +kernel
theorem d_Nodes_lastByte_5 : decode b_Nodes_lastByte 5 = .ok (.iload_n 1, 1) := by decide +kernel
theorem d_Nodes_lastByte_6 : decode b_Nodes_lastByte 6 = .ok (.invokevirtual 79, 3) := by decide +kernel
theorem d_Nodes_lastByte_9 : decode b_Nodes_lastByte 9 = .ok (.aload_n 0, 1) := by decide +kernel
theorem d_Nodes_lastByte_10 : decode b_Nodes_lastByte 10 = .ok (.aload_n 0, 1) := by decide +kernel
theorem d_Nodes_lastByte_11 : decode b_Nodes_lastByte 11 = .ok (.getfield 27, 3) := by decide +kernel
theorem d_Nodes_lastByte_14 : decode b_Nodes_lastByte 14 = .ok (.iload_n 1, 1) := by decide +kernel
theorem d_Nodes_lastByte_15 : decode b_Nodes_lastByte 15 = .ok (.invokevirtual 79, 3) := by decide +kernel
theorem d_Nodes_lastByte_18 : decode b_Nodes_lastByte 18 = .ok (.iadd, 1) := by decide +kernel
theorem d_Nodes_lastByte_19 : decode b_Nodes_lastByte 19 = .ok (.iconst 1, 1) := by decide +kernel
theorem d_Nodes_lastByte_20 : decode b_Nodes_lastByte 20 = .ok (.isub, 1) := by decide +kernel
theorem d_Nodes_lastByte_21 : decode b_Nodes_lastByte 21 = .ok (.ireturn, 1) := by decide +kernel
theorem d_Nodes_behind_0 : decode b_Nodes_behind 0 = .ok (.iload_n 1, 1) := by decide +kernel
theorem d_Nodes_behind_1 : decode b_Nodes_behind 1 = .ok (.iconst 1, 1) := by decide +kernel
theorem d_Nodes_behind_2 : decode b_Nodes_behind 2 = .ok (.iadd, 1) := by decide +kernel
theorem d_Nodes_behind_3 : decode b_Nodes_behind 3 = .ok (.istore_n 2, 1) := by decide +kernel
theorem d_Nodes_behind_4 : decode b_Nodes_behind 4 = .ok (.iload_n 2, 1) := by decide +kernel
theorem d_Nodes_behind_5 : decode b_Nodes_behind 5 = .ok (.aload_n 0, 1) := by decide +kernel
theorem d_Nodes_behind_6 : decode b_Nodes_behind 6 = .ok (.getfield 37, 3) := by decide +kernel
theorem d_Nodes_behind_9 : decode b_Nodes_behind 9 = .ok (.if_icmp .ge 24, 3) := by decide +kernel
theorem d_Nodes_behind_12 : decode b_Nodes_behind 12 = .ok (.aload_n 0, 1) := by decide +kernel
theorem d_Nodes_behind_13 : decode b_Nodes_behind 13 = .ok (.aload_n 0, 1) := by decide +kernel
theorem d_Nodes_behind_14 : decode b_Nodes_behind 14 = .ok (.getfield 15, 3) := by decide +kernel
theorem d_Nodes_behind_17 : decode b_Nodes_behind 17 = .ok (.iload_n 2, 1) := by decide +kernel
theorem d_Nodes_behind_18 : decode b_Nodes_behind 18 = .ok (.invokevirtual 79, 3) := by decide +kernel
theorem d_Nodes_behind_21 : decode b_Nodes_behind 21 = .ok (.iload_n 1, 1) := by decide +kernel
theorem d_Nodes_behind_22 : decode b_Nodes_behind 22 = .ok (.if_icmp .ge 5, 3) := by decide +kernel
theorem d_Nodes_behind_25 : decode b_Nodes_behind 25 = .ok (.iload_n 2, 1) := by decide +kernel
theorem d_Nodes_behind_26 : decode b_Nodes_behind 26 = .ok (.ireturn, 1) := by decide +kernel
theorem d_Nodes_behind_27 : decode b_Nodes_behind 27 = .ok (.iinc 2 1, 3) := by decide +kernel
theorem d_Nodes_behind_30 : decode b_Nodes_behind 30 = .ok (.goto (-26), 3) := by decide +kernel
theorem d_Nodes_behind_33 : decode b_Nodes_behind 33 = .ok (.aload_n 0, 1) := by decide +kernel
theorem d_Nodes_behind_34 : decode b_Nodes_behind 34 = .ok (.getfield 37, 3) := by decide +kernel
theorem d_Nodes_behind_37 : decode b_Nodes_behind 37 = .ok (.ireturn, 1) := by decide +kernel
theorem d_Nodes_nextBeside_0 : decode b_Nodes_nextBeside 0 = .ok (.aload_n 0, 1) := by decide +kernel
theorem d_Nodes_nextBeside_1 : decode b_Nodes_nextBeside 1 = .ok (.iload_n 1, 1) := by decide +kernel
theorem d_Nodes_nextBeside_2 : decode b_Nodes_nextBeside 2 = .ok (.invokevirtual 83, 3) := by decide +kernel
theorem d_Nodes_nextBeside_5 : decode b_Nodes_nextBeside 5 = .ok (.istore_n 2, 1) := by decide +kernel
theorem d_Nodes_nextBeside_6 : decode b_Nodes_nextBeside 6 = .ok (.iload_n 2, 1) := by decide +kernel
theorem d_Nodes_nextBeside_7 : decode b_Nodes_nextBeside 7 = .ok (.aload_n 0, 1) := by decide +kernel
theorem d_Nodes_nextBeside_8 : decode b_Nodes_nextBeside 8 = .ok (.getfield 37, 3) := by decide +kernel
theorem d_Nodes_nextBeside_11 : decode b_Nodes_nextBeside 11 = .ok (.if_icmp .ge 20, 3) := by decide +kernel
theorem d_Nodes_nextBeside_14 : decode b_Nodes_nextBeside 14 = .ok (.aload_n 0, 1) := by decide +kernel
theorem d_Nodes_nextBeside_15 : decode b_Nodes_nextBeside 15 = .ok (.iload_n 2, 1) := by decide +kernel
theorem d_Nodes_nextBeside_16 : decode b_Nodes_nextBeside 16 = .ok (.invokevirtual 65, 3) := by decide +kernel
theorem d_Nodes_nextBeside_19 : decode b_Nodes_nextBeside 19 = .ok (.aload_n 0, 1) := by decide +kernel
theorem d_Nodes_nextBeside_20 : decode b_Nodes_nextBeside 20 = .ok (.iload_n 1, 1) := by decide +kernel
theorem d_Nodes_nextBeside_21 : decode b_Nodes_nextBeside 21 = .ok (.invokevirtual 65, 3) := by decide +kernel
theorem d_Nodes_nextBeside_24 : decode b_Nodes_nextBeside 24 = .ok (.if_icmp .ne 7, 3) := by decide +kernel
theorem d_Nodes_nextBeside_27 : decode b_Nodes_nextBeside 27 = .ok (.iload_n 2, 1) := by decide +kernel
theorem d_Nodes_nextBeside_28 : decode b_Nodes_nextBeside 28 = .ok (.goto 4, 3) := by decide +kernel
theorem d_Nodes_nextBeside_31 : decode b_Nodes_nextBeside 31 = .ok (.iconst (-1), 1) := by decide +kernel
theorem d_Nodes_nextBeside_32 : decode b_Nodes_nextBeside 32 = .ok (.ireturn, 1) := by decide +kernel
theorem d_Nodes_deepestIn_0 : decode b_Nodes_deepestIn 0 = .ok (.aload_n 0, 1) := by decide +kernel
theorem d_Nodes_deepestIn_1 : decode b_Nodes_deepestIn 1 = .ok (.iload_n 1, 1) := by decide +kernel
theorem d_Nodes_deepestIn_2 : decode b_Nodes_deepestIn 2 = .ok (.invokevirtual 86, 3) := by decide +kernel
theorem d_Nodes_deepestIn_5 : decode b_Nodes_deepestIn 5 = .ok (.istore_n 2, 1) := by decide +kernel
theorem d_Nodes_deepestIn_6 : decode b_Nodes_deepestIn 6 = .ok (.aload_n 0, 1) := by decide +kernel
theorem d_Nodes_deepestIn_7 : decode b_Nodes_deepestIn 7 = .ok (.iload_n 1, 1) := by decide +kernel
theorem d_Nodes_deepestIn_8 : decode b_Nodes_deepestIn 8 = .ok (.invokevirtual 83, 3) := by decide +kernel
theorem d_Nodes_deepestIn_11 : decode b_Nodes_deepestIn 11 = .ok (.istore_n 3, 1) := by decide +kernel
theorem d_Nodes_deepestIn_12 : decode b_Nodes_deepestIn 12 = .ok (.iload_n 1, 1) := by decide +kernel
theorem d_Nodes_deepestIn_13 : decode b_Nodes_deepestIn 13 = .ok (.iconst 1, 1) := by decide +kernel
theorem d_Nodes_deepestIn_14 : decode b_Nodes_deepestIn 14 = .ok (.iadd, 1) := by decide +kernel
theorem d_Nodes_deepestIn_15 : decode b_Nodes_deepestIn 15 = .ok (.istore 4, 2) := by decide +kernel
theorem d_Nodes_deepestIn_17 : decode b_Nodes_deepestIn 17 = .ok (.iload 4, 2) := by decide +kernel
theorem d_Nodes_deepestIn_19 : decode b_Nodes_deepestIn 19 = .ok (.iload_n 3, 1) := by decide +kernel
theorem d_Nodes_deepestIn_20 : decode b_Nodes_deepestIn 20 = .ok (.if_icmp .ge 20, 3) := by decide +kernel
theorem d_Nodes_deepestIn_23 : decode b_Nodes_deepestIn 23 = .ok (.iload_n 2, 1) := by decide +kernel
theorem d_Nodes_deepestIn_24 : decode b_Nodes_deepestIn 24 = .ok (.aload_n 0, 1) := by decide +kernel
theorem d_Nodes_deepestIn_25 : decode b_Nodes_deepestIn 25 = .ok (.iload 4, 2) := by decide +kernel
theorem d_Nodes_deepestIn_27 : decode b_Nodes_deepestIn 27 = .ok (.invokevirtual 86, 3) := by decide +kernel
theorem d_Nodes_deepestIn_30 : decode b_Nodes_deepestIn 30 = .ok (.invokestatic 89, 3) := by decide +kernel
theorem d_Nodes_deepestIn_33 : decode b_Nodes_deepestIn 33 = .ok (.istore_n 2, 1) := by decide +kernel
theorem d_Nodes_deepestIn_34 : decode b_Nodes_deepestIn 34 = .ok (.iinc 4 1, 3) := by decide +kernel
theorem d_Nodes_deepestIn_37 : decode b_Nodes_deepestIn 37 = .ok (.goto (-20), 3) := by decide +kernel
theorem d_Nodes_deepestIn_40 : decode b_Nodes_deepestIn 40 = .ok (.iload_n 2, 1) := by decide +kernel
theorem d_Nodes_deepestIn_41 : decode b_Nodes_deepestIn 41 = .ok (.ireturn, 1) := by decide +kernel
theorem d_Nodes_levels_0 : decode b_Nodes_levels 0 = .ok (.aload_n 0, 1) := by decide +kernel
theorem d_Nodes_levels_1 : decode b_Nodes_levels 1 = .ok (.iload_n 1, 1) := by decide +kernel
theorem d_Nodes_levels_2 : decode b_Nodes_levels 2 = .ok (.invokevirtual 94, 3) := by decide +kernel
theorem d_Nodes_levels_5 : decode b_Nodes_levels 5 = .ok (.invokestatic 41, 3) := by decide +kernel
theorem d_Nodes_levels_8 : decode b_Nodes_levels 8 = .ok (.ifCond .eq 7, 3) := by decide +kernel
theorem d_Nodes_levels_11 : decode b_Nodes_levels 11 = .ok (.iconst 1, 1) := by decide +kernel
theorem d_Nodes_levels_12 : decode b_Nodes_levels 12 = .ok (.goto 4, 3) := by decide +kernel
theorem d_Nodes_levels_15 : decode b_Nodes_levels 15 = .ok (.iconst 0, 1) := by decide +kernel
theorem d_Nodes_levels_16 : decode b_Nodes_levels 16 = .ok (.istore_n 2, 1) := by decide +kernel
theorem d_Nodes_levels_17 : decode b_Nodes_levels 17 = .ok (.aload_n 0, 1) := by decide +kernel
theorem d_Nodes_levels_18 : decode b_Nodes_levels 18 = .ok (.iload_n 1, 1) := by decide +kernel
theorem d_Nodes_levels_19 : decode b_Nodes_levels 19 = .ok (.invokevirtual 97, 3) := by decide +kernel
theorem d_Nodes_levels_22 : decode b_Nodes_levels 22 = .ok (.aload_n 0, 1) := by decide +kernel
theorem d_Nodes_levels_23 : decode b_Nodes_levels 23 = .ok (.iload_n 1, 1) := by decide +kernel
theorem d_Nodes_levels_24 : decode b_Nodes_levels 24 = .ok (.invokevirtual 86, 3) := by decide +kernel
theorem d_Nodes_levels_27 : decode b_Nodes_levels 27 = .ok (.isub, 1) := by decide +kernel
theorem d_Nodes_levels_28 : decode b_Nodes_levels 28 = .ok (.iload_n 2, 1) := by decide +kernel
theorem d_Nodes_levels_29 : decode b_Nodes_levels 29 = .ok (.iadd, 1) := by decide +kernel
theorem d_Nodes_levels_30 : decode b_Nodes_levels 30 = .ok (.ireturn, 1) := by decide +kernel
theorem d_Nodes_named_0 : decode b_Nodes_named 0 = .ok (.iload_n 1, 1) := by decide +kernel
theorem d_Nodes_named_1 : decode b_Nodes_named 1 = .ok (.iconst 1, 1) := by decide +kernel
theorem d_Nodes_named_2 : decode b_Nodes_named 2 = .ok (.iadd, 1) := by decide +kernel
theorem d_Nodes_named_3 : decode b_Nodes_named 3 = .ok (.istore 5, 2) := by decide +kernel
theorem d_Nodes_named_5 : decode b_Nodes_named 5 = .ok (.iload 5, 2) := by decide +kernel
theorem d_Nodes_named_7 : decode b_Nodes_named 7 = .ok (.aload_n 0, 1) := by decide +kernel
theorem d_Nodes_named_8 : decode b_Nodes_named 8 = .ok (.getfield 37, 3) := by decide +kernel
theorem d_Nodes_named_11 : decode b_Nodes_named 11 = .ok (.if_icmp .ge 53, 3) := by decide +kernel
theorem d_Nodes_named_14 : decode b_Nodes_named 14 = .ok (.aload_n 0, 1) := by decide +kernel
theorem d_Nodes_named_15 : decode b_Nodes_named 15 = .ok (.iload 5, 2) := by decide +kernel
theorem d_Nodes_named_17 : decode b_Nodes_named 17 = .ok (.invokevirtual 65, 3) := by decide +kernel
theorem d_Nodes_named_20 : decode b_Nodes_named 20 = .ok (.iload_n 1, 1) := by decide +kernel
theorem d_Nodes_named_21 : decode b_Nodes_named 21 = .ok (.if_icmp .ne 37, 3) := by decide +kernel
theorem d_Nodes_named_24 : decode b_Nodes_named 24 = .ok (.aload_n 0, 1) := by decide +kernel
theorem d_Nodes_named_25 : decode b_Nodes_named 25 = .ok (.iload 5, 2) := by decide +kernel
theorem d_Nodes_named_27 : decode b_Nodes_named 27 = .ok (.invokevirtual 100, 3) := by decide +kernel
theorem d_Nodes_named_30 : decode b_Nodes_named 30 = .ok (.iload 4, 2) := by decide +kernel
theorem d_Nodes_named_32 : decode b_Nodes_named 32 = .ok (.if_icmp .ne 26, 3) := by decide +kernel
theorem d_Nodes_named_35 : decode b_Nodes_named 35 = .ok (.aload_n 0, 1) := by decide +kernel
theorem d_Nodes_named_36 : decode b_Nodes_named 36 = .ok (.getfield 33, 3) := by decide +kernel
theorem d_Nodes_named_39 : decode b_Nodes_named 39 = .ok (.aload_n 0, 1) := by decide +kernel
theorem d_Nodes_named_40 : decode b_Nodes_named 40 = .ok (.iload 5, 2) := by decide +kernel
theorem d_Nodes_named_42 : decode b_Nodes_named 42 = .ok (.invokevirtual 103, 3) := by decide +kernel
theorem d_Nodes_named_45 : decode b_Nodes_named 45 = .ok (.aload_n 2, 1) := by decide +kernel
theorem d_Nodes_named_46 : decode b_Nodes_named 46 = .ok (.iload_n 3, 1) := by decide +kernel
theorem d_Nodes_named_47 : decode b_Nodes_named 47 = .ok (.iload 4, 2) := by decide +kernel
theorem d_Nodes_named_49 : decode b_Nodes_named 49 = .ok (.invokevirtual 106, 3) := by decide +kernel
theorem d_Nodes_named_52 : decode b_Nodes_named 52 = .ok (.ifCond .eq 6, 3) := by decide +kernel
theorem d_Nodes_named_55 : decode b_Nodes_named 55 = .ok (.iload 5, 2) := by decide +kernel
theorem d_Nodes_named_57 : decode b_Nodes_named 57 = .ok (.ireturn, 1) := by decide +kernel
theorem d_Nodes_named_58 : decode b_Nodes_named 58 = .ok (.iinc 5 1, 3) := by decide +kernel
theorem d_Nodes_named_61 : decode b_Nodes_named 61 = .ok (.goto (-56), 3) := by decide +kernel
theorem d_Nodes_named_64 : decode b_Nodes_named 64 = .ok (.iconst (-1), 1) := by decide +kernel
theorem d_Nodes_named_65 : decode b_Nodes_named 65 = .ok (.ireturn, 1) := by decide +kernel
theorem d_Arrays_copyOf_0 : decode b_Arrays_copyOf 0 = .ok (.iload_n 1, 1) := by decide +kernel
theorem d_Arrays_copyOf_1 : decode b_Arrays_copyOf 1 = .ok (.aload_n 0, 1) := by decide +kernel
theorem d_Arrays_copyOf_2 : decode b_Arrays_copyOf 2 = .ok (.arraylength, 1) := by decide +kernel
theorem d_Arrays_copyOf_3 : decode b_Arrays_copyOf 3 = .ok (.if_icmp .ne 11, 3) := by decide +kernel
theorem d_Arrays_copyOf_6 : decode b_Arrays_copyOf 6 = .ok (.aload_n 0, 1) := by decide +kernel
theorem d_Arrays_copyOf_7 : decode b_Arrays_copyOf 7 = .ok (.invokevirtual 310, 3) := by decide +kernel
theorem d_Arrays_copyOf_10 : decode b_Arrays_copyOf 10 = .ok (.checkcast 311, 3) := by decide +kernel
theorem d_Arrays_copyOf_13 : decode b_Arrays_copyOf 13 = .ok (.areturn, 1) := by decide +kernel
theorem d_Arrays_copyOf_14 : decode b_Arrays_copyOf 14 = .ok (.iload_n 1, 1) := by decide +kernel
theorem d_Arrays_copyOf_15 : decode b_Arrays_copyOf 15 = .ok (.newarray .byte, 2) := by decide +kernel
theorem d_Arrays_copyOf_17 : decode b_Arrays_copyOf 17 = .ok (.astore_n 2, 1) := by decide +kernel
theorem d_Arrays_copyOf_18 : decode b_Arrays_copyOf 18 = .ok (.aload_n 0, 1) := by decide +kernel
theorem d_Arrays_copyOf_19 : decode b_Arrays_copyOf 19 = .ok (.iconst 0, 1) := by decide +kernel
theorem d_Arrays_copyOf_20 : decode b_Arrays_copyOf 20 = .ok (.aload_n 2, 1) := by decide +kernel
theorem d_Arrays_copyOf_21 : decode b_Arrays_copyOf 21 = .ok (.iconst 0, 1) := by decide +kernel
theorem d_Arrays_copyOf_22 : decode b_Arrays_copyOf 22 = .ok (.aload_n 0, 1) := by decide +kernel
theorem d_Arrays_copyOf_23 : decode b_Arrays_copyOf 23 = .ok (.arraylength, 1) := by decide +kernel
theorem d_Arrays_copyOf_24 : decode b_Arrays_copyOf 24 = .ok (.iload_n 1, 1) := by decide +kernel
theorem d_Arrays_copyOf_25 : decode b_Arrays_copyOf 25 = .ok (.invokestatic 304, 3) := by decide +kernel
theorem d_Arrays_copyOf_28 : decode b_Arrays_copyOf 28 = .ok (.invokestatic 150, 3) := by decide +kernel
theorem d_Arrays_copyOf_31 : decode b_Arrays_copyOf 31 = .ok (.aload_n 2, 1) := by decide +kernel
theorem d_Arrays_copyOf_32 : decode b_Arrays_copyOf 32 = .ok (.areturn, 1) := by decide +kernel
end
section
set_option maxHeartbeats 4000000 in
set_option maxRecDepth 100000 in
theorem c_Bytes_size (l : Launch) (D : va_G) (g : Nat → ClassId) (lo : Nat) (L : Nat → Nat) (κ : Nat → Option va_E) (i j mo n sz : Nat) (b : Nat → Int) (hB : bxs g L κ i j mo n sz b) : Met l y_Bytes_size w_Bytes_size ({ frames := 0, cells := 0, slots := 0, locals := 0 }) (mwP D vwCl (tyL g) lo L κ [.ref (L i)]) (mwQ D vwCl lo (mwR (some (.int (iI sz))) L κ)) 0 0 (fun q => lo ≤ q) := by
  obtain ⟨hz1, hz2, hz3⟩ := hB.2.2.1
  refine Met.ofW (cc := b_Bytes_size) (maxL := 1) (ret := (Option.some Jvm.ClassFile.FieldType.int)) (by decide) rfl ?_
  intro p e s m args below meth c s₁ B hml hpre
  obtain ⟨hargs, hM, hK⟩ := hpre
  have hx := B.exec
  have hb := B.bytes
  have hr := B.returns
  have hts : ∀ w ∈ wA, w.before args s = true := fun w h => atoms_spec (ws := w_Bytes_size) B.pre w (List.mem_cons_of_mem _ h)
  have hown : s.vm.findClass R_Bytes = some m.cls := findClass_of_methodNamed B.named
  have hlocks := B.notSynchronized
  have hS : va_S (fun q => lo ≤ q) s.heap s.heap [] := va_S.rf
  obtain ⟨ls, hls, hl⟩ := mw_entry (m := m) [.ref (L i)] (n := 1) (Nat.le_of_ble_eq_true rfl) hargs
  refine W.eq hls ?_
  have hl : lv_has ls 1 [(0, .ref (L i))] := hl
  refine lv_aload_n hx hb d_Bytes_size_0 rfl (lv_at hl 0 rfl) ?_
  refine mw_get (ci := 0) (i := i) (v := .int (iI sz)) (C := R_Bytes) (T := T_Bytes) (N := 3) hx hb hts in_Bytes hown hK hM hB.1 rfl rfl 2 (by decide) (hts _ m_77) rfl d_Bytes_size_1 ?_
  exact mw_iret hx hb hr hM hS hlocks d_Bytes_size_4 (mwR_i (by rfl))
set_option maxHeartbeats 4000000 in
set_option maxRecDepth 100000 in
theorem c_Bytes_has (l : Launch) (D : va_G) (g : Nat → ClassId) (lo : Nat) (L : Nat → Nat) (κ : Nat → Option va_E) (i j mo n sz : Nat) (b : Nat → Int) (hB : bxs g L κ i j mo n sz b) (a1 a2 : Int) (ha1 : -2147483648 ≤ a1 ∧ a1 < 2147483648) (ha2 : -2147483648 ≤ a2 ∧ a2 < 2147483648) : Met l y_Bytes_has w_Bytes_has ({ frames := 0, cells := 0, slots := 0, locals := 0 }) (mwP D vwCl (tyL g) lo L κ [.ref (L i), .int (iI a1), .int (iI a2)]) (mwQ D vwCl lo (mwR (some (.int (iI (bI (bHas sz a1 a2))))) L κ)) 0 0 (fun q => lo ≤ q) := by
  obtain ⟨hz1, hz2, hz3⟩ := hB.2.2.1
  refine Met.ofW (cc := b_Bytes_has) (maxL := 3) (ret := (Option.some Jvm.ClassFile.FieldType.boolean)) (by decide) rfl ?_
  intro p e s m args below meth c s₁ B hml hpre
  obtain ⟨hargs, hM, hK⟩ := hpre
  have hx := B.exec
  have hb := B.bytes
  have hr := B.returns
  have hts : ∀ w ∈ wA, w.before args s = true := fun w h => atoms_spec (ws := w_Bytes_has) B.pre w (List.mem_cons_of_mem _ h)
  have hown : s.vm.findClass R_Bytes = some m.cls := findClass_of_methodNamed B.named
  have hlocks := B.notSynchronized
  have hS : va_S (fun q => lo ≤ q) s.heap s.heap [] := va_S.rf
  obtain ⟨ls, hls, hl⟩ := mw_entry (m := m) [.ref (L i), .int (iI a1), .int (iI a2)] (n := 3) (Nat.le_of_ble_eq_true rfl) hargs
  refine W.eq hls ?_
  have hl : lv_has ls 3 [(0, .ref (L i)), (1, .int (iI a1)), (2, .int (iI a2))] := hl
  refine lv_iload_n hx hb d_Bytes_has_0 rfl (lv_at hl 1 rfl) ?_
  refine ia_if_lt (a := a1) (tgt := 30) hx hb d_Bytes_has_1 (by decide) (by omega) (fun c1 => ?_) (fun c1 => ?_)
  · refine lv_iconst (v := iI (0)) hx hb d_Bytes_has_30 rfl ?_
    exact mw_zret (v := false) hx hb hr hM hS hlocks d_Bytes_has_31 (mwR_z (by exact bHas_f (by omega)))
  · refine lv_iload_n hx hb d_Bytes_has_4 rfl (lv_at hl 2 rfl) ?_
    refine ia_if_lt (a := a2) (tgt := 30) hx hb d_Bytes_has_5 (by decide) (by omega) (fun c2 => ?_) (fun c2 => ?_)
    · refine lv_iconst (v := iI (0)) hx hb d_Bytes_has_30 rfl ?_
      exact mw_zret (v := false) hx hb hr hM hS hlocks d_Bytes_has_31 (mwR_z (by exact bHas_f (by omega)))
    · refine lv_iload_n hx hb d_Bytes_has_8 rfl (lv_at hl 1 rfl) ?_
      refine lv_aload_n hx hb d_Bytes_has_9 rfl (lv_at hl 0 rfl) ?_
      refine mw_get (ci := 0) (i := i) (v := .int (iI sz)) (C := R_Bytes) (T := T_Bytes) (N := 3) hx hb hts in_Bytes hown hK hM hB.1 rfl rfl 2 (by decide) (hts _ m_77) rfl d_Bytes_has_10 ?_
      refine ia_icmp_gt (a := a1) (b := sz) (tgt := 30) hx hb d_Bytes_has_13 (by decide) (by omega) (by omega) (fun c3 => ?_) (fun c3 => ?_)
      · refine lv_iconst (v := iI (0)) hx hb d_Bytes_has_30 rfl ?_
        exact mw_zret (v := false) hx hb hr hM hS hlocks d_Bytes_has_31 (mwR_z (by exact bHas_f (by omega)))
      · refine lv_iload_n hx hb d_Bytes_has_16 rfl (lv_at hl 2 rfl) ?_
        refine lv_aload_n hx hb d_Bytes_has_17 rfl (lv_at hl 0 rfl) ?_
        refine mw_get (ci := 0) (i := i) (v := .int (iI sz)) (C := R_Bytes) (T := T_Bytes) (N := 3) hx hb hts in_Bytes hown hK hM hB.1 rfl rfl 2 (by decide) (hts _ m_77) rfl d_Bytes_has_18 ?_
        refine lv_iload_n hx hb d_Bytes_has_21 rfl (lv_at hl 1 rfl) ?_
        refine ia_sub hx hb d_Bytes_has_22 ?_
        refine ia_icmp_gt (a := a2) (b := sz - a1) (tgt := 30) hx hb d_Bytes_has_23 (by decide) (by omega) (by omega) (fun c4 => ?_) (fun c4 => ?_)
        · refine lv_iconst (v := iI (0)) hx hb d_Bytes_has_30 rfl ?_
          exact mw_zret (v := false) hx hb hr hM hS hlocks d_Bytes_has_31 (mwR_z (by exact bHas_f (by omega)))
        · refine lv_iconst (v := iI (1)) hx hb d_Bytes_has_26 rfl ?_
          refine lv_goto (tgt := 31) hx hb d_Bytes_has_27 (by decide) ?_
          exact mw_zret (v := true) hx hb hr hM hS hlocks d_Bytes_has_31 (mwR_z (by exact bHas_t (by omega)))
set_option maxHeartbeats 4000000 in
set_option maxRecDepth 100000 in
theorem c_Bytes_get (l : Launch) (D : va_G) (g : Nat → ClassId) (lo : Nat) (L : Nat → Nat) (κ : Nat → Option va_E) (i j mo n sz : Nat) (b : Nat → Int) (hB : bxs g L κ i j mo n sz b) (a : Int) (ha : -2147483648 ≤ a ∧ a < 2147483648) : Met l y_Bytes_get w_Bytes_get ({ frames := 0, cells := 0, slots := 0, locals := 0 }) (mwP D vwCl (tyL g) lo L κ [.ref (L i), .int (iI a)]) (mwQ D vwCl lo (mwR (some (.int (iI (bGet b sz a)))) L κ)) 0 0 (fun q => lo ≤ q) := by
  obtain ⟨hz1, hz2, hz3⟩ := hB.2.2.1
  refine Met.ofW (cc := b_Bytes_get) (maxL := 2) (ret := (Option.some Jvm.ClassFile.FieldType.int)) (by decide) rfl ?_
  intro p e s m args below meth c s₁ B hml hpre
  obtain ⟨hargs, hM, hK⟩ := hpre
  have hx := B.exec
  have hb := B.bytes
  have hr := B.returns
  have hts : ∀ w ∈ wA, w.before args s = true := fun w h => atoms_spec (ws := w_Bytes_get) B.pre w (List.mem_cons_of_mem _ h)
  have hown : s.vm.findClass R_Bytes = some m.cls := findClass_of_methodNamed B.named
  have hlocks := B.notSynchronized
  have hS : va_S (fun q => lo ≤ q) s.heap s.heap [] := va_S.rf
  obtain ⟨ls, hls, hl⟩ := mw_entry (m := m) [.ref (L i), .int (iI a)] (n := 2) (Nat.le_of_ble_eq_true rfl) hargs
  refine W.eq hls ?_
  have hl : lv_has ls 2 [(0, .ref (L i)), (1, .int (iI a))] := hl
  refine lv_iload_n hx hb d_Bytes_get_0 rfl (lv_at hl 1 rfl) ?_
  refine ia_if_lt (a := a) (tgt := 25) hx hb d_Bytes_get_1 (by decide) (by omega) (fun c1 => ?_) (fun c1 => ?_)
  · refine lv_iconst (v := iI (-1)) hx hb d_Bytes_get_25 rfl ?_
    exact mw_iret hx hb hr hM hS hlocks d_Bytes_get_26 (mwR_i (by rw [bGet_out (by omega)]))
  · refine lv_iload_n hx hb d_Bytes_get_4 rfl (lv_at hl 1 rfl) ?_
    refine lv_aload_n hx hb d_Bytes_get_5 rfl (lv_at hl 0 rfl) ?_
    refine mw_get (ci := 0) (i := i) (v := .int (iI sz)) (C := R_Bytes) (T := T_Bytes) (N := 3) hx hb hts in_Bytes hown hK hM hB.1 rfl rfl 2 (by decide) (hts _ m_77) rfl d_Bytes_get_6 ?_
    refine ia_icmp_ge (a := a) (b := sz) (tgt := 25) hx hb d_Bytes_get_9 (by decide) (by omega) (by omega) (fun c2 => ?_) (fun c2 => ?_)
    · refine lv_iconst (v := iI (-1)) hx hb d_Bytes_get_25 rfl ?_
      exact mw_iret hx hb hr hM hS hlocks d_Bytes_get_26 (mwR_i (by rw [bGet_out (by omega)]))
    · refine lv_aload_n hx hb d_Bytes_get_12 rfl (lv_at hl 0 rfl) ?_
      refine mw_get (ci := 0) (i := i) (v := .ref (L j)) (C := R_Bytes) (T := T_Bytes) (N := 3) hx hb hts in_Bytes hown hK hM hB.1 rfl rfl 1 (by decide) (hts _ m_76) rfl d_Bytes_get_13 ?_
      refine lv_iload_n hx hb d_Bytes_get_16 rfl (lv_at hl 1 rfl) ?_
      refine mw_bald (a := a) (i := j) hx hb hK hM 0 hB.2.1 rfl rfl (by omega) (by omega) d_Bytes_get_17 ?_
      have r3 := hB.2.2.2.1 (a : Int).toNat
      refine lv_sipush (v := iI (255)) hx hb d_Bytes_get_18 (by decide) ?_
      refine ia_andb hx hb d_Bytes_get_21 ?_
      refine lv_goto (tgt := 26) hx hb d_Bytes_get_22 (by decide) ?_
      exact mw_iret hx hb hr hM hS hlocks d_Bytes_get_26 (mwR_i (by rw [bGet_in (by omega) (by omega)]; omega))
set_option maxHeartbeats 4000000 in
set_option maxRecDepth 100000 in
theorem c_Bytes_firstZero (l : Launch) (D : va_G) (g : Nat → ClassId) (lo : Nat) (L : Nat → Nat) (κ : Nat → Option va_E) (i j mo n sz : Nat) (b : Nat → Int) (hB : bxs g L κ i j mo n sz b) (a1 a2 : Int) (ha1 : -2147483648 ≤ a1 ∧ a1 < 2147483648) (ha2 : -2147483648 ≤ a2 ∧ a2 < 2147483648) : Met l y_Bytes_firstZero w_Bytes_firstZero ({ frames := 1, cells := 0, slots := 0, locals := 21 }) (mwP D vwCl (tyL g) lo L κ [.ref (L i), .int (iI a1), .int (iI a2)]) (mwQ D vwCl lo (mwR (some (.int (iI (bFz b sz a1 a2)))) L κ)) 0 0 (fun q => lo ≤ q) := by
  obtain ⟨hz1, hz2, hz3⟩ := hB.2.2.1
  refine Met.ofW (cc := b_Bytes_firstZero) (maxL := 4) (ret := (Option.some Jvm.ClassFile.FieldType.int)) (by decide) rfl ?_
  intro p e s m args below meth c s₁ B hml hpre
  obtain ⟨hargs, hM, hK⟩ := hpre
  have hx := B.exec
  have hb := B.bytes
  have hr := B.returns
  have hts : ∀ w ∈ wA, w.before args s = true := fun w h => atoms_spec (ws := w_Bytes_firstZero) B.pre w (List.mem_cons_of_mem _ h)
  have hown : s.vm.findClass R_Bytes = some m.cls := findClass_of_methodNamed B.named
  have hlocks := B.notSynchronized
  have hS : va_S (fun q => lo ≤ q) s.heap s.heap [] := va_S.rf
  have loop2 : ∀ (N : Nat) (k : Int), (a2 - k).toNat < N → (-2147483648 ≤ k ∧ k < 2147483648) → (bFz b sz a1 a2 = bFz b sz k a2) → ∀ (H : Heap) (locs : List Loc) (ls : Array Slot), mw D vwCl lo L κ H → va_S (fun q => lo ≤ q) s.heap H locs → lv_has ls 4 [(3, .int (iI k)), (0, .ref (L i)), (1, .int (iI a1)), (2, .int (iI a2))] → W p l e (headSpec w_Bytes_firstZero ({ frames := 1, cells := 0, slots := 0, locals := 21 })).room s m args below meth c H locs 0 0 (MQ below (mwQ D vwCl lo (mwR (some (.int (iI (bFz b sz a1 a2)))) L κ)) args s 0 0 (fun q => lo ≤ q)) (F0 m 2 ls []) := by
    intro N
    induction N with
    | zero => intro k hms; exact absurd hms (Nat.not_lt_zero _)
    | succ N ih =>
      intro k hms hk hres H locs ls hM hS hl
      refine lv_iload_n hx hb d_Bytes_firstZero_2 rfl (lv_at hl 0 rfl) ?_
      refine lv_iload_n hx hb d_Bytes_firstZero_3 rfl (lv_at hl 3 rfl) ?_
      refine ia_icmp_ge (a := k) (b := a2) (tgt := 23) hx hb d_Bytes_firstZero_4 (by decide) (by omega) (by omega) (fun c1 => ?_) (fun c1 => ?_)
      · refine lv_iconst (v := iI (-1)) hx hb d_Bytes_firstZero_23 rfl ?_
        exact mw_iret hx hb hr hM hS hlocks d_Bytes_firstZero_24 (mwR_i (by rw [hres, bFz_end (by omega)]))
      · refine lv_aload_n hx hb d_Bytes_firstZero_7 rfl (lv_at hl 1 rfl) ?_
        refine lv_iload_n hx hb d_Bytes_firstZero_8 rfl (lv_at hl 0 rfl) ?_
        refine mw_rdV (i := i) (As := [.int (iI k)]) (rest := []) ⟨hx, hb, hml, hown, hts⟩ hK hM hS rfl hB.1 rfl (c_Bytes_get l D g lo L κ i j mo n sz b hB k (by omega)) (cwV 1 hts (gV m_250 m_251 m_252 m_52 m_253) rfl rfl rfl (by decide +kernel) ⟨Nat.le_of_ble_eq_true rfl, Nat.le_of_ble_eq_true rfl⟩) rfl hl.1 rfl (Nat.le_of_ble_eq_true rfl) d_Bytes_firstZero_9 ⟨Nat.le_of_ble_eq_true rfl, Nat.le_of_ble_eq_true rfl⟩ (fun H locs hM hS => ?_)
        have r2 := bGet_r (sz := sz) hB.2.2.2.1 k
        refine ia_if_ne (a := bGet b sz k) (tgt := 17) hx hb d_Bytes_firstZero_12 (by decide) (by omega) (fun c3 => ?_) (fun c3 => ?_)
        · refine lv_iinc (v := iI (k + 1)) (lv' := [(3, .int (iI (k + 1))), (0, .ref (L i)), (1, .int (iI a1)), (2, .int (iI a2))]) hx hb d_Bytes_firstZero_17 hl (k := 0) rfl (iI_inc _ _) (by decide) rfl (fun ls hl => ?_)
          refine lv_goto (tgt := 2) hx hb d_Bytes_firstZero_20 (by decide) ?_
          exact ih (k + 1) (by omega) (by omega) (by rw [hres, bFz_step (by omega), if_neg (by omega)]) _ _ ls hM hS (lv_sub hl [0, 1, 2, 3] rfl)
        · refine lv_iload_n hx hb d_Bytes_firstZero_15 rfl (lv_at hl 0 rfl) ?_
          exact mw_iret hx hb hr hM hS hlocks d_Bytes_firstZero_16 (mwR_i (by rw [hres, bFz_step (by omega), if_pos (by omega)]))
  obtain ⟨ls, hls, hl⟩ := mw_entry (m := m) [.ref (L i), .int (iI a1), .int (iI a2)] (n := 4) (Nat.le_of_ble_eq_true rfl) hargs
  refine W.eq hls ?_
  have hl : lv_has ls 4 [(0, .ref (L i)), (1, .int (iI a1)), (2, .int (iI a2))] := hl
  refine lv_iload_n hx hb d_Bytes_firstZero_0 rfl (lv_at hl 1 rfl) ?_
  refine lv_istore_n (lv' := [(3, .int (iI a1)), (0, .ref (L i)), (1, .int (iI a1)), (2, .int (iI a2))]) hx hb d_Bytes_firstZero_1 rfl hl (by decide) rfl (fun ls hl => ?_)
  exact loop2 _ a1 (Nat.lt_succ_self _) ha1 rfl _ _ ls hM hS (lv_sub hl [0, 1, 2, 3] rfl)
set_option maxHeartbeats 4000000 in
set_option maxRecDepth 100000 in
theorem c_Bytes_numberAt (l : Launch) (D : va_G) (g : Nat → ClassId) (lo : Nat) (L : Nat → Nat) (κ : Nat → Option va_E) (i j mo n sz : Nat) (b : Nat → Int) (hB : bxs g L κ i j mo n sz b) (a1 a2 : Int) (ha1 : -1000000 ≤ a1 ∧ a1 ≤ 1000000) (ha2 : -1000000 ≤ a2 ∧ a2 ≤ 1000000) : Met l y_Bytes_numberAt w_Bytes_numberAt ({ frames := 1, cells := 0, slots := 0, locals := 21 }) (mwP D vwCl (tyL g) lo L κ [.ref (L i), .int (iI a1), .int (iI a2)]) (mwQ D vwCl lo (mwR (some (.long (lI (bNum b sz a1 (a2 - 1) 0)))) L κ)) 0 0 (fun q => lo ≤ q) := by
  obtain ⟨hz1, hz2, hz3⟩ := hB.2.2.1
  refine Met.ofW (cc := b_Bytes_numberAt) (maxL := 6) (ret := (Option.some Jvm.ClassFile.FieldType.long)) (by decide) rfl ?_
  intro p e s m args below meth c s₁ B hml hpre
  obtain ⟨hargs, hM, hK⟩ := hpre
  have hx := B.exec
  have hb := B.bytes
  have hr := B.returns
  have hts : ∀ w ∈ wA, w.before args s = true := fun w h => atoms_spec (ws := w_Bytes_numberAt) B.pre w (List.mem_cons_of_mem _ h)
  have hown : s.vm.findClass R_Bytes = some m.cls := findClass_of_methodNamed B.named
  have hlocks := B.notSynchronized
  have hS : va_S (fun q => lo ≤ q) s.heap s.heap [] := va_S.rf
  have loop7 : ∀ (N : Nat) (k : Int) (acc : Int), (k + 1).toNat < N → (-1000001 ≤ k ∧ k ≤ 1000000) → (bNum b sz a1 (a2 - 1) 0 = bNum b sz a1 k acc) → ∀ (H : Heap) (locs : List Loc) (ls : Array Slot), mw D vwCl lo L κ H → va_S (fun q => lo ≤ q) s.heap H locs → lv_has ls 6 [(5, .int (iI k)), (3, .long (lI acc)), (0, .ref (L i)), (1, .int (iI a1)), (2, .int (iI a2))] → W p l e (headSpec w_Bytes_numberAt ({ frames := 1, cells := 0, slots := 0, locals := 21 })).room s m args below meth c H locs 0 0 (MQ below (mwQ D vwCl lo (mwR (some (.long (lI (bNum b sz a1 (a2 - 1) 0)))) L κ)) args s 0 0 (fun q => lo ≤ q)) (F0 m 7 ls []) := by
    intro N
    induction N with
    | zero => intro k acc hms; exact absurd hms (Nat.not_lt_zero _)
    | succ N ih =>
      intro k acc hms hk hres H locs ls hM hS hl
      refine lv_iload hx hb d_Bytes_numberAt_7 (lv_at hl 0 rfl) ?_
      refine ia_if_lt (a := k) (tgt := 37) hx hb d_Bytes_numberAt_9 (by decide) (by omega) (fun c1 => ?_) (fun c1 => ?_)
      · refine lv_lload_n hx hb d_Bytes_numberAt_37 rfl (lv_at hl 1 rfl) ?_
        exact mw_lret hx hb hr hM hS hlocks d_Bytes_numberAt_38 (mwR_l (by rw [hres, bNum_end (by omega)]))
      · refine lv_lload_n hx hb d_Bytes_numberAt_12 rfl (lv_at hl 1 rfl) ?_
        refine lv_bipush (v := iI (8)) hx hb d_Bytes_numberAt_13 (by decide) ?_
        refine ia_lshl8 hx hb d_Bytes_numberAt_15 ?_
        refine lv_aload_n hx hb d_Bytes_numberAt_16 rfl (lv_at hl 2 rfl) ?_
        refine lv_iload_n hx hb d_Bytes_numberAt_17 rfl (lv_at hl 3 rfl) ?_
        refine lv_iload hx hb d_Bytes_numberAt_18 (lv_at hl 0 rfl) ?_
        refine ia_add hx hb d_Bytes_numberAt_20 ?_
        refine mw_rdV (i := i) (As := [.int (iI (a1 + k))]) (rest := [.long (lI (acc * 256))]) ⟨hx, hb, hml, hown, hts⟩ hK hM hS rfl hB.1 rfl (c_Bytes_get l D g lo L κ i j mo n sz b hB (a1 + k) (by omega)) (cwV 1 hts (gV m_250 m_251 m_252 m_52 m_253) rfl rfl rfl (by decide +kernel) ⟨Nat.le_of_ble_eq_true rfl, Nat.le_of_ble_eq_true rfl⟩) rfl hl.1 rfl (Nat.le_of_ble_eq_true rfl) d_Bytes_numberAt_21 ⟨Nat.le_of_ble_eq_true rfl, Nat.le_of_ble_eq_true rfl⟩ (fun H locs hM hS => ?_)
        have r2 := bGet_r (sz := sz) hB.2.2.2.1 (a1 + k)
        refine lv_sipush (v := iI (255)) hx hb d_Bytes_numberAt_24 (by decide) ?_
        refine ia_and255 hx hb d_Bytes_numberAt_27 ?_
        refine ia_i2l hx hb (by omega) d_Bytes_numberAt_28 ?_
        refine ia_lor8 hx hb (by omega) d_Bytes_numberAt_29 ?_
        refine lv_lstore_n (lv' := [(3, .long (lI (acc * 256 + ((bGet b sz (a1 + k)) % 256)))), (5, .int (iI k)), (0, .ref (L i)), (1, .int (iI a1)), (2, .int (iI a2))]) hx hb d_Bytes_numberAt_30 rfl hl (by decide) rfl (fun ls hl => ?_)
        refine lv_iinc (v := iI (k + (-1))) (lv' := [(5, .int (iI (k + (-1)))), (3, .long (lI (acc * 256 + ((bGet b sz (a1 + k)) % 256)))), (0, .ref (L i)), (1, .int (iI a1)), (2, .int (iI a2))]) hx hb d_Bytes_numberAt_31 hl (k := 1) rfl (iI_inc _ _) (by decide) rfl (fun ls hl => ?_)
        refine lv_goto (tgt := 7) hx hb d_Bytes_numberAt_34 (by decide) ?_
        exact ih (k + (-1)) (acc * 256 + (bGet b sz (a1 + k) % 256)) (by omega) (by omega) (by rw [hres, bNum_step (by omega)]) _ _ ls hM hS (lv_sub hl [0, 1, 2, 3, 4] rfl)
  obtain ⟨ls, hls, hl⟩ := mw_entry (m := m) [.ref (L i), .int (iI a1), .int (iI a2)] (n := 6) (Nat.le_of_ble_eq_true rfl) hargs
  refine W.eq hls ?_
  have hl : lv_has ls 6 [(0, .ref (L i)), (1, .int (iI a1)), (2, .int (iI a2))] := hl
  refine lv_lconst (v := lI (0)) hx hb d_Bytes_numberAt_0 (by decide) ?_
  refine lv_lstore_n (lv' := [(3, .long (lI 0)), (0, .ref (L i)), (1, .int (iI a1)), (2, .int (iI a2))]) hx hb d_Bytes_numberAt_1 rfl hl (by decide) rfl (fun ls hl => ?_)
  refine lv_iload_n hx hb d_Bytes_numberAt_2 rfl (lv_at hl 3 rfl) ?_
  refine lv_iconst (v := iI (1)) hx hb d_Bytes_numberAt_3 rfl ?_
  refine ia_sub hx hb d_Bytes_numberAt_4 ?_
  refine lv_istore (lv' := [(5, .int (iI (a2 - 1))), (3, .long (lI 0)), (0, .ref (L i)), (1, .int (iI a1)), (2, .int (iI a2))]) hx hb d_Bytes_numberAt_5 hl (by decide) rfl (fun ls hl => ?_)
  exact loop7 _ (a2 - 1) 0 (Nat.lt_succ_self _) (by omega) rfl _ _ ls hM hS (lv_sub hl [0, 1, 2, 3, 4] rfl)
set_option maxHeartbeats 4000000 in
set_option maxRecDepth 100000 in
theorem c_Bytes_digits (l : Launch) (D : va_G) (g : Nat → ClassId) (lo : Nat) (L : Nat → Nat) (κ : Nat → Option va_E) (a : Int) (ha : -2147483648 ≤ a ∧ a < 2147483648) : Met l y_Bytes_digits w_Bytes_digits ({ frames := 0, cells := 0, slots := 0, locals := 0 }) (mwP D vwCl (tyL g) lo L κ [.int (iI a)]) (mwQ D vwCl lo (mwR (some (.int (iI (bDigits a)))) L κ)) 0 0 (fun q => lo ≤ q) := by
  refine Met.ofW (cc := b_Bytes_digits) (maxL := 1) (ret := (Option.some Jvm.ClassFile.FieldType.int)) (by decide) rfl ?_
  intro p e s m args below meth c s₁ B hml hpre
  obtain ⟨hargs, hM, hK⟩ := hpre
  have hx := B.exec
  have hb := B.bytes
  have hr := B.returns
  have hts : ∀ w ∈ wA, w.before args s = true := fun w h => atoms_spec (ws := w_Bytes_digits) B.pre w (List.mem_cons_of_mem _ h)
  have hown : s.vm.findClass R_Bytes = some m.cls := findClass_of_methodNamed B.named
  have hlocks := B.notSynchronized
  have hS : va_S (fun q => lo ≤ q) s.heap s.heap [] := va_S.rf
  obtain ⟨ls, hls, hl⟩ := mw_entry (m := m) [.int (iI a)] (n := 1) (Nat.le_of_ble_eq_true rfl) hargs
  refine W.eq hls ?_
  have hl : lv_has ls 1 [(0, .int (iI a))] := hl
  refine lv_iload_n hx hb d_Bytes_digits_0 rfl (lv_at hl 0 rfl) ?_
  refine lv_bipush (v := iI (10)) hx hb d_Bytes_digits_1 (by decide) ?_
  refine ia_icmp_ge (a := a) (b := 10) (tgt := 10) hx hb d_Bytes_digits_3 (by decide) (by omega) (by omega) (fun c1 => ?_) (fun c1 => ?_)
  · refine lv_iload_n hx hb d_Bytes_digits_10 rfl (lv_at hl 0 rfl) ?_
    refine lv_bipush (v := iI (100)) hx hb d_Bytes_digits_11 (by decide) ?_
    refine ia_icmp_ge (a := a) (b := 100) (tgt := 20) hx hb d_Bytes_digits_13 (by decide) (by omega) (by omega) (fun c2 => ?_) (fun c2 => ?_)
    · refine lv_iload_n hx hb d_Bytes_digits_20 rfl (lv_at hl 0 rfl) ?_
      refine lv_sipush (v := iI (1000)) hx hb d_Bytes_digits_21 (by decide) ?_
      refine ia_icmp_ge (a := a) (b := 1000) (tgt := 31) hx hb d_Bytes_digits_24 (by decide) (by omega) (by omega) (fun c3 => ?_) (fun c3 => ?_)
      · refine lv_iconst (v := iI (4)) hx hb d_Bytes_digits_31 rfl ?_
        exact mw_iret hx hb hr hM hS hlocks d_Bytes_digits_32 (mwR_i (by unfold bDigits; (repeat split) <;> omega))
      · refine lv_iconst (v := iI (3)) hx hb d_Bytes_digits_27 rfl ?_
        refine lv_goto (tgt := 32) hx hb d_Bytes_digits_28 (by decide) ?_
        exact mw_iret hx hb hr hM hS hlocks d_Bytes_digits_32 (mwR_i (by unfold bDigits; (repeat split) <;> omega))
    · refine lv_iconst (v := iI (2)) hx hb d_Bytes_digits_16 rfl ?_
      refine lv_goto (tgt := 32) hx hb d_Bytes_digits_17 (by decide) ?_
      exact mw_iret hx hb hr hM hS hlocks d_Bytes_digits_32 (mwR_i (by unfold bDigits; (repeat split) <;> omega))
  · refine lv_iconst (v := iI (1)) hx hb d_Bytes_digits_6 rfl ?_
    refine lv_goto (tgt := 32) hx hb d_Bytes_digits_7 (by decide) ?_
    exact mw_iret hx hb hr hM hS hlocks d_Bytes_digits_32 (mwR_i (by unfold bDigits; (repeat split) <;> omega))
set_option maxHeartbeats 4000000 in
set_option maxRecDepth 100000 in
theorem c_Bytes_hasDecimal (l : Launch) (D : va_G) (g : Nat → ClassId) (lo : Nat) (L : Nat → Nat) (κ : Nat → Option va_E) (i j mo n sz : Nat) (b : Nat → Int) (hB : bxs g L κ i j mo n sz b) (a1 a2 a3 : Int) (ha1 : -1000000 ≤ a1 ∧ a1 ≤ 1000000) (ha2 : -1000000 ≤ a2 ∧ a2 ≤ 1000000) (ha3 : 0 ≤ a3 ∧ a3 < 2147483648) : Met l y_Bytes_hasDecimal w_Bytes_hasDecimal ({ frames := 1, cells := 0, slots := 0, locals := 21 }) (mwP D vwCl (tyL g) lo L κ [.ref (L i), .int (iI a1), .int (iI a2), .int (iI a3)]) (mwQ D vwCl lo (mwR (some (.int (iI (bI (bDec b sz a1 a2 a3))))) L κ)) 0 0 (fun q => lo ≤ q) := by
  obtain ⟨hz1, hz2, hz3⟩ := hB.2.2.1
  refine Met.ofW (cc := b_Bytes_hasDecimal) (maxL := 6) (ret := (Option.some Jvm.ClassFile.FieldType.boolean)) (by decide) rfl ?_
  intro p e s m args below meth c s₁ B hml hpre
  obtain ⟨hargs, hM, hK⟩ := hpre
  have hx := B.exec
  have hb := B.bytes
  have hr := B.returns
  have hts : ∀ w ∈ wA, w.before args s = true := fun w h => atoms_spec (ws := w_Bytes_hasDecimal) B.pre w (List.mem_cons_of_mem _ h)
  have hown : s.vm.findClass R_Bytes = some m.cls := findClass_of_methodNamed B.named
  have hlocks := B.notSynchronized
  have hS : va_S (fun q => lo ≤ q) s.heap s.heap [] := va_S.rf
  have loop8 : ∀ (N : Nat) (k : Int) (v : Int), (k + 1).toNat < N → (-1000001 ≤ k ∧ k ≤ 1000000) → (0 ≤ v ∧ v < 2147483648) → (bHd b sz a1 (a2 - 1) a3 = bHd b sz a1 k v) → ∀ (H : Heap) (locs : List Loc) (ls : Array Slot), mw D vwCl lo L κ H → va_S (fun q => lo ≤ q) s.heap H locs → lv_has ls 6 [(5, .int (iI k)), (4, .int (iI v)), (0, .ref (L i)), (1, .int (iI a1)), (2, .int (iI a2)), (3, .int (iI a3))] → W p l e (headSpec w_Bytes_hasDecimal ({ frames := 1, cells := 0, slots := 0, locals := 21 })).room s m args below meth c H locs 0 0 (MQ below (mwQ D vwCl lo (mwR (some (.int (iI (bI (bDec b sz a1 a2 a3))))) L κ)) args s 0 0 (fun q => lo ≤ q)) (F0 m 8 ls []) := by
    intro N
    induction N with
    | zero => intro k v hms; exact absurd hms (Nat.not_lt_zero _)
    | succ N ih =>
      intro k v hms hk hv hres H locs ls hM hS hl
      refine lv_iload hx hb d_Bytes_hasDecimal_8 (lv_at hl 0 rfl) ?_
      refine ia_if_lt (a := k) (tgt := 47) hx hb d_Bytes_hasDecimal_10 (by decide) (by omega) (fun c1 => ?_) (fun c1 => ?_)
      · refine lv_iload_n hx hb d_Bytes_hasDecimal_47 rfl (lv_at hl 4 rfl) ?_
        refine lv_iload_n hx hb d_Bytes_hasDecimal_48 rfl (lv_at hl 5 rfl) ?_
        refine mw_rdS (As := [.int (iI a3)]) (rest := [.int (iI a2)]) ⟨hx, hb, hml, hown, hts⟩ hK hM hS (c_Bytes_digits l D g lo L κ a3 (by omega)) (cwS 1 hts (gS m_324 m_325 m_52 m_326) rfl rfl rfl (by decide +kernel) ⟨Nat.le_of_ble_eq_true rfl, Nat.le_of_ble_eq_true rfl⟩) rfl hl.1 rfl (Nat.le_of_ble_eq_true rfl) d_Bytes_hasDecimal_49 ⟨Nat.le_of_ble_eq_true rfl, Nat.le_of_ble_eq_true rfl⟩ (fun H locs hM hS => ?_)
        have r2 := bDigits_r a3
        refine ia_icmp_ne (a := a2) (b := bDigits a3) (tgt := 59) hx hb d_Bytes_hasDecimal_52 (by decide) (by omega) (by omega) (fun c3 => ?_) (fun c3 => ?_)
        · refine lv_iconst (v := iI (0)) hx hb d_Bytes_hasDecimal_59 rfl ?_
          exact mw_zret (v := false) hx hb hr hM hS hlocks d_Bytes_hasDecimal_60 (mwR_z (by unfold bDec; rw [hres, bHd_end (by omega), decide_eq_false (by omega)]; rfl))
        · refine lv_iconst (v := iI (1)) hx hb d_Bytes_hasDecimal_55 rfl ?_
          refine lv_goto (tgt := 60) hx hb d_Bytes_hasDecimal_56 (by decide) ?_
          exact mw_zret (v := true) hx hb hr hM hS hlocks d_Bytes_hasDecimal_60 (mwR_z (by unfold bDec; rw [hres, bHd_end (by omega), decide_eq_true (by omega)]; rfl))
      · refine lv_aload_n hx hb d_Bytes_hasDecimal_13 rfl (lv_at hl 2 rfl) ?_
        refine lv_iload_n hx hb d_Bytes_hasDecimal_14 rfl (lv_at hl 3 rfl) ?_
        refine lv_iload hx hb d_Bytes_hasDecimal_15 (lv_at hl 0 rfl) ?_
        refine ia_add hx hb d_Bytes_hasDecimal_17 ?_
        refine mw_rdV (i := i) (As := [.int (iI (a1 + k))]) (rest := []) ⟨hx, hb, hml, hown, hts⟩ hK hM hS rfl hB.1 rfl (c_Bytes_get l D g lo L κ i j mo n sz b hB (a1 + k) (by omega)) (cwV 1 hts (gV m_250 m_251 m_252 m_52 m_253) rfl rfl rfl (by decide +kernel) ⟨Nat.le_of_ble_eq_true rfl, Nat.le_of_ble_eq_true rfl⟩) rfl hl.1 rfl (Nat.le_of_ble_eq_true rfl) d_Bytes_hasDecimal_18 ⟨Nat.le_of_ble_eq_true rfl, Nat.le_of_ble_eq_true rfl⟩ (fun H locs hM hS => ?_)
        have r4 := bGet_r (sz := sz) hB.2.2.2.1 (a1 + k)
        refine lv_bipush (v := iI (48)) hx hb d_Bytes_hasDecimal_21 (by decide) ?_
        refine lv_iload hx hb d_Bytes_hasDecimal_23 (lv_at hl 1 rfl) ?_
        refine lv_bipush (v := iI (10)) hx hb d_Bytes_hasDecimal_25 (by decide) ?_
        refine ia_rem hx hb (by omega) (by omega) d_Bytes_hasDecimal_27 ?_
        refine ia_add hx hb d_Bytes_hasDecimal_28 ?_
        refine ia_icmp_eq (a := bGet b sz (a1 + k)) (b := 48 + (v % 10)) (tgt := 34) hx hb d_Bytes_hasDecimal_29 (by decide) (by omega) (by omega) (fun c5 => ?_) (fun c5 => ?_)
        · refine lv_iload hx hb d_Bytes_hasDecimal_34 (lv_at hl 1 rfl) ?_
          refine lv_bipush (v := iI (10)) hx hb d_Bytes_hasDecimal_36 (by decide) ?_
          refine ia_div hx hb (by omega) (by omega) d_Bytes_hasDecimal_38 ?_
          refine lv_istore (lv' := [(4, .int (iI (v / 10))), (5, .int (iI k)), (0, .ref (L i)), (1, .int (iI a1)), (2, .int (iI a2)), (3, .int (iI a3))]) hx hb d_Bytes_hasDecimal_39 hl (by decide) rfl (fun ls hl => ?_)
          refine lv_iinc (v := iI (k + (-1))) (lv' := [(5, .int (iI (k + (-1)))), (4, .int (iI (v / 10))), (0, .ref (L i)), (1, .int (iI a1)), (2, .int (iI a2)), (3, .int (iI a3))]) hx hb d_Bytes_hasDecimal_41 hl (k := 1) rfl (iI_inc _ _) (by decide) rfl (fun ls hl => ?_)
          refine lv_goto (tgt := 8) hx hb d_Bytes_hasDecimal_44 (by decide) ?_
          exact ih (k + (-1)) (v / 10) (by omega) (by omega) (by omega) (by rw [hres, bHd_step (by omega), if_pos (by omega)]) _ _ ls hM hS (lv_sub hl [0, 1, 2, 3, 4, 5] rfl)
        · refine lv_iconst (v := iI (0)) hx hb d_Bytes_hasDecimal_32 rfl ?_
          exact mw_zret (v := false) hx hb hr hM hS hlocks d_Bytes_hasDecimal_33 (mwR_z (by unfold bDec; rw [hres, bHd_step (by omega), if_neg (by omega)]; rfl))
  obtain ⟨ls, hls, hl⟩ := mw_entry (m := m) [.ref (L i), .int (iI a1), .int (iI a2), .int (iI a3)] (n := 6) (Nat.le_of_ble_eq_true rfl) hargs
  refine W.eq hls ?_
  have hl : lv_has ls 6 [(0, .ref (L i)), (1, .int (iI a1)), (2, .int (iI a2)), (3, .int (iI a3))] := hl
  refine lv_iload_n hx hb d_Bytes_hasDecimal_0 rfl (lv_at hl 3 rfl) ?_
  refine lv_istore (lv' := [(4, .int (iI a3)), (0, .ref (L i)), (1, .int (iI a1)), (2, .int (iI a2)), (3, .int (iI a3))]) hx hb d_Bytes_hasDecimal_1 hl (by decide) rfl (fun ls hl => ?_)
  refine lv_iload_n hx hb d_Bytes_hasDecimal_3 rfl (lv_at hl 3 rfl) ?_
  refine lv_iconst (v := iI (1)) hx hb d_Bytes_hasDecimal_4 rfl ?_
  refine ia_sub hx hb d_Bytes_hasDecimal_5 ?_
  refine lv_istore (lv' := [(5, .int (iI (a2 - 1))), (4, .int (iI a3)), (0, .ref (L i)), (1, .int (iI a1)), (2, .int (iI a2)), (3, .int (iI a3))]) hx hb d_Bytes_hasDecimal_6 hl (by decide) rfl (fun ls hl => ?_)
  exact loop8 _ (a2 - 1) a3 (Nat.lt_succ_self _) (by omega) (by omega) rfl _ _ ls hM hS (lv_sub hl [0, 1, 2, 3, 4, 5] rfl)
set_option maxHeartbeats 4000000 in
set_option maxRecDepth 100000 in
theorem c_Bytes_equalsAt (l : Launch) (D : va_G) (g : Nat → ClassId) (lo : Nat) (L : Nat → Nat) (κ : Nat → Option va_E) (i j mo n sz : Nat) (b : Nat → Int) (hB : bxs g L κ i j mo n sz b) (i2 j2 mo2 n2 sz2 : Nat) (b2 : Nat → Int) (hB2 : bxs g L κ i2 j2 mo2 n2 sz2 b2) (a1 a3 a4 : Int) (ha1 : -1000000 ≤ a1 ∧ a1 ≤ 1000000) (ha3 : -1000000 ≤ a3 ∧ a3 ≤ 1000000) (ha4 : -1000000 ≤ a4 ∧ a4 ≤ 1000000) : Met l y_Bytes_equalsAt w_Bytes_equalsAt ({ frames := 1, cells := 0, slots := 0, locals := 21 }) (mwP D vwCl (tyL g) lo L κ [.ref (L i), .int (iI a1), .ref (L i2), .int (iI a3), .int (iI a4)]) (mwQ D vwCl lo (mwR (some (.int (iI (bI (bEq b sz a1 b2 sz2 a3 a4 0))))) L κ)) 0 0 (fun q => lo ≤ q) := by
  obtain ⟨hz1, hz2, hz3⟩ := hB.2.2.1
  obtain ⟨hy1, hy2, hy3⟩ := hB2.2.2.1
  refine Met.ofW (cc := b_Bytes_equalsAt) (maxL := 6) (ret := (Option.some Jvm.ClassFile.FieldType.boolean)) (by decide) rfl ?_
  intro p e s m args below meth c s₁ B hml hpre
  obtain ⟨hargs, hM, hK⟩ := hpre
  have hx := B.exec
  have hb := B.bytes
  have hr := B.returns
  have hts : ∀ w ∈ wA, w.before args s = true := fun w h => atoms_spec (ws := w_Bytes_equalsAt) B.pre w (List.mem_cons_of_mem _ h)
  have hown : s.vm.findClass R_Bytes = some m.cls := findClass_of_methodNamed B.named
  have hlocks := B.notSynchronized
  have hS : va_S (fun q => lo ≤ q) s.heap s.heap [] := va_S.rf
  have loop3 : ∀ (N : Nat) (k : Int), (a4 - k).toNat < N → (0 ≤ k ∧ k ≤ 1000000) → (bEq b sz a1 b2 sz2 a3 a4 0 = bEq b sz a1 b2 sz2 a3 a4 k) → ∀ (H : Heap) (locs : List Loc) (ls : Array Slot), mw D vwCl lo L κ H → va_S (fun q => lo ≤ q) s.heap H locs → lv_has ls 6 [(5, .int (iI k)), (0, .ref (L i)), (1, .int (iI a1)), (2, .ref (L i2)), (3, .int (iI a3)), (4, .int (iI a4))] → W p l e (headSpec w_Bytes_equalsAt ({ frames := 1, cells := 0, slots := 0, locals := 21 })).room s m args below meth c H locs 0 0 (MQ below (mwQ D vwCl lo (mwR (some (.int (iI (bI (bEq b sz a1 b2 sz2 a3 a4 0))))) L κ)) args s 0 0 (fun q => lo ≤ q)) (F0 m 3 ls []) := by
    intro N
    induction N with
    | zero => intro k hms; exact absurd hms (Nat.not_lt_zero _)
    | succ N ih =>
      intro k hms hk hres H locs ls hM hS hl
      refine lv_iload hx hb d_Bytes_equalsAt_3 (lv_at hl 0 rfl) ?_
      refine lv_iload hx hb d_Bytes_equalsAt_5 (lv_at hl 5 rfl) ?_
      refine ia_icmp_ge (a := k) (b := a4) (tgt := 37) hx hb d_Bytes_equalsAt_7 (by decide) (by omega) (by omega) (fun c1 => ?_) (fun c1 => ?_)
      · refine lv_iconst (v := iI (1)) hx hb d_Bytes_equalsAt_37 rfl ?_
        exact mw_zret (v := true) hx hb hr hM hS hlocks d_Bytes_equalsAt_38 (mwR_z (by rw [hres, bEq_end (by omega)]))
      · refine lv_aload_n hx hb d_Bytes_equalsAt_10 rfl (lv_at hl 1 rfl) ?_
        refine lv_iload_n hx hb d_Bytes_equalsAt_11 rfl (lv_at hl 2 rfl) ?_
        refine lv_iload hx hb d_Bytes_equalsAt_12 (lv_at hl 0 rfl) ?_
        refine ia_add hx hb d_Bytes_equalsAt_14 ?_
        refine mw_rdV (i := i) (As := [.int (iI (a1 + k))]) (rest := []) ⟨hx, hb, hml, hown, hts⟩ hK hM hS rfl hB.1 rfl (c_Bytes_get l D g lo L κ i j mo n sz b hB (a1 + k) (by omega)) (cwV 1 hts (gV m_250 m_251 m_252 m_52 m_253) rfl rfl rfl (by decide +kernel) ⟨Nat.le_of_ble_eq_true rfl, Nat.le_of_ble_eq_true rfl⟩) rfl hl.1 rfl (Nat.le_of_ble_eq_true rfl) d_Bytes_equalsAt_15 ⟨Nat.le_of_ble_eq_true rfl, Nat.le_of_ble_eq_true rfl⟩ (fun H locs hM hS => ?_)
        have r2 := bGet_r (sz := sz) hB.2.2.2.1 (a1 + k)
        refine lv_aload_n hx hb d_Bytes_equalsAt_18 rfl (lv_at hl 3 rfl) ?_
        refine lv_iload_n hx hb d_Bytes_equalsAt_19 rfl (lv_at hl 4 rfl) ?_
        refine lv_iload hx hb d_Bytes_equalsAt_20 (lv_at hl 0 rfl) ?_
        refine ia_add hx hb d_Bytes_equalsAt_22 ?_
        refine mw_rdV (i := i2) (As := [.int (iI (a3 + k))]) (rest := [.int (iI (bGet b sz (a1 + k)))]) ⟨hx, hb, hml, hown, hts⟩ hK hM hS rfl hB2.1 rfl (c_Bytes_get l D g lo L κ i2 j2 mo2 n2 sz2 b2 hB2 (a3 + k) (by omega)) (cwV 1 hts (gV m_250 m_251 m_252 m_52 m_253) rfl rfl rfl (by decide +kernel) ⟨Nat.le_of_ble_eq_true rfl, Nat.le_of_ble_eq_true rfl⟩) rfl hl.1 rfl (Nat.le_of_ble_eq_true rfl) d_Bytes_equalsAt_23 ⟨Nat.le_of_ble_eq_true rfl, Nat.le_of_ble_eq_true rfl⟩ (fun H locs hM hS => ?_)
        have r3 := bGet_r (sz := sz2) hB2.2.2.2.1 (a3 + k)
        refine ia_icmp_eq (a := bGet b sz (a1 + k)) (b := bGet b2 sz2 (a3 + k)) (tgt := 31) hx hb d_Bytes_equalsAt_26 (by decide) (by omega) (by omega) (fun c4 => ?_) (fun c4 => ?_)
        · refine lv_iinc (v := iI (k + 1)) (lv' := [(5, .int (iI (k + 1))), (0, .ref (L i)), (1, .int (iI a1)), (2, .ref (L i2)), (3, .int (iI a3)), (4, .int (iI a4))]) hx hb d_Bytes_equalsAt_31 hl (k := 0) rfl (iI_inc _ _) (by decide) rfl (fun ls hl => ?_)
          refine lv_goto (tgt := 3) hx hb d_Bytes_equalsAt_34 (by decide) ?_
          exact ih (k + 1) (by omega) (by omega) (by rw [hres, bEq_step (by omega), if_pos (by omega)]) _ _ ls hM hS (lv_sub hl [0, 1, 2, 3, 4, 5] rfl)
        · refine lv_iconst (v := iI (0)) hx hb d_Bytes_equalsAt_29 rfl ?_
          exact mw_zret (v := false) hx hb hr hM hS hlocks d_Bytes_equalsAt_30 (mwR_z (by rw [hres, bEq_step (by omega), if_neg (by omega)]))
  obtain ⟨ls, hls, hl⟩ := mw_entry (m := m) [.ref (L i), .int (iI a1), .ref (L i2), .int (iI a3), .int (iI a4)] (n := 6) (Nat.le_of_ble_eq_true rfl) hargs
  refine W.eq hls ?_
  have hl : lv_has ls 6 [(0, .ref (L i)), (1, .int (iI a1)), (2, .ref (L i2)), (3, .int (iI a3)), (4, .int (iI a4))] := hl
  refine lv_iconst (v := iI (0)) hx hb d_Bytes_equalsAt_0 rfl ?_
  refine lv_istore (lv' := [(5, .int (iI 0)), (0, .ref (L i)), (1, .int (iI a1)), (2, .ref (L i2)), (3, .int (iI a3)), (4, .int (iI a4))]) hx hb d_Bytes_equalsAt_1 hl (by decide) rfl (fun ls hl => ?_)
  exact loop3 _ 0 (Nat.lt_succ_self _) (by omega) rfl _ _ ls hM hS (lv_sub hl [0, 1, 2, 3, 4, 5] rfl)
end
section
set_option maxHeartbeats 4000000 in
set_option maxRecDepth 100000 in
theorem c_Kinds_hold (l : Launch) (D : va_G) (g : Nat → ClassId) (lo : Nat) (L : Nat → Nat) (κ : Nat → Option va_E) (a : Int) (ha : -2147483648 ≤ a ∧ a < 2147483648) : Met l y_Kinds_holdsElements w_Kinds_holdsElements ({ frames := 0, cells := 0, slots := 0, locals := 0 }) (mwP D vwCl (tyL g) lo L κ [.int (iI a)]) (mwQ D vwCl lo (mwR (some (.int (iI (bI (kHold a))))) L κ)) 0 0 (fun q => lo ≤ q) := by
  refine Met.ofW (cc := b_Kinds_holdsElements) (maxL := 1) (ret := (Option.some Jvm.ClassFile.FieldType.boolean)) (by decide) rfl ?_
  intro p e s m args below meth c s₁ B hml hpre
  obtain ⟨hargs, hM, hK⟩ := hpre
  have hx := B.exec
  have hb := B.bytes
  have hr := B.returns
  have hts : ∀ w ∈ wA, w.before args s = true := fun w h => atoms_spec (ws := w_Kinds_holdsElements) B.pre w (List.mem_cons_of_mem _ h)
  have hown : s.vm.findClass R_Kinds = some m.cls := findClass_of_methodNamed B.named
  have hlocks := B.notSynchronized
  have hS : va_S (fun q => lo ≤ q) s.heap s.heap [] := va_S.rf
  obtain ⟨ls, hls, hl⟩ := mw_entry (m := m) [.int (iI a)] (n := 1) (Nat.le_of_ble_eq_true rfl) hargs
  refine W.eq hls ?_
  have hl : lv_has ls 1 [(0, .int (iI a))] := hl
  refine lv_iload_n hx hb d_Kinds_holdsElements_0 rfl (lv_at hl 0 rfl) ?_
  refine lv_iconst (v := iI (3)) hx hb d_Kinds_holdsElements_1 rfl ?_
  refine ia_icmp_eq (a := a) (b := 3) (tgt := 10) hx hb d_Kinds_holdsElements_2 (by decide) (by omega) (by omega) (fun c1 => ?_) (fun c1 => ?_)
  · refine lv_iconst (v := iI (1)) hx hb d_Kinds_holdsElements_10 rfl ?_
    refine lv_goto (tgt := 15) hx hb d_Kinds_holdsElements_11 (by decide) ?_
    exact mw_zret (v := true) hx hb hr hM hS hlocks d_Kinds_holdsElements_15 (mwR_z (by exact kHold_t (by omega)))
  · refine lv_iload_n hx hb d_Kinds_holdsElements_5 rfl (lv_at hl 0 rfl) ?_
    refine lv_iconst (v := iI (4)) hx hb d_Kinds_holdsElements_6 rfl ?_
    refine ia_icmp_ne (a := a) (b := 4) (tgt := 14) hx hb d_Kinds_holdsElements_7 (by decide) (by omega) (by omega) (fun c2 => ?_) (fun c2 => ?_)
    · refine lv_iconst (v := iI (0)) hx hb d_Kinds_holdsElements_14 rfl ?_
      exact mw_zret (v := false) hx hb hr hM hS hlocks d_Kinds_holdsElements_15 (mwR_z (by exact kHold_f (by omega)))
    · refine lv_iconst (v := iI (1)) hx hb d_Kinds_holdsElements_10 rfl ?_
      refine lv_goto (tgt := 15) hx hb d_Kinds_holdsElements_11 (by decide) ?_
      exact mw_zret (v := true) hx hb hr hM hS hlocks d_Kinds_holdsElements_15 (mwR_z (by exact kHold_t (by omega)))
set_option maxHeartbeats 4000000 in
set_option maxRecDepth 100000 in
theorem c_Kinds_width (l : Launch) (D : va_G) (g : Nat → ClassId) (lo : Nat) (L : Nat → Nat) (κ : Nat → Option va_E) (a : Int) (ha : -2147483648 ≤ a ∧ a < 2147483648) : Met l y_Kinds_width w_Kinds_width ({ frames := 0, cells := 0, slots := 0, locals := 0 }) (mwP D vwCl (tyL g) lo L κ [.int (iI a)]) (mwQ D vwCl lo (mwR (some (.int (iI (kWidth a)))) L κ)) 0 0 (fun q => lo ≤ q) := by
  refine Met.ofW (cc := b_Kinds_width) (maxL := 1) (ret := (Option.some Jvm.ClassFile.FieldType.int)) (by decide) rfl ?_
  intro p e s m args below meth c s₁ B hml hpre
  obtain ⟨hargs, hM, hK⟩ := hpre
  have hx := B.exec
  have hb := B.bytes
  have hr := B.returns
  have hts : ∀ w ∈ wA, w.before args s = true := fun w h => atoms_spec (ws := w_Kinds_width) B.pre w (List.mem_cons_of_mem _ h)
  have hown : s.vm.findClass R_Kinds = some m.cls := findClass_of_methodNamed B.named
  have hlocks := B.notSynchronized
  have hS : va_S (fun q => lo ≤ q) s.heap s.heap [] := va_S.rf
  obtain ⟨ls, hls, hl⟩ := mw_entry (m := m) [.int (iI a)] (n := 1) (Nat.le_of_ble_eq_true rfl) hargs
  refine W.eq hls ?_
  have hl : lv_has ls 1 [(0, .int (iI a))] := hl
  refine lv_iload_n hx hb d_Kinds_width_0 rfl (lv_at hl 0 rfl) ?_
  rcases (show a = 8 ∨ a = 16 ∨ a = 18 ∨ (¬ a = 8 ∧ ¬ a = 16 ∧ ¬ a = 18) by omega) with c1 | c1 | c1 | ⟨c1_0, c1_1, c1_2⟩
  · refine lv_lookup (off := 35) (tgt := 36) hx hb d_Kinds_width_1 (by decide) (by rw [iI_toInt (by omega), c1]; rfl) (by decide) ?_
    refine lv_iconst (v := iI (1)) hx hb d_Kinds_width_36 rfl ?_
    exact mw_iret hx hb hr hM hS hlocks d_Kinds_width_37 (mwR_i (by unfold kWidth; (repeat split) <;> omega))
  · refine lv_lookup (off := 37) (tgt := 38) hx hb d_Kinds_width_1 (by decide) (by rw [iI_toInt (by omega), c1]; rfl) (by decide) ?_
    refine lv_iconst (v := iI (4)) hx hb d_Kinds_width_38 rfl ?_
    exact mw_iret hx hb hr hM hS hlocks d_Kinds_width_39 (mwR_i (by unfold kWidth; (repeat split) <;> omega))
  · refine lv_lookup (off := 39) (tgt := 40) hx hb d_Kinds_width_1 (by decide) (by rw [iI_toInt (by omega), c1]; rfl) (by decide) ?_
    refine lv_bipush (v := iI (8)) hx hb d_Kinds_width_40 (by decide) ?_
    exact mw_iret hx hb hr hM hS hlocks d_Kinds_width_42 (mwR_i (by unfold kWidth; (repeat split) <;> omega))
  · refine lv_lookup (off := 42) (tgt := 43) hx hb d_Kinds_width_1 (by decide) (by rw [iI_toInt (by omega)]; simp only [Op.lookupswitch.offset]; rw [if_neg (by omega)]; rw [if_neg (by omega)]; rw [if_neg (by omega)]) (by decide) ?_
    refine lv_iconst (v := iI (0)) hx hb d_Kinds_width_43 rfl ?_
    exact mw_iret hx hb hr hM hS hlocks d_Kinds_width_44 (mwR_i (by unfold kWidth; (repeat split) <;> omega))
set_option maxHeartbeats 4000000 in
set_option maxRecDepth 100000 in
theorem c_Kinds_isKind (l : Launch) (D : va_G) (g : Nat → ClassId) (lo : Nat) (L : Nat → Nat) (κ : Nat → Option va_E) (a : Int) (ha : -2147483648 ≤ a ∧ a < 2147483648) : Met l y_Kinds_isKind w_Kinds_isKind ({ frames := 1, cells := 0, slots := 0, locals := 20 }) (mwP D vwCl (tyL g) lo L κ [.int (iI a)]) (mwQ D vwCl lo (mwR (some (.int (iI (bI (kIs a))))) L κ)) 0 0 (fun q => lo ≤ q) := by
  refine Met.ofW (cc := b_Kinds_isKind) (maxL := 1) (ret := (Option.some Jvm.ClassFile.FieldType.boolean)) (by decide) rfl ?_
  intro p e s m args below meth c s₁ B hml hpre
  obtain ⟨hargs, hM, hK⟩ := hpre
  have hx := B.exec
  have hb := B.bytes
  have hr := B.returns
  have hts : ∀ w ∈ wA, w.before args s = true := fun w h => atoms_spec (ws := w_Kinds_isKind) B.pre w (List.mem_cons_of_mem _ h)
  have hown : s.vm.findClass R_Kinds = some m.cls := findClass_of_methodNamed B.named
  have hlocks := B.notSynchronized
  have hS : va_S (fun q => lo ≤ q) s.heap s.heap [] := va_S.rf
  obtain ⟨ls, hls, hl⟩ := mw_entry (m := m) [.int (iI a)] (n := 1) (Nat.le_of_ble_eq_true rfl) hargs
  refine W.eq hls ?_
  have hl : lv_has ls 1 [(0, .int (iI a))] := hl
  refine lv_iload_n hx hb d_Kinds_isKind_0 rfl (lv_at hl 0 rfl) ?_
  refine lv_iconst (v := iI (2)) hx hb d_Kinds_isKind_1 rfl ?_
  refine ia_icmp_eq (a := a) (b := 2) (tgt := 25) hx hb d_Kinds_isKind_2 (by decide) (by omega) (by omega) (fun c1 => ?_) (fun c1 => ?_)
  · refine lv_iconst (v := iI (1)) hx hb d_Kinds_isKind_25 rfl ?_
    refine lv_goto (tgt := 30) hx hb d_Kinds_isKind_26 (by decide) ?_
    exact mw_zret (v := true) hx hb hr hM hS hlocks d_Kinds_isKind_30 (mwR_z (by exact kIs_t (by first | exact Or.inl (by omega) | exact Or.inr (Or.inl (by omega)) | exact Or.inr (Or.inr (Or.inl (by assumption))) | exact Or.inr (Or.inr (Or.inr (by omega))))))
  · refine lv_iload_n hx hb d_Kinds_isKind_5 rfl (lv_at hl 0 rfl) ?_
    refine lv_bipush (v := iI (10)) hx hb d_Kinds_isKind_6 (by decide) ?_
    refine ia_icmp_eq (a := a) (b := 10) (tgt := 25) hx hb d_Kinds_isKind_8 (by decide) (by omega) (by omega) (fun c2 => ?_) (fun c2 => ?_)
    · refine lv_iconst (v := iI (1)) hx hb d_Kinds_isKind_25 rfl ?_
      refine lv_goto (tgt := 30) hx hb d_Kinds_isKind_26 (by decide) ?_
      exact mw_zret (v := true) hx hb hr hM hS hlocks d_Kinds_isKind_30 (mwR_z (by exact kIs_t (by first | exact Or.inl (by omega) | exact Or.inr (Or.inl (by omega)) | exact Or.inr (Or.inr (Or.inl (by assumption))) | exact Or.inr (Or.inr (Or.inr (by omega))))))
    · refine lv_iload_n hx hb d_Kinds_isKind_11 rfl (lv_at hl 0 rfl) ?_
      refine mw_rdS (As := [.int (iI a)]) (rest := []) ⟨hx, hb, hml, hown, hts⟩ hK hM hS (c_Kinds_hold l D g lo L κ a (by omega)) (cwS 1 hts (gS m_290 m_268 m_59 m_269) rfl rfl rfl (by decide +kernel) ⟨Nat.le_of_ble_eq_true rfl, Nat.le_of_ble_eq_true rfl⟩) rfl hl.1 rfl (Nat.le_of_ble_eq_true rfl) d_Kinds_isKind_12 ⟨Nat.le_of_ble_eq_true rfl, Nat.le_of_ble_eq_true rfl⟩ (fun H locs hM hS => ?_)
      refine ia_ifz_ne (x := kHold a) (tgt := 25) hx hb d_Kinds_isKind_15 (by decide) (fun c3 => ?_) (fun c3 => ?_)
      · refine lv_iconst (v := iI (1)) hx hb d_Kinds_isKind_25 rfl ?_
        refine lv_goto (tgt := 30) hx hb d_Kinds_isKind_26 (by decide) ?_
        exact mw_zret (v := true) hx hb hr hM hS hlocks d_Kinds_isKind_30 (mwR_z (by exact kIs_t (by first | exact Or.inl (by omega) | exact Or.inr (Or.inl (by omega)) | exact Or.inr (Or.inr (Or.inl (by assumption))) | exact Or.inr (Or.inr (Or.inr (by omega))))))
      · refine lv_iload_n hx hb d_Kinds_isKind_18 rfl (lv_at hl 0 rfl) ?_
        refine mw_rdS (As := [.int (iI a)]) (rest := []) ⟨hx, hb, hml, hown, hts⟩ hK hM hS (c_Kinds_width l D g lo L κ a (by omega)) (cwS 1 hts (gS m_291 m_292 m_59 m_293) rfl rfl rfl (by decide +kernel) ⟨Nat.le_of_ble_eq_true rfl, Nat.le_of_ble_eq_true rfl⟩) rfl hl.1 rfl (Nat.le_of_ble_eq_true rfl) d_Kinds_isKind_19 ⟨Nat.le_of_ble_eq_true rfl, Nat.le_of_ble_eq_true rfl⟩ (fun H locs hM hS => ?_)
        have r4 := kWidth_r a
        refine ia_if_le (a := kWidth a) (tgt := 29) hx hb d_Kinds_isKind_22 (by decide) (by omega) (fun c5 => ?_) (fun c5 => ?_)
        · refine lv_iconst (v := iI (0)) hx hb d_Kinds_isKind_29 rfl ?_
          exact mw_zret (v := false) hx hb hr hM hS hlocks d_Kinds_isKind_30 (mwR_z (by exact kIs_f ⟨by omega, by omega, by assumption, by omega⟩))
        · refine lv_iconst (v := iI (1)) hx hb d_Kinds_isKind_25 rfl ?_
          refine lv_goto (tgt := 30) hx hb d_Kinds_isKind_26 (by decide) ?_
          exact mw_zret (v := true) hx hb hr hM hS hlocks d_Kinds_isKind_30 (mwR_z (by exact kIs_t (by first | exact Or.inl (by omega) | exact Or.inr (Or.inl (by omega)) | exact Or.inr (Or.inr (Or.inl (by assumption))) | exact Or.inr (Or.inr (Or.inr (by omega))))))
set_option maxHeartbeats 4000000 in
set_option maxRecDepth 100000 in
theorem c_Kinds_valueLength (l : Launch) (D : va_G) (g : Nat → ClassId) (lo : Nat) (L : Nat → Nat) (κ : Nat → Option va_E) (i j mo n sz : Nat) (b : Nat → Int) (hB : bxs g L κ i j mo n sz b) (a1 a3 : Int) (ha1 : -2147483648 ≤ a1 ∧ a1 < 2147483648) (ha3 : -1000000 ≤ a3 ∧ a3 ≤ 1000000) : Met l y_Kinds_valueLength w_Kinds_valueLength ({ frames := 2, cells := 0, slots := 0, locals := 46 }) (mwP D vwCl (tyL g) lo L κ [.int (iI a1), .ref (L i), .int (iI a3)]) (mwQ D vwCl lo (mwR (some (.int (iI (kVlen a1 b sz a3)))) L κ)) 0 0 (fun q => lo ≤ q) := by
  obtain ⟨hz1, hz2, hz3⟩ := hB.2.2.1
  refine Met.ofW (cc := b_Kinds_valueLength) (maxL := 3) (ret := (Option.some Jvm.ClassFile.FieldType.int)) (by decide) rfl ?_
  intro p e s m args below meth c s₁ B hml hpre
  obtain ⟨hargs, hM, hK⟩ := hpre
  have hx := B.exec
  have hb := B.bytes
  have hr := B.returns
  have hts : ∀ w ∈ wA, w.before args s = true := fun w h => atoms_spec (ws := w_Kinds_valueLength) B.pre w (List.mem_cons_of_mem _ h)
  have hown : s.vm.findClass R_Kinds = some m.cls := findClass_of_methodNamed B.named
  have hlocks := B.notSynchronized
  have hS : va_S (fun q => lo ≤ q) s.heap s.heap [] := va_S.rf
  obtain ⟨ls, hls, hl⟩ := mw_entry (m := m) [.int (iI a1), .ref (L i), .int (iI a3)] (n := 3) (Nat.le_of_ble_eq_true rfl) hargs
  refine W.eq hls ?_
  have hl : lv_has ls 3 [(0, .int (iI a1)), (1, .ref (L i)), (2, .int (iI a3))] := hl
  refine lv_iload_n hx hb d_Kinds_valueLength_0 rfl (lv_at hl 0 rfl) ?_
  refine lv_iconst (v := iI (2)) hx hb d_Kinds_valueLength_1 rfl ?_
  refine ia_icmp_ne (a := a1) (b := 2) (tgt := 15) hx hb d_Kinds_valueLength_2 (by decide) (by omega) (by omega) (fun c1 => ?_) (fun c1 => ?_)
  · refine lv_iload_n hx hb d_Kinds_valueLength_15 rfl (lv_at hl 0 rfl) ?_
    refine mw_rdS (As := [.int (iI a1)]) (rest := []) ⟨hx, hb, hml, hown, hts⟩ hK hM hS (c_Kinds_hold l D g lo L κ a1 (by omega)) (cwS 1 hts (gS m_290 m_268 m_59 m_269) rfl rfl rfl (by decide +kernel) ⟨Nat.le_of_ble_eq_true rfl, Nat.le_of_ble_eq_true rfl⟩) rfl hl.1 rfl (Nat.le_of_ble_eq_true rfl) d_Kinds_valueLength_16 ⟨Nat.le_of_ble_eq_true rfl, Nat.le_of_ble_eq_true rfl⟩ (fun H locs hM hS => ?_)
    refine ia_ifz_eq (x := kHold a1) (tgt := 32) hx hb d_Kinds_valueLength_19 (by decide) (fun c2 => ?_) (fun c2 => ?_)
    · refine lv_iload_n hx hb d_Kinds_valueLength_32 rfl (lv_at hl 0 rfl) ?_
      refine mw_rdS (As := [.int (iI a1)]) (rest := []) ⟨hx, hb, hml, hown, hts⟩ hK hM hS (c_Kinds_width l D g lo L κ a1 (by omega)) (cwS 1 hts (gS m_291 m_292 m_59 m_293) rfl rfl rfl (by decide +kernel) ⟨Nat.le_of_ble_eq_true rfl, Nat.le_of_ble_eq_true rfl⟩) rfl hl.1 rfl (Nat.le_of_ble_eq_true rfl) d_Kinds_valueLength_33 ⟨Nat.le_of_ble_eq_true rfl, Nat.le_of_ble_eq_true rfl⟩ (fun H locs hM hS => ?_)
      have r3 := kWidth_r a1
      exact mw_iret hx hb hr hM hS hlocks d_Kinds_valueLength_36 (mwR_i (by unfold kVlen; rw [if_neg (by omega), if_neg (zne (by assumption))]))
    · refine lv_aload_n hx hb d_Kinds_valueLength_22 rfl (lv_at hl 1 rfl) ?_
      refine lv_iload_n hx hb d_Kinds_valueLength_23 rfl (lv_at hl 2 rfl) ?_
      refine lv_iconst (v := iI (4)) hx hb d_Kinds_valueLength_24 rfl ?_
      refine mw_rdV (i := i) (As := [.int (iI a3), .int (iI 4)]) (rest := []) ⟨hx, hb, hml, hown, hts⟩ hK hM hS rfl hB.1 rfl (c_Bytes_numberAt l D g lo L κ i j mo n sz b hB a3 4 (by omega) (by omega)) (cwV 2 hts (gV m_395 m_247 m_248 m_52 m_249) rfl rfl rfl (by decide +kernel) ⟨Nat.le_of_ble_eq_true rfl, Nat.le_of_ble_eq_true rfl⟩) rfl hl.1 rfl (Nat.le_of_ble_eq_true rfl) d_Kinds_valueLength_25 ⟨Nat.le_of_ble_eq_true rfl, Nat.le_of_ble_eq_true rfl⟩ (fun H locs hM hS => ?_)
      have r4 := bNum4_r b sz a3
      refine ia_l2i hx hb d_Kinds_valueLength_28 ?_
      refine lv_goto (tgt := 36) hx hb d_Kinds_valueLength_29 (by decide) ?_
      exact mw_iret hx hb hr hM hS hlocks d_Kinds_valueLength_36 (mwR_i (by unfold kVlen; rw [if_neg (by omega), if_pos (by assumption)]; rfl))
  · refine lv_iconst (v := iI (4)) hx hb d_Kinds_valueLength_5 rfl ?_
    refine lv_aload_n hx hb d_Kinds_valueLength_6 rfl (lv_at hl 1 rfl) ?_
    refine lv_iload_n hx hb d_Kinds_valueLength_7 rfl (lv_at hl 2 rfl) ?_
    refine lv_iconst (v := iI (4)) hx hb d_Kinds_valueLength_8 rfl ?_
    refine mw_rdV (i := i) (As := [.int (iI a3), .int (iI 4)]) (rest := [.int (iI 4)]) ⟨hx, hb, hml, hown, hts⟩ hK hM hS rfl hB.1 rfl (c_Bytes_numberAt l D g lo L κ i j mo n sz b hB a3 4 (by omega) (by omega)) (cwV 2 hts (gV m_395 m_247 m_248 m_52 m_249) rfl rfl rfl (by decide +kernel) ⟨Nat.le_of_ble_eq_true rfl, Nat.le_of_ble_eq_true rfl⟩) rfl hl.1 rfl (Nat.le_of_ble_eq_true rfl) d_Kinds_valueLength_9 ⟨Nat.le_of_ble_eq_true rfl, Nat.le_of_ble_eq_true rfl⟩ (fun H locs hM hS => ?_)
    have r5 := bNum4_r b sz a3
    refine ia_l2i hx hb d_Kinds_valueLength_12 ?_
    refine ia_add hx hb d_Kinds_valueLength_13 ?_
    exact mw_iret hx hb hr hM hS hlocks d_Kinds_valueLength_14 (mwR_i (by unfold kVlen; rw [if_pos (by omega)]; rfl))
set_option maxHeartbeats 4000000 in
set_option maxRecDepth 100000 in
theorem c_Kinds_allows (l : Launch) (D : va_G) (g : Nat → ClassId) (lo : Nat) (L : Nat → Nat) (κ : Nat → Option va_E) (a v : Int) (ha : -2147483648 ≤ a ∧ a < 2147483648) (hv : -9223372036854775808 ≤ v ∧ v < 9223372036854775808) : Met l y_Kinds_allows w_Kinds_allows ({ frames := 0, cells := 0, slots := 0, locals := 0 }) (mwP D vwCl (tyL g) lo L κ [.int (iI a), .long (lI v)]) (mwQ D vwCl lo (mwR (some (.int (iI (bI (kAllows a v))))) L κ)) 0 0 (fun q => lo ≤ q) := by
  refine Met.ofW (cc := b_Kinds_allows) (maxL := 3) (ret := (Option.some Jvm.ClassFile.FieldType.boolean)) (by decide) rfl ?_
  intro p e s m args below meth c s₁ B hml hpre
  obtain ⟨hargs, hM, hK⟩ := hpre
  have hx := B.exec
  have hb := B.bytes
  have hr := B.returns
  have hts : ∀ w ∈ wA, w.before args s = true := fun w h => atoms_spec (ws := w_Kinds_allows) B.pre w (List.mem_cons_of_mem _ h)
  have hown : s.vm.findClass R_Kinds = some m.cls := findClass_of_methodNamed B.named
  have hlocks := B.notSynchronized
  have hS : va_S (fun q => lo ≤ q) s.heap s.heap [] := va_S.rf
  obtain ⟨ls, hls, hl⟩ := mw_entry (m := m) [.int (iI a), .long (lI v)] (n := 3) (Nat.le_of_ble_eq_true rfl) hargs
  refine W.eq hls ?_
  have hl : lv_has ls 3 [(0, .int (iI a)), (1, .long (lI v))] := hl
  refine lv_iload_n hx hb d_Kinds_allows_0 rfl (lv_at hl 0 rfl) ?_
  rcases (show a = 8 ∨ a = 16 ∨ a = 18 ∨ (¬ a = 8 ∧ ¬ a = 16 ∧ ¬ a = 18) by omega) with c1 | c1 | c1 | ⟨c1_0, c1_1, c1_2⟩
  · refine lv_lookup (off := 35) (tgt := 36) hx hb d_Kinds_allows_1 (by decide) (by rw [iI_toInt (by omega), c1]; rfl) (by decide) ?_
    refine lv_lload_n hx hb d_Kinds_allows_36 rfl (lv_at hl 1 rfl) ?_
    refine lv_lconst (v := lI (0)) hx hb d_Kinds_allows_37 (by decide) ?_
    refine ia_lcmp (a := v) (b := 0) hx hb (by omega) (by omega) d_Kinds_allows_38 ?_
    have r2 := cmpI_s v 0
    refine ia_if_eq (a := cmpI v 0) (tgt := 48) hx hb d_Kinds_allows_39 (by decide) (by omega) (fun c3 => ?_) (fun c3 => ?_)
    · refine lv_iconst (v := iI (1)) hx hb d_Kinds_allows_48 rfl ?_
      refine lv_goto (tgt := 53) hx hb d_Kinds_allows_49 (by decide) ?_
      exact mw_zret (v := true) hx hb hr hM hS hlocks d_Kinds_allows_53 (mwR_z (by unfold kAllows; rw [if_pos (by omega)]; exact (decide_eq_true (by omega)).symm))
    · refine lv_lload_n hx hb d_Kinds_allows_42 rfl (lv_at hl 1 rfl) ?_
      refine lv_lconst (v := lI (1)) hx hb d_Kinds_allows_43 (by decide) ?_
      refine ia_lcmp (a := v) (b := 1) hx hb (by omega) (by omega) d_Kinds_allows_44 ?_
      have r4 := cmpI_s v 1
      refine ia_if_ne (a := cmpI v 1) (tgt := 52) hx hb d_Kinds_allows_45 (by decide) (by omega) (fun c5 => ?_) (fun c5 => ?_)
      · refine lv_iconst (v := iI (0)) hx hb d_Kinds_allows_52 rfl ?_
        exact mw_zret (v := false) hx hb hr hM hS hlocks d_Kinds_allows_53 (mwR_z (by unfold kAllows; rw [if_pos (by omega)]; exact (decide_eq_false (by omega)).symm))
      · refine lv_iconst (v := iI (1)) hx hb d_Kinds_allows_48 rfl ?_
        refine lv_goto (tgt := 53) hx hb d_Kinds_allows_49 (by decide) ?_
        exact mw_zret (v := true) hx hb hr hM hS hlocks d_Kinds_allows_53 (mwR_z (by unfold kAllows; rw [if_pos (by omega)]; exact (decide_eq_true (by omega)).symm))
  · refine lv_lookup (off := 53) (tgt := 54) hx hb d_Kinds_allows_1 (by decide) (by rw [iI_toInt (by omega), c1]; rfl) (by decide) ?_
    refine lv_lload_n hx hb d_Kinds_allows_54 rfl (lv_at hl 1 rfl) ?_
    refine lv_lload_n hx hb d_Kinds_allows_55 rfl (lv_at hl 1 rfl) ?_
    refine ia_l2i hx hb d_Kinds_allows_56 ?_
    refine W.eq (g2 := F0 m 57 ls [.int (iI ((v + 2147483648) % 4294967296 - 2147483648)), .long (lI v)]) (by rw [iI_ext (a := v) (b := (v + 2147483648) % 4294967296 - 2147483648) (by omega)]) ?_
    refine ia_i2l hx hb (by omega) d_Kinds_allows_57 ?_
    refine ia_lcmp (a := v) (b := (v + 2147483648) % 4294967296 - 2147483648) hx hb (by omega) (by omega) d_Kinds_allows_58 ?_
    have r6 := cmpI_s v ((v + 2147483648) % 4294967296 - 2147483648)
    refine ia_if_ne (a := cmpI v ((v + 2147483648) % 4294967296 - 2147483648)) (tgt := 66) hx hb d_Kinds_allows_59 (by decide) (by omega) (fun c7 => ?_) (fun c7 => ?_)
    · refine lv_iconst (v := iI (0)) hx hb d_Kinds_allows_66 rfl ?_
      exact mw_zret (v := false) hx hb hr hM hS hlocks d_Kinds_allows_67 (mwR_z (by unfold kAllows; rw [if_neg (by omega), if_pos (by omega)]; exact (decide_eq_false (by omega)).symm))
    · refine lv_iconst (v := iI (1)) hx hb d_Kinds_allows_62 rfl ?_
      refine lv_goto (tgt := 67) hx hb d_Kinds_allows_63 (by decide) ?_
      exact mw_zret (v := true) hx hb hr hM hS hlocks d_Kinds_allows_67 (mwR_z (by unfold kAllows; rw [if_neg (by omega), if_pos (by omega)]; exact (decide_eq_true (by omega)).symm))
  · refine lv_lookup (off := 67) (tgt := 68) hx hb d_Kinds_allows_1 (by decide) (by rw [iI_toInt (by omega), c1]; rfl) (by decide) ?_
    refine lv_iconst (v := iI (1)) hx hb d_Kinds_allows_68 rfl ?_
    exact mw_zret (v := true) hx hb hr hM hS hlocks d_Kinds_allows_69 (mwR_z (by unfold kAllows; rw [if_neg (by omega), if_neg (by omega), if_pos (by omega)]))
  · refine lv_lookup (off := 69) (tgt := 70) hx hb d_Kinds_allows_1 (by decide) (by rw [iI_toInt (by omega)]; simp only [Op.lookupswitch.offset]; rw [if_neg (by omega)]; rw [if_neg (by omega)]; rw [if_neg (by omega)]) (by decide) ?_
    refine lv_lload_n hx hb d_Kinds_allows_70 rfl (lv_at hl 1 rfl) ?_
    refine lv_lconst (v := lI (0)) hx hb d_Kinds_allows_71 (by decide) ?_
    refine ia_lcmp (a := v) (b := 0) hx hb (by omega) (by omega) d_Kinds_allows_72 ?_
    have r8 := cmpI_s v 0
    refine ia_if_ne (a := cmpI v 0) (tgt := 80) hx hb d_Kinds_allows_73 (by decide) (by omega) (fun c9 => ?_) (fun c9 => ?_)
    · refine lv_iconst (v := iI (0)) hx hb d_Kinds_allows_80 rfl ?_
      exact mw_zret (v := false) hx hb hr hM hS hlocks d_Kinds_allows_81 (mwR_z (by unfold kAllows; rw [if_neg (by omega), if_neg (by omega), if_neg (by omega)]; exact (decide_eq_false (by omega)).symm))
    · refine lv_iconst (v := iI (1)) hx hb d_Kinds_allows_76 rfl ?_
      refine lv_goto (tgt := 81) hx hb d_Kinds_allows_77 (by decide) ?_
      exact mw_zret (v := true) hx hb hr hM hS hlocks d_Kinds_allows_81 (mwR_z (by unfold kAllows; rw [if_neg (by omega), if_neg (by omega), if_neg (by omega)]; exact (decide_eq_true (by omega)).symm))
set_option maxHeartbeats 4000000 in
set_option maxRecDepth 100000 in
theorem c_Utf8_lengthBehind (l : Launch) (D : va_G) (g : Nat → ClassId) (lo : Nat) (L : Nat → Nat) (κ : Nat → Option va_E) (a : Int) (ha : -2147483648 ≤ a ∧ a < 2147483648) : Met l y_Utf8_lengthBehind w_Utf8_lengthBehind ({ frames := 0, cells := 0, slots := 0, locals := 0 }) (mwP D vwCl (tyL g) lo L κ [.int (iI a)]) (mwQ D vwCl lo (mwR (some (.int (iI (uLen a)))) L κ)) 0 0 (fun q => lo ≤ q) := by
  refine Met.ofW (cc := b_Utf8_lengthBehind) (maxL := 1) (ret := (Option.some Jvm.ClassFile.FieldType.int)) (by decide) rfl ?_
  intro p e s m args below meth c s₁ B hml hpre
  obtain ⟨hargs, hM, hK⟩ := hpre
  have hx := B.exec
  have hb := B.bytes
  have hr := B.returns
  have hts : ∀ w ∈ wA, w.before args s = true := fun w h => atoms_spec (ws := w_Utf8_lengthBehind) B.pre w (List.mem_cons_of_mem _ h)
  have hown : s.vm.findClass R_Utf8 = some m.cls := findClass_of_methodNamed B.named
  have hlocks := B.notSynchronized
  have hS : va_S (fun q => lo ≤ q) s.heap s.heap [] := va_S.rf
  obtain ⟨ls, hls, hl⟩ := mw_entry (m := m) [.int (iI a)] (n := 1) (Nat.le_of_ble_eq_true rfl) hargs
  refine W.eq hls ?_
  have hl : lv_has ls 1 [(0, .int (iI a))] := hl
  refine lv_iload_n hx hb d_Utf8_lengthBehind_0 rfl (lv_at hl 0 rfl) ?_
  refine lv_sipush (v := iI (128)) hx hb d_Utf8_lengthBehind_1 (by decide) ?_
  refine ia_icmp_ge (a := a) (b := 128) (tgt := 9) hx hb d_Utf8_lengthBehind_4 (by decide) (by omega) (by omega) (fun c1 => ?_) (fun c1 => ?_)
  · refine lv_iload_n hx hb d_Utf8_lengthBehind_9 rfl (lv_at hl 0 rfl) ?_
    refine lv_sipush (v := iI (194)) hx hb d_Utf8_lengthBehind_10 (by decide) ?_
    refine ia_icmp_lt (a := a) (b := 194) (tgt := 23) hx hb d_Utf8_lengthBehind_13 (by decide) (by omega) (by omega) (fun c2 => ?_) (fun c2 => ?_)
    · refine lv_iconst (v := iI (0)) hx hb d_Utf8_lengthBehind_23 rfl ?_
      exact mw_iret hx hb hr hM hS hlocks d_Utf8_lengthBehind_24 (mwR_i (by unfold uLen; (repeat split) <;> omega))
    · refine lv_iload_n hx hb d_Utf8_lengthBehind_16 rfl (lv_at hl 0 rfl) ?_
      refine lv_sipush (v := iI (244)) hx hb d_Utf8_lengthBehind_17 (by decide) ?_
      refine ia_icmp_le (a := a) (b := 244) (tgt := 25) hx hb d_Utf8_lengthBehind_20 (by decide) (by omega) (by omega) (fun c3 => ?_) (fun c3 => ?_)
      · refine lv_iload_n hx hb d_Utf8_lengthBehind_25 rfl (lv_at hl 0 rfl) ?_
        refine lv_sipush (v := iI (224)) hx hb d_Utf8_lengthBehind_26 (by decide) ?_
        refine ia_icmp_ge (a := a) (b := 224) (tgt := 36) hx hb d_Utf8_lengthBehind_29 (by decide) (by omega) (by omega) (fun c4 => ?_) (fun c4 => ?_)
        · refine lv_iload_n hx hb d_Utf8_lengthBehind_36 rfl (lv_at hl 0 rfl) ?_
          refine lv_sipush (v := iI (240)) hx hb d_Utf8_lengthBehind_37 (by decide) ?_
          refine ia_icmp_ge (a := a) (b := 240) (tgt := 47) hx hb d_Utf8_lengthBehind_40 (by decide) (by omega) (by omega) (fun c5 => ?_) (fun c5 => ?_)
          · refine lv_iconst (v := iI (4)) hx hb d_Utf8_lengthBehind_47 rfl ?_
            exact mw_iret hx hb hr hM hS hlocks d_Utf8_lengthBehind_48 (mwR_i (by unfold uLen; (repeat split) <;> omega))
          · refine lv_iconst (v := iI (3)) hx hb d_Utf8_lengthBehind_43 rfl ?_
            refine lv_goto (tgt := 48) hx hb d_Utf8_lengthBehind_44 (by decide) ?_
            exact mw_iret hx hb hr hM hS hlocks d_Utf8_lengthBehind_48 (mwR_i (by unfold uLen; (repeat split) <;> omega))
        · refine lv_iconst (v := iI (2)) hx hb d_Utf8_lengthBehind_32 rfl ?_
          refine lv_goto (tgt := 48) hx hb d_Utf8_lengthBehind_33 (by decide) ?_
          exact mw_iret hx hb hr hM hS hlocks d_Utf8_lengthBehind_48 (mwR_i (by unfold uLen; (repeat split) <;> omega))
      · refine lv_iconst (v := iI (0)) hx hb d_Utf8_lengthBehind_23 rfl ?_
        exact mw_iret hx hb hr hM hS hlocks d_Utf8_lengthBehind_24 (mwR_i (by unfold uLen; (repeat split) <;> omega))
  · refine lv_iconst (v := iI (1)) hx hb d_Utf8_lengthBehind_7 rfl ?_
    exact mw_iret hx hb hr hM hS hlocks d_Utf8_lengthBehind_8 (mwR_i (by unfold uLen; (repeat split) <;> omega))
set_option maxHeartbeats 4000000 in
set_option maxRecDepth 100000 in
theorem c_Utf8_isRight (l : Launch) (D : va_G) (g : Nat → ClassId) (lo : Nat) (L : Nat → Nat) (κ : Nat → Option va_E) (i j mo n sz : Nat) (b : Nat → Int) (hB : bxs g L κ i j mo n sz b) (a1 a2 : Int) (ha1 : -1000000 ≤ a1 ∧ a1 ≤ 1000000) (ha2 : -1000000 ≤ a2 ∧ a2 ≤ 1000000) : Met l y_Utf8_isRight w_Utf8_isRight ({ frames := 1, cells := 0, slots := 0, locals := 21 }) (mwP D vwCl (tyL g) lo L κ [.ref (L i), .int (iI a1), .int (iI a2)]) (mwQ D vwCl lo (mwR (some (.int (iI (bI (uRight b sz a1 a2))))) L κ)) 0 0 (fun q => lo ≤ q) := by
  obtain ⟨hz1, hz2, hz3⟩ := hB.2.2.1
  refine Met.ofW (cc := b_Utf8_isRight) (maxL := 8) (ret := (Option.some Jvm.ClassFile.FieldType.boolean)) (by decide) rfl ?_
  intro p e s m args below meth c s₁ B hml hpre
  obtain ⟨hargs, hM, hK⟩ := hpre
  have hx := B.exec
  have hb := B.bytes
  have hr := B.returns
  have hts : ∀ w ∈ wA, w.before args s = true := fun w h => atoms_spec (ws := w_Utf8_isRight) B.pre w (List.mem_cons_of_mem _ h)
  have hown : s.vm.findClass R_Utf8 = some m.cls := findClass_of_methodNamed B.named
  have hlocks := B.notSynchronized
  have hS : va_S (fun q => lo ≤ q) s.heap s.heap [] := va_S.rf
  have loop71 : ∀ (N : Nat) (k : Int) (u : Int) (v : Int), (a2 - k).toNat < N → (0 ≤ k ∧ k ≤ 1000000) → (0 ≤ u ∧ u < 256) → (0 ≤ v ∧ v < 256) → (uRight b sz a1 a2 = uRt b sz a1 a2 k u v) → ∀ (H : Heap) (locs : List Loc) (ls : Array Slot), mw D vwCl lo L κ H → va_S (fun q => lo ≤ q) s.heap H locs → lv_has ls 8 [(6, .int (iI k)), (5, .int (iI v)), (4, .int (iI u)), (0, .ref (L i)), (1, .int (iI a1)), (2, .int (iI a2))] → W p l e (headSpec w_Utf8_isRight ({ frames := 1, cells := 0, slots := 0, locals := 21 })).room s m args below meth c H locs 0 0 (MQ below (mwQ D vwCl lo (mwR (some (.int (iI (bI (uRight b sz a1 a2))))) L κ)) args s 0 0 (fun q => lo ≤ q)) (F0 m 71 ls []) := by
    intro N
    induction N with
    | zero => intro k u v hms; exact absurd hms (Nat.not_lt_zero _)
    | succ N ih =>
      intro k u v hms hk hu hv hres H locs ls hM hS hl
      refine lv_iload hx hb d_Utf8_isRight_71 (lv_at hl 0 rfl) ?_
      refine lv_iload_n hx hb d_Utf8_isRight_73 rfl (lv_at hl 5 rfl) ?_
      refine ia_icmp_ge (a := k) (b := a2) (tgt := 119) hx hb d_Utf8_isRight_74 (by decide) (by omega) (by omega) (fun c1 => ?_) (fun c1 => ?_)
      · refine lv_iconst (v := iI (1)) hx hb d_Utf8_isRight_119 rfl ?_
        exact mw_zret (v := true) hx hb hr hM hS hlocks d_Utf8_isRight_120 (mwR_z (by rw [hres, uRt_end (by omega)]))
      · refine lv_aload_n hx hb d_Utf8_isRight_77 rfl (lv_at hl 3 rfl) ?_
        refine lv_iload_n hx hb d_Utf8_isRight_78 rfl (lv_at hl 4 rfl) ?_
        refine lv_iload hx hb d_Utf8_isRight_79 (lv_at hl 0 rfl) ?_
        refine ia_add hx hb d_Utf8_isRight_81 ?_
        refine mw_rdV (i := i) (As := [.int (iI (a1 + k))]) (rest := []) ⟨hx, hb, hml, hown, hts⟩ hK hM hS rfl hB.1 rfl (c_Bytes_get l D g lo L κ i j mo n sz b hB (a1 + k) (by omega)) (cwV 1 hts (gV m_305 m_251 m_252 m_52 m_253) rfl rfl rfl (by decide +kernel) ⟨Nat.le_of_ble_eq_true rfl, Nat.le_of_ble_eq_true rfl⟩) rfl hl.1 rfl (Nat.le_of_ble_eq_true rfl) d_Utf8_isRight_82 ⟨Nat.le_of_ble_eq_true rfl, Nat.le_of_ble_eq_true rfl⟩ (fun H locs hM hS => ?_)
        have r2 := bGet_r (sz := sz) hB.2.2.2.1 (a1 + k)
        refine lv_istore (lv' := [(7, .int (iI (bGet b sz (a1 + k)))), (6, .int (iI k)), (5, .int (iI v)), (4, .int (iI u)), (0, .ref (L i)), (1, .int (iI a1)), (2, .int (iI a2))]) hx hb d_Utf8_isRight_85 hl (by decide) rfl (fun ls hl => ?_)
        refine lv_iload hx hb d_Utf8_isRight_87 (lv_at hl 0 rfl) ?_
        refine lv_iload hx hb d_Utf8_isRight_89 (lv_at hl 3 rfl) ?_
        refine ia_icmp_lt (a := bGet b sz (a1 + k)) (b := u) (tgt := 101) hx hb d_Utf8_isRight_91 (by decide) (by omega) (by omega) (fun c3 => ?_) (fun c3 => ?_)
        · refine lv_iconst (v := iI (0)) hx hb d_Utf8_isRight_101 rfl ?_
          exact mw_zret (v := false) hx hb hr hM hS hlocks d_Utf8_isRight_102 (mwR_z (by rw [hres, uRt_step (by omega), if_pos (by omega)]))
        · refine lv_iload hx hb d_Utf8_isRight_94 (lv_at hl 0 rfl) ?_
          refine lv_iload hx hb d_Utf8_isRight_96 (lv_at hl 2 rfl) ?_
          refine ia_icmp_le (a := bGet b sz (a1 + k)) (b := v) (tgt := 103) hx hb d_Utf8_isRight_98 (by decide) (by omega) (by omega) (fun c4 => ?_) (fun c4 => ?_)
          · refine lv_sipush (v := iI (128)) hx hb d_Utf8_isRight_103 (by decide) ?_
            refine lv_istore (lv' := [(4, .int (iI 128)), (7, .int (iI (bGet b sz (a1 + k)))), (6, .int (iI k)), (5, .int (iI v)), (0, .ref (L i)), (1, .int (iI a1)), (2, .int (iI a2))]) hx hb d_Utf8_isRight_106 hl (by decide) rfl (fun ls hl => ?_)
            refine lv_sipush (v := iI (191)) hx hb d_Utf8_isRight_108 (by decide) ?_
            refine lv_istore (lv' := [(5, .int (iI 191)), (4, .int (iI 128)), (7, .int (iI (bGet b sz (a1 + k)))), (6, .int (iI k)), (0, .ref (L i)), (1, .int (iI a1)), (2, .int (iI a2))]) hx hb d_Utf8_isRight_111 hl (by decide) rfl (fun ls hl => ?_)
            refine lv_iinc (v := iI (k + 1)) (lv' := [(6, .int (iI (k + 1))), (5, .int (iI 191)), (4, .int (iI 128)), (7, .int (iI (bGet b sz (a1 + k)))), (0, .ref (L i)), (1, .int (iI a1)), (2, .int (iI a2))]) hx hb d_Utf8_isRight_113 hl (k := 3) rfl (iI_inc _ _) (by decide) rfl (fun ls hl => ?_)
            refine lv_goto (tgt := 71) hx hb d_Utf8_isRight_116 (by decide) ?_
            exact ih (k + 1) 128 191 (by omega) (by omega) (by omega) (by omega) (by rw [hres, uRt_step (by omega), if_neg (by omega)]) _ _ ls hM hS (lv_sub hl [0, 1, 2, 4, 5, 6] rfl)
          · refine lv_iconst (v := iI (0)) hx hb d_Utf8_isRight_101 rfl ?_
            exact mw_zret (v := false) hx hb hr hM hS hlocks d_Utf8_isRight_102 (mwR_z (by rw [hres, uRt_step (by omega), if_pos (by omega)]))
  obtain ⟨ls, hls, hl⟩ := mw_entry (m := m) [.ref (L i), .int (iI a1), .int (iI a2)] (n := 8) (Nat.le_of_ble_eq_true rfl) hargs
  refine W.eq hls ?_
  have hl : lv_has ls 8 [(0, .ref (L i)), (1, .int (iI a1)), (2, .int (iI a2))] := hl
  refine lv_aload_n hx hb d_Utf8_isRight_0 rfl (lv_at hl 0 rfl) ?_
  refine lv_iload_n hx hb d_Utf8_isRight_1 rfl (lv_at hl 1 rfl) ?_
  refine mw_rdV (i := i) (As := [.int (iI a1)]) (rest := []) ⟨hx, hb, hml, hown, hts⟩ hK hM hS rfl hB.1 rfl (c_Bytes_get l D g lo L κ i j mo n sz b hB a1 (by omega)) (cwV 1 hts (gV m_305 m_251 m_252 m_52 m_253) rfl rfl rfl (by decide +kernel) ⟨Nat.le_of_ble_eq_true rfl, Nat.le_of_ble_eq_true rfl⟩) rfl hl.1 rfl (Nat.le_of_ble_eq_true rfl) d_Utf8_isRight_2 ⟨Nat.le_of_ble_eq_true rfl, Nat.le_of_ble_eq_true rfl⟩ (fun H locs hM hS => ?_)
  have r5 := bGet_r (sz := sz) hB.2.2.2.1 a1
  refine lv_istore_n (lv' := [(3, .int (iI (bGet b sz a1))), (0, .ref (L i)), (1, .int (iI a1)), (2, .int (iI a2))]) hx hb d_Utf8_isRight_5 rfl hl (by decide) rfl (fun ls hl => ?_)
  refine lv_iload_n hx hb d_Utf8_isRight_6 rfl (lv_at hl 0 rfl) ?_
  refine lv_sipush (v := iI (224)) hx hb d_Utf8_isRight_7 (by decide) ?_
  refine ia_icmp_ne (a := bGet b sz a1) (b := 224) (tgt := 19) hx hb d_Utf8_isRight_10 (by decide) (by omega) (by omega) (fun c6 => ?_) (fun c6 => ?_)
  · refine lv_iload_n hx hb d_Utf8_isRight_19 rfl (lv_at hl 0 rfl) ?_
    refine lv_sipush (v := iI (240)) hx hb d_Utf8_isRight_20 (by decide) ?_
    refine ia_icmp_ne (a := bGet b sz a1) (b := 240) (tgt := 32) hx hb d_Utf8_isRight_23 (by decide) (by omega) (by omega) (fun c7 => ?_) (fun c7 => ?_)
    · refine lv_sipush (v := iI (128)) hx hb d_Utf8_isRight_32 (by decide) ?_
      refine lv_istore (lv' := [(4, .int (iI 128)), (3, .int (iI (bGet b sz a1))), (0, .ref (L i)), (1, .int (iI a1)), (2, .int (iI a2))]) hx hb d_Utf8_isRight_35 hl (by decide) rfl (fun ls hl => ?_)
      refine lv_iload_n hx hb d_Utf8_isRight_37 rfl (lv_at hl 1 rfl) ?_
      refine lv_sipush (v := iI (237)) hx hb d_Utf8_isRight_38 (by decide) ?_
      refine ia_icmp_ne (a := bGet b sz a1) (b := 237) (tgt := 50) hx hb d_Utf8_isRight_41 (by decide) (by omega) (by omega) (fun c8 => ?_) (fun c8 => ?_)
      · refine lv_iload_n hx hb d_Utf8_isRight_50 rfl (lv_at hl 1 rfl) ?_
        refine lv_sipush (v := iI (244)) hx hb d_Utf8_isRight_51 (by decide) ?_
        refine ia_icmp_ne (a := bGet b sz a1) (b := 244) (tgt := 63) hx hb d_Utf8_isRight_54 (by decide) (by omega) (by omega) (fun c9 => ?_) (fun c9 => ?_)
        · refine lv_sipush (v := iI (191)) hx hb d_Utf8_isRight_63 (by decide) ?_
          refine lv_istore (lv' := [(5, .int (iI 191)), (4, .int (iI 128)), (3, .int (iI (bGet b sz a1))), (0, .ref (L i)), (1, .int (iI a1)), (2, .int (iI a2))]) hx hb d_Utf8_isRight_66 hl (by decide) rfl (fun ls hl => ?_)
          refine lv_iconst (v := iI (1)) hx hb d_Utf8_isRight_68 rfl ?_
          refine lv_istore (lv' := [(6, .int (iI 1)), (5, .int (iI 191)), (4, .int (iI 128)), (3, .int (iI (bGet b sz a1))), (0, .ref (L i)), (1, .int (iI a1)), (2, .int (iI a2))]) hx hb d_Utf8_isRight_69 hl (by decide) rfl (fun ls hl => ?_)
          exact loop71 _ 1 128 191 (Nat.lt_succ_self _) (by omega) (by omega) (by omega) (by unfold uRight; rw [show uLow (bGet b sz a1) = 128 by unfold uLow; (repeat split) <;> omega, show uHigh (bGet b sz a1) = 191 by unfold uHigh; (repeat split) <;> omega]) _ _ ls hM hS (lv_sub hl [0, 1, 2, 4, 5, 6] rfl)
        · refine lv_sipush (v := iI (143)) hx hb d_Utf8_isRight_57 (by decide) ?_
          refine lv_goto (tgt := 66) hx hb d_Utf8_isRight_60 (by decide) ?_
          refine lv_istore (lv' := [(5, .int (iI 143)), (4, .int (iI 128)), (3, .int (iI (bGet b sz a1))), (0, .ref (L i)), (1, .int (iI a1)), (2, .int (iI a2))]) hx hb d_Utf8_isRight_66 hl (by decide) rfl (fun ls hl => ?_)
          refine lv_iconst (v := iI (1)) hx hb d_Utf8_isRight_68 rfl ?_
          refine lv_istore (lv' := [(6, .int (iI 1)), (5, .int (iI 143)), (4, .int (iI 128)), (3, .int (iI (bGet b sz a1))), (0, .ref (L i)), (1, .int (iI a1)), (2, .int (iI a2))]) hx hb d_Utf8_isRight_69 hl (by decide) rfl (fun ls hl => ?_)
          exact loop71 _ 1 128 143 (Nat.lt_succ_self _) (by omega) (by omega) (by omega) (by unfold uRight; rw [show uLow (bGet b sz a1) = 128 by unfold uLow; (repeat split) <;> omega, show uHigh (bGet b sz a1) = 143 by unfold uHigh; (repeat split) <;> omega]) _ _ ls hM hS (lv_sub hl [0, 1, 2, 4, 5, 6] rfl)
      · refine lv_sipush (v := iI (159)) hx hb d_Utf8_isRight_44 (by decide) ?_
        refine lv_goto (tgt := 66) hx hb d_Utf8_isRight_47 (by decide) ?_
        refine lv_istore (lv' := [(5, .int (iI 159)), (4, .int (iI 128)), (3, .int (iI (bGet b sz a1))), (0, .ref (L i)), (1, .int (iI a1)), (2, .int (iI a2))]) hx hb d_Utf8_isRight_66 hl (by decide) rfl (fun ls hl => ?_)
        refine lv_iconst (v := iI (1)) hx hb d_Utf8_isRight_68 rfl ?_
        refine lv_istore (lv' := [(6, .int (iI 1)), (5, .int (iI 159)), (4, .int (iI 128)), (3, .int (iI (bGet b sz a1))), (0, .ref (L i)), (1, .int (iI a1)), (2, .int (iI a2))]) hx hb d_Utf8_isRight_69 hl (by decide) rfl (fun ls hl => ?_)
        exact loop71 _ 1 128 159 (Nat.lt_succ_self _) (by omega) (by omega) (by omega) (by unfold uRight; rw [show uLow (bGet b sz a1) = 128 by unfold uLow; (repeat split) <;> omega, show uHigh (bGet b sz a1) = 159 by unfold uHigh; (repeat split) <;> omega]) _ _ ls hM hS (lv_sub hl [0, 1, 2, 4, 5, 6] rfl)
    · refine lv_sipush (v := iI (144)) hx hb d_Utf8_isRight_26 (by decide) ?_
      refine lv_goto (tgt := 35) hx hb d_Utf8_isRight_29 (by decide) ?_
      refine lv_istore (lv' := [(4, .int (iI 144)), (3, .int (iI (bGet b sz a1))), (0, .ref (L i)), (1, .int (iI a1)), (2, .int (iI a2))]) hx hb d_Utf8_isRight_35 hl (by decide) rfl (fun ls hl => ?_)
      refine lv_iload_n hx hb d_Utf8_isRight_37 rfl (lv_at hl 1 rfl) ?_
      refine lv_sipush (v := iI (237)) hx hb d_Utf8_isRight_38 (by decide) ?_
      refine ia_icmp_ne (a := bGet b sz a1) (b := 237) (tgt := 50) hx hb d_Utf8_isRight_41 (by decide) (by omega) (by omega) (fun c10 => ?_) (fun c10 => ?_)
      · refine lv_iload_n hx hb d_Utf8_isRight_50 rfl (lv_at hl 1 rfl) ?_
        refine lv_sipush (v := iI (244)) hx hb d_Utf8_isRight_51 (by decide) ?_
        refine ia_icmp_ne (a := bGet b sz a1) (b := 244) (tgt := 63) hx hb d_Utf8_isRight_54 (by decide) (by omega) (by omega) (fun c11 => ?_) (fun c11 => ?_)
        · refine lv_sipush (v := iI (191)) hx hb d_Utf8_isRight_63 (by decide) ?_
          refine lv_istore (lv' := [(5, .int (iI 191)), (4, .int (iI 144)), (3, .int (iI (bGet b sz a1))), (0, .ref (L i)), (1, .int (iI a1)), (2, .int (iI a2))]) hx hb d_Utf8_isRight_66 hl (by decide) rfl (fun ls hl => ?_)
          refine lv_iconst (v := iI (1)) hx hb d_Utf8_isRight_68 rfl ?_
          refine lv_istore (lv' := [(6, .int (iI 1)), (5, .int (iI 191)), (4, .int (iI 144)), (3, .int (iI (bGet b sz a1))), (0, .ref (L i)), (1, .int (iI a1)), (2, .int (iI a2))]) hx hb d_Utf8_isRight_69 hl (by decide) rfl (fun ls hl => ?_)
          exact loop71 _ 1 144 191 (Nat.lt_succ_self _) (by omega) (by omega) (by omega) (by unfold uRight; rw [show uLow (bGet b sz a1) = 144 by unfold uLow; (repeat split) <;> omega, show uHigh (bGet b sz a1) = 191 by unfold uHigh; (repeat split) <;> omega]) _ _ ls hM hS (lv_sub hl [0, 1, 2, 4, 5, 6] rfl)
        · refine lv_sipush (v := iI (143)) hx hb d_Utf8_isRight_57 (by decide) ?_
          refine lv_goto (tgt := 66) hx hb d_Utf8_isRight_60 (by decide) ?_
          refine lv_istore (lv' := [(5, .int (iI 143)), (4, .int (iI 144)), (3, .int (iI (bGet b sz a1))), (0, .ref (L i)), (1, .int (iI a1)), (2, .int (iI a2))]) hx hb d_Utf8_isRight_66 hl (by decide) rfl (fun ls hl => ?_)
          refine lv_iconst (v := iI (1)) hx hb d_Utf8_isRight_68 rfl ?_
          refine lv_istore (lv' := [(6, .int (iI 1)), (5, .int (iI 143)), (4, .int (iI 144)), (3, .int (iI (bGet b sz a1))), (0, .ref (L i)), (1, .int (iI a1)), (2, .int (iI a2))]) hx hb d_Utf8_isRight_69 hl (by decide) rfl (fun ls hl => ?_)
          exact loop71 _ 1 144 143 (Nat.lt_succ_self _) (by omega) (by omega) (by omega) (by unfold uRight; rw [show uLow (bGet b sz a1) = 144 by unfold uLow; (repeat split) <;> omega, show uHigh (bGet b sz a1) = 143 by unfold uHigh; (repeat split) <;> omega]) _ _ ls hM hS (lv_sub hl [0, 1, 2, 4, 5, 6] rfl)
      · refine lv_sipush (v := iI (159)) hx hb d_Utf8_isRight_44 (by decide) ?_
        refine lv_goto (tgt := 66) hx hb d_Utf8_isRight_47 (by decide) ?_
        refine lv_istore (lv' := [(5, .int (iI 159)), (4, .int (iI 144)), (3, .int (iI (bGet b sz a1))), (0, .ref (L i)), (1, .int (iI a1)), (2, .int (iI a2))]) hx hb d_Utf8_isRight_66 hl (by decide) rfl (fun ls hl => ?_)
        refine lv_iconst (v := iI (1)) hx hb d_Utf8_isRight_68 rfl ?_
        refine lv_istore (lv' := [(6, .int (iI 1)), (5, .int (iI 159)), (4, .int (iI 144)), (3, .int (iI (bGet b sz a1))), (0, .ref (L i)), (1, .int (iI a1)), (2, .int (iI a2))]) hx hb d_Utf8_isRight_69 hl (by decide) rfl (fun ls hl => ?_)
        exact loop71 _ 1 144 159 (Nat.lt_succ_self _) (by omega) (by omega) (by omega) (by unfold uRight; rw [show uLow (bGet b sz a1) = 144 by unfold uLow; (repeat split) <;> omega, show uHigh (bGet b sz a1) = 159 by unfold uHigh; (repeat split) <;> omega]) _ _ ls hM hS (lv_sub hl [0, 1, 2, 4, 5, 6] rfl)
  · refine lv_sipush (v := iI (160)) hx hb d_Utf8_isRight_13 (by decide) ?_
    refine lv_goto (tgt := 35) hx hb d_Utf8_isRight_16 (by decide) ?_
    refine lv_istore (lv' := [(4, .int (iI 160)), (3, .int (iI (bGet b sz a1))), (0, .ref (L i)), (1, .int (iI a1)), (2, .int (iI a2))]) hx hb d_Utf8_isRight_35 hl (by decide) rfl (fun ls hl => ?_)
    refine lv_iload_n hx hb d_Utf8_isRight_37 rfl (lv_at hl 1 rfl) ?_
    refine lv_sipush (v := iI (237)) hx hb d_Utf8_isRight_38 (by decide) ?_
    refine ia_icmp_ne (a := bGet b sz a1) (b := 237) (tgt := 50) hx hb d_Utf8_isRight_41 (by decide) (by omega) (by omega) (fun c12 => ?_) (fun c12 => ?_)
    · refine lv_iload_n hx hb d_Utf8_isRight_50 rfl (lv_at hl 1 rfl) ?_
      refine lv_sipush (v := iI (244)) hx hb d_Utf8_isRight_51 (by decide) ?_
      refine ia_icmp_ne (a := bGet b sz a1) (b := 244) (tgt := 63) hx hb d_Utf8_isRight_54 (by decide) (by omega) (by omega) (fun c13 => ?_) (fun c13 => ?_)
      · refine lv_sipush (v := iI (191)) hx hb d_Utf8_isRight_63 (by decide) ?_
        refine lv_istore (lv' := [(5, .int (iI 191)), (4, .int (iI 160)), (3, .int (iI (bGet b sz a1))), (0, .ref (L i)), (1, .int (iI a1)), (2, .int (iI a2))]) hx hb d_Utf8_isRight_66 hl (by decide) rfl (fun ls hl => ?_)
        refine lv_iconst (v := iI (1)) hx hb d_Utf8_isRight_68 rfl ?_
        refine lv_istore (lv' := [(6, .int (iI 1)), (5, .int (iI 191)), (4, .int (iI 160)), (3, .int (iI (bGet b sz a1))), (0, .ref (L i)), (1, .int (iI a1)), (2, .int (iI a2))]) hx hb d_Utf8_isRight_69 hl (by decide) rfl (fun ls hl => ?_)
        exact loop71 _ 1 160 191 (Nat.lt_succ_self _) (by omega) (by omega) (by omega) (by unfold uRight; rw [show uLow (bGet b sz a1) = 160 by unfold uLow; (repeat split) <;> omega, show uHigh (bGet b sz a1) = 191 by unfold uHigh; (repeat split) <;> omega]) _ _ ls hM hS (lv_sub hl [0, 1, 2, 4, 5, 6] rfl)
      · refine lv_sipush (v := iI (143)) hx hb d_Utf8_isRight_57 (by decide) ?_
        refine lv_goto (tgt := 66) hx hb d_Utf8_isRight_60 (by decide) ?_
        refine lv_istore (lv' := [(5, .int (iI 143)), (4, .int (iI 160)), (3, .int (iI (bGet b sz a1))), (0, .ref (L i)), (1, .int (iI a1)), (2, .int (iI a2))]) hx hb d_Utf8_isRight_66 hl (by decide) rfl (fun ls hl => ?_)
        refine lv_iconst (v := iI (1)) hx hb d_Utf8_isRight_68 rfl ?_
        refine lv_istore (lv' := [(6, .int (iI 1)), (5, .int (iI 143)), (4, .int (iI 160)), (3, .int (iI (bGet b sz a1))), (0, .ref (L i)), (1, .int (iI a1)), (2, .int (iI a2))]) hx hb d_Utf8_isRight_69 hl (by decide) rfl (fun ls hl => ?_)
        exact loop71 _ 1 160 143 (Nat.lt_succ_self _) (by omega) (by omega) (by omega) (by unfold uRight; rw [show uLow (bGet b sz a1) = 160 by unfold uLow; (repeat split) <;> omega, show uHigh (bGet b sz a1) = 143 by unfold uHigh; (repeat split) <;> omega]) _ _ ls hM hS (lv_sub hl [0, 1, 2, 4, 5, 6] rfl)
    · refine lv_sipush (v := iI (159)) hx hb d_Utf8_isRight_44 (by decide) ?_
      refine lv_goto (tgt := 66) hx hb d_Utf8_isRight_47 (by decide) ?_
      refine lv_istore (lv' := [(5, .int (iI 159)), (4, .int (iI 160)), (3, .int (iI (bGet b sz a1))), (0, .ref (L i)), (1, .int (iI a1)), (2, .int (iI a2))]) hx hb d_Utf8_isRight_66 hl (by decide) rfl (fun ls hl => ?_)
      refine lv_iconst (v := iI (1)) hx hb d_Utf8_isRight_68 rfl ?_
      refine lv_istore (lv' := [(6, .int (iI 1)), (5, .int (iI 159)), (4, .int (iI 160)), (3, .int (iI (bGet b sz a1))), (0, .ref (L i)), (1, .int (iI a1)), (2, .int (iI a2))]) hx hb d_Utf8_isRight_69 hl (by decide) rfl (fun ls hl => ?_)
      exact loop71 _ 1 160 159 (Nat.lt_succ_self _) (by omega) (by omega) (by omega) (by unfold uRight; rw [show uLow (bGet b sz a1) = 160 by unfold uLow; (repeat split) <;> omega, show uHigh (bGet b sz a1) = 159 by unfold uHigh; (repeat split) <;> omega]) _ _ ls hM hS (lv_sub hl [0, 1, 2, 4, 5, 6] rfl)
set_option maxHeartbeats 4000000 in
set_option maxRecDepth 100000 in
theorem c_Utf8_firstWrong (l : Launch) (D : va_G) (g : Nat → ClassId) (lo : Nat) (L : Nat → Nat) (κ : Nat → Option va_E) (i j mo n sz : Nat) (b : Nat → Int) (hB : bxs g L κ i j mo n sz b) (a1 a2 : Int) (ha1 : 0 ≤ a1 ∧ a1 ≤ 900000) (ha2 : -1 ≤ a2 ∧ a2 ≤ 900000) : Met l y_Utf8_firstWrong w_Utf8_firstWrong ({ frames := 2, cells := 0, slots := 0, locals := 48 }) (mwP D vwCl (tyL g) lo L κ [.ref (L i), .int (iI a1), .int (iI a2)]) (mwQ D vwCl lo (mwR (some (.int (iI (uWrong b sz a1 a2)))) L κ)) 0 0 (fun q => lo ≤ q) := by
  obtain ⟨hz1, hz2, hz3⟩ := hB.2.2.1
  refine Met.ofW (cc := b_Utf8_firstWrong) (maxL := 6) (ret := (Option.some Jvm.ClassFile.FieldType.int)) (by decide) rfl ?_
  intro p e s m args below meth c s₁ B hml hpre
  obtain ⟨hargs, hM, hK⟩ := hpre
  have hx := B.exec
  have hb := B.bytes
  have hr := B.returns
  have hts : ∀ w ∈ wA, w.before args s = true := fun w h => atoms_spec (ws := w_Utf8_firstWrong) B.pre w (List.mem_cons_of_mem _ h)
  have hown : s.vm.findClass R_Utf8 = some m.cls := findClass_of_methodNamed B.named
  have hlocks := B.notSynchronized
  have hS : va_S (fun q => lo ≤ q) s.heap s.heap [] := va_S.rf
  have loop5 : ∀ (N : Nat) (k : Int) (t : Int), (a2 - k).toNat < N → (0 ≤ k ∧ k ≤ 900000) → (0 ≤ t ∧ t ≤ 1000000) → (uWrong b sz a1 a2 = uFw b sz a2 k t) → ∀ (H : Heap) (locs : List Loc) (ls : Array Slot), mw D vwCl lo L κ H → va_S (fun q => lo ≤ q) s.heap H locs → lv_has ls 6 [(4, .int (iI k)), (3, .int (iI t)), (0, .ref (L i)), (1, .int (iI a1)), (2, .int (iI a2))] → W p l e (headSpec w_Utf8_firstWrong ({ frames := 2, cells := 0, slots := 0, locals := 48 })).room s m args below meth c H locs 0 0 (MQ below (mwQ D vwCl lo (mwR (some (.int (iI (uWrong b sz a1 a2)))) L κ)) args s 0 0 (fun q => lo ≤ q)) (F0 m 5 ls []) := by
    intro N
    induction N with
    | zero => intro k t hms; exact absurd hms (Nat.not_lt_zero _)
    | succ N ih =>
      intro k t hms hk ht hres H locs ls hM hS hl
      refine lv_iload hx hb d_Utf8_firstWrong_5 (lv_at hl 0 rfl) ?_
      refine lv_iload_n hx hb d_Utf8_firstWrong_7 rfl (lv_at hl 4 rfl) ?_
      refine ia_icmp_ge (a := k) (b := a2) (tgt := 62) hx hb d_Utf8_firstWrong_8 (by decide) (by omega) (by omega) (fun c1 => ?_) (fun c1 => ?_)
      · refine lv_iconst (v := iI (-1)) hx hb d_Utf8_firstWrong_62 rfl ?_
        exact mw_iret hx hb hr hM hS hlocks d_Utf8_firstWrong_63 (mwR_i (by rw [hres, uFw_end (by omega)]))
      · refine lv_iload_n hx hb d_Utf8_firstWrong_11 rfl (lv_at hl 1 rfl) ?_
        refine lv_iload_n hx hb d_Utf8_firstWrong_12 rfl (lv_at hl 4 rfl) ?_
        refine ia_icmp_ge (a := t) (b := a2) (tgt := 62) hx hb d_Utf8_firstWrong_13 (by decide) (by omega) (by omega) (fun c2 => ?_) (fun c2 => ?_)
        · refine lv_iconst (v := iI (-1)) hx hb d_Utf8_firstWrong_62 rfl ?_
          exact mw_iret hx hb hr hM hS hlocks d_Utf8_firstWrong_63 (mwR_i (by rw [hres, uFw_end (by omega)]))
        · refine lv_aload_n hx hb d_Utf8_firstWrong_16 rfl (lv_at hl 2 rfl) ?_
          refine lv_iload_n hx hb d_Utf8_firstWrong_17 rfl (lv_at hl 1 rfl) ?_
          refine mw_rdV (i := i) (As := [.int (iI t)]) (rest := []) ⟨hx, hb, hml, hown, hts⟩ hK hM hS rfl hB.1 rfl (c_Bytes_get l D g lo L κ i j mo n sz b hB t (by omega)) (cwV 1 hts (gV m_305 m_251 m_252 m_52 m_253) rfl rfl rfl (by decide +kernel) ⟨Nat.le_of_ble_eq_true rfl, Nat.le_of_ble_eq_true rfl⟩) rfl hl.1 rfl (Nat.le_of_ble_eq_true rfl) d_Utf8_firstWrong_18 ⟨Nat.le_of_ble_eq_true rfl, Nat.le_of_ble_eq_true rfl⟩ (fun H locs hM hS => ?_)
          have r3 := bGet_r (sz := sz) hB.2.2.2.1 t
          refine mw_rdS (As := [.int (iI (bGet b sz t))]) (rest := []) ⟨hx, hb, hml, hown, hts⟩ hK hM hS (c_Utf8_lengthBehind l D g lo L κ (bGet b sz t) (by omega)) (cwS 1 hts (gS m_306 m_307 m_60 m_308) rfl rfl rfl (by decide +kernel) ⟨Nat.le_of_ble_eq_true rfl, Nat.le_of_ble_eq_true rfl⟩) rfl hl.1 rfl (Nat.le_of_ble_eq_true rfl) d_Utf8_firstWrong_21 ⟨Nat.le_of_ble_eq_true rfl, Nat.le_of_ble_eq_true rfl⟩ (fun H locs hM hS => ?_)
          have r4 := uLen_r (bGet b sz t)
          refine lv_istore (lv' := [(5, .int (iI (uLen (bGet b sz t)))), (4, .int (iI k)), (3, .int (iI t)), (0, .ref (L i)), (1, .int (iI a1)), (2, .int (iI a2))]) hx hb d_Utf8_firstWrong_24 hl (by decide) rfl (fun ls hl => ?_)
          refine lv_iload hx hb d_Utf8_firstWrong_26 (lv_at hl 0 rfl) ?_
          refine ia_if_eq (a := uLen (bGet b sz t)) (tgt := 49) hx hb d_Utf8_firstWrong_28 (by decide) (by omega) (fun c5 => ?_) (fun c5 => ?_)
          · refine lv_iload_n hx hb d_Utf8_firstWrong_49 rfl (lv_at hl 2 rfl) ?_
            exact mw_iret hx hb hr hM hS hlocks d_Utf8_firstWrong_50 (mwR_i (by rw [hres, uFw_bad (by omega) (by omega) (by first | exact Or.inl (by omega) | exact Or.inr (Or.inl (by omega)) | exact Or.inr (Or.inr (by assumption)))]))
          · refine lv_iload hx hb d_Utf8_firstWrong_31 (lv_at hl 0 rfl) ?_
            refine lv_iload_n hx hb d_Utf8_firstWrong_33 rfl (lv_at hl 5 rfl) ?_
            refine lv_iload_n hx hb d_Utf8_firstWrong_34 rfl (lv_at hl 2 rfl) ?_
            refine ia_sub hx hb d_Utf8_firstWrong_35 ?_
            refine ia_icmp_gt (a := uLen (bGet b sz t)) (b := a2 - t) (tgt := 49) hx hb d_Utf8_firstWrong_36 (by decide) (by omega) (by omega) (fun c6 => ?_) (fun c6 => ?_)
            · refine lv_iload_n hx hb d_Utf8_firstWrong_49 rfl (lv_at hl 2 rfl) ?_
              exact mw_iret hx hb hr hM hS hlocks d_Utf8_firstWrong_50 (mwR_i (by rw [hres, uFw_bad (by omega) (by omega) (by first | exact Or.inl (by omega) | exact Or.inr (Or.inl (by omega)) | exact Or.inr (Or.inr (by assumption)))]))
            · refine lv_aload_n hx hb d_Utf8_firstWrong_39 rfl (lv_at hl 3 rfl) ?_
              refine lv_iload_n hx hb d_Utf8_firstWrong_40 rfl (lv_at hl 2 rfl) ?_
              refine lv_iload hx hb d_Utf8_firstWrong_41 (lv_at hl 0 rfl) ?_
              refine mw_rdS (As := [.ref (L i), .int (iI t), .int (iI (uLen (bGet b sz t)))]) (rest := []) ⟨hx, hb, hml, hown, hts⟩ hK hM hS (c_Utf8_isRight l D g lo L κ i j mo n sz b hB t (uLen (bGet b sz t)) (by omega) (by omega)) (cwS 3 hts (gS m_309 m_310 m_60 m_311) rfl rfl rfl (by decide +kernel) ⟨Nat.le_of_ble_eq_true rfl, Nat.le_of_ble_eq_true rfl⟩) rfl hl.1 rfl (Nat.le_of_ble_eq_true rfl) d_Utf8_firstWrong_43 ⟨Nat.le_of_ble_eq_true rfl, Nat.le_of_ble_eq_true rfl⟩ (fun H locs hM hS => ?_)
              refine ia_ifz_ne (x := uRight b sz t (uLen (bGet b sz t))) (tgt := 51) hx hb d_Utf8_firstWrong_46 (by decide) (fun c7 => ?_) (fun c7 => ?_)
              · refine lv_iload_n hx hb d_Utf8_firstWrong_51 rfl (lv_at hl 2 rfl) ?_
                refine lv_iload hx hb d_Utf8_firstWrong_52 (lv_at hl 0 rfl) ?_
                refine ia_add hx hb d_Utf8_firstWrong_54 ?_
                refine lv_istore_n (lv' := [(3, .int (iI (t + (uLen (bGet b sz t))))), (5, .int (iI (uLen (bGet b sz t)))), (4, .int (iI k)), (0, .ref (L i)), (1, .int (iI a1)), (2, .int (iI a2))]) hx hb d_Utf8_firstWrong_55 rfl hl (by decide) rfl (fun ls hl => ?_)
                refine lv_iinc (v := iI (k + 1)) (lv' := [(4, .int (iI (k + 1))), (3, .int (iI (t + (uLen (bGet b sz t))))), (5, .int (iI (uLen (bGet b sz t)))), (0, .ref (L i)), (1, .int (iI a1)), (2, .int (iI a2))]) hx hb d_Utf8_firstWrong_56 hl (k := 2) rfl (iI_inc _ _) (by decide) rfl (fun ls hl => ?_)
                refine lv_goto (tgt := 5) hx hb d_Utf8_firstWrong_59 (by decide) ?_
                exact ih (k + 1) (t + (uLen (bGet b sz t))) (by omega) (by omega) (by omega) (by rw [hres, uFw_step (by omega) (by omega) (by rintro (q | q | q) <;> first | omega | exact absurd q (by simp_all))]) _ _ ls hM hS (lv_sub hl [0, 1, 3, 4, 5] rfl)
              · refine lv_iload_n hx hb d_Utf8_firstWrong_49 rfl (lv_at hl 2 rfl) ?_
                exact mw_iret hx hb hr hM hS hlocks d_Utf8_firstWrong_50 (mwR_i (by rw [hres, uFw_bad (by omega) (by omega) (by first | exact Or.inl (by omega) | exact Or.inr (Or.inl (by omega)) | exact Or.inr (Or.inr (by assumption)))]))
  obtain ⟨ls, hls, hl⟩ := mw_entry (m := m) [.ref (L i), .int (iI a1), .int (iI a2)] (n := 6) (Nat.le_of_ble_eq_true rfl) hargs
  refine W.eq hls ?_
  have hl : lv_has ls 6 [(0, .ref (L i)), (1, .int (iI a1)), (2, .int (iI a2))] := hl
  refine lv_iload_n hx hb d_Utf8_firstWrong_0 rfl (lv_at hl 1 rfl) ?_
  refine lv_istore_n (lv' := [(3, .int (iI a1)), (0, .ref (L i)), (1, .int (iI a1)), (2, .int (iI a2))]) hx hb d_Utf8_firstWrong_1 rfl hl (by decide) rfl (fun ls hl => ?_)
  refine lv_iload_n hx hb d_Utf8_firstWrong_2 rfl (lv_at hl 2 rfl) ?_
  refine lv_istore (lv' := [(4, .int (iI a1)), (3, .int (iI a1)), (0, .ref (L i)), (1, .int (iI a1)), (2, .int (iI a2))]) hx hb d_Utf8_firstWrong_3 hl (by decide) rfl (fun ls hl => ?_)
  exact loop5 _ a1 a1 (Nat.lt_succ_self _) (by omega) (by omega) rfl _ _ ls hM hS (lv_sub hl [0, 1, 2, 3, 4] rfl)
end
section
set_option maxHeartbeats 4000000 in
set_option maxRecDepth 100000 in
theorem c_Nodes_count (l : Launch) (D : va_G) (g : Nat → ClassId) (lo : Nat) (L : Nat → Nat) (κ : Nat → Option va_E) (T : Nat → Nat → Int) (cnt d : Nat) (hN : nds g L κ T cnt d) : Met l y_Nodes_count w_Nodes_count ({ frames := 0, cells := 0, slots := 0, locals := 0 }) (mwP D vwCl (tyL g) lo L κ [.ref (L 6)]) (mwQ D vwCl lo (mwR (some (.int (iI cnt))) L κ)) 0 0 (fun q => lo ≤ q) := by
  have hc0 := hN.2.2.1
  refine Met.ofW (cc := b_Nodes_count) (maxL := 1) (ret := (Option.some Jvm.ClassFile.FieldType.int)) (by decide) rfl ?_
  intro p e s m args below meth c s₁ B hml hpre
  obtain ⟨hargs, hM, hK⟩ := hpre
  have hx := B.exec
  have hb := B.bytes
  have hr := B.returns
  have hts : ∀ w ∈ wA, w.before args s = true := fun w h => atoms_spec (ws := w_Nodes_count) B.pre w (List.mem_cons_of_mem _ h)
  have hown : s.vm.findClass R_Nodes = some m.cls := findClass_of_methodNamed B.named
  have hlocks := B.notSynchronized
  have hS : va_S (fun q => lo ≤ q) s.heap s.heap [] := va_S.rf
  obtain ⟨ls, hls, hl⟩ := mw_entry (m := m) [.ref (L 6)] (n := 1) (Nat.le_of_ble_eq_true rfl) hargs
  refine W.eq hls ?_
  have hl : lv_has ls 1 [(0, .ref (L 6))] := hl
  refine lv_aload_n hx hb d_Nodes_count_0 rfl (lv_at hl 0 rfl) ?_
  refine mw_get (ci := 1) (i := 6) (v := .int (iI cnt)) (C := R_Nodes) (T := T_Nodes) (N := 9) hx hb hts in_Nodes hown hK hM hN.1 rfl rfl 8 (by decide) (hts _ m_139) rfl d_Nodes_count_1 ?_
  exact mw_iret hx hb hr hM hS hlocks d_Nodes_count_4 (mwR_i (by rfl))
set_option maxHeartbeats 4000000 in
set_option maxRecDepth 100000 in
theorem c_Nodes_cell (l : Launch) (D : va_G) (g : Nat → ClassId) (lo : Nat) (L : Nat → Nat) (κ : Nat → Option va_E) (T : Nat → Nat → Int) (cnt d : Nat) (hN : nds g L κ T cnt d) (co : Nat) (x : Int) (hco : co < 7) (hx : -2147483648 ≤ x ∧ x < 2147483648) : Met l y_Nodes_cell w_Nodes_cell ({ frames := 0, cells := 0, slots := 0, locals := 0 }) (mwP D vwCl (tyL g) lo L κ [.ref (L 6), .ref (L (7 + co)), .int (iI x)]) (mwQ D vwCl lo (mwR (some (.int (iI (nCell T cnt co x)))) L κ)) 0 0 (fun q => lo ≤ q) := by
  have hc0 := hN.2.2.1
  refine Met.ofW (cc := b_Nodes_cell) (maxL := 3) (ret := (Option.some Jvm.ClassFile.FieldType.int)) (by decide) rfl ?_
  intro p e s m args below meth c s₁ B hml hpre
  obtain ⟨hargs, hM, hK⟩ := hpre
  have hx := B.exec
  have hb := B.bytes
  have hr := B.returns
  have hts : ∀ w ∈ wA, w.before args s = true := fun w h => atoms_spec (ws := w_Nodes_cell) B.pre w (List.mem_cons_of_mem _ h)
  have hown : s.vm.findClass R_Nodes = some m.cls := findClass_of_methodNamed B.named
  have hlocks := B.notSynchronized
  have hS : va_S (fun q => lo ≤ q) s.heap s.heap [] := va_S.rf
  obtain ⟨ls, hls, hl⟩ := mw_entry (m := m) [.ref (L 6), .ref (L (7 + co)), .int (iI x)] (n := 3) (Nat.le_of_ble_eq_true rfl) hargs
  refine W.eq hls ?_
  have hl : lv_has ls 3 [(0, .ref (L 6)), (1, .ref (L (7 + co))), (2, .int (iI x))] := hl
  refine lv_iload_n hx hb d_Nodes_cell_0 rfl (lv_at hl 2 rfl) ?_
  refine ia_if_lt (a := x) (tgt := 24) hx hb d_Nodes_cell_1 (by decide) (by omega) (fun c1 => ?_) (fun c1 => ?_)
  · refine lv_iconst (v := iI (-1)) hx hb d_Nodes_cell_24 rfl ?_
    exact mw_iret hx hb hr hM hS hlocks d_Nodes_cell_25 (mwR_i (by rw [nCell_out (by omega)]))
  · refine lv_iload_n hx hb d_Nodes_cell_4 rfl (lv_at hl 2 rfl) ?_
    refine lv_aload_n hx hb d_Nodes_cell_5 rfl (lv_at hl 0 rfl) ?_
    refine mw_get (ci := 1) (i := 6) (v := .int (iI cnt)) (C := R_Nodes) (T := T_Nodes) (N := 9) hx hb hts in_Nodes hown hK hM hN.1 rfl rfl 8 (by decide) (hts _ m_139) rfl d_Nodes_cell_6 ?_
    refine ia_icmp_ge (a := x) (b := cnt) (tgt := 24) hx hb d_Nodes_cell_9 (by decide) (by omega) (by omega) (fun c2 => ?_) (fun c2 => ?_)
    · refine lv_iconst (v := iI (-1)) hx hb d_Nodes_cell_24 rfl ?_
      exact mw_iret hx hb hr hM hS hlocks d_Nodes_cell_25 (mwR_i (by rw [nCell_out (by omega)]))
    · refine lv_iload_n hx hb d_Nodes_cell_12 rfl (lv_at hl 2 rfl) ?_
      refine lv_aload_n hx hb d_Nodes_cell_13 rfl (lv_at hl 1 rfl) ?_
      refine mw_alen (i := 7 + co) hx hb hK hM 1 (hN.2.1 co hco) rfl rfl d_Nodes_cell_14 ?_
      refine ia_icmp_ge (a := x) (b := 700) (tgt := 24) hx hb d_Nodes_cell_15 (by decide) (by omega) (by omega) (fun c3 => ?_) (fun c3 => ?_)
      · refine lv_iconst (v := iI (-1)) hx hb d_Nodes_cell_24 rfl ?_
        exact mw_iret hx hb hr hM hS hlocks d_Nodes_cell_25 (mwR_i (by rw [nCell_out (by omega)]))
      · refine lv_aload_n hx hb d_Nodes_cell_18 rfl (lv_at hl 1 rfl) ?_
        refine lv_iload_n hx hb d_Nodes_cell_19 rfl (lv_at hl 2 rfl) ?_
        refine mw_iald (a := x) (i := 7 + co) hx hb hK hM 1 (hN.2.1 co hco) rfl rfl (by omega) (by decide) d_Nodes_cell_20 ?_
        have r4 := hN.2.2.2.1 co (x : Int).toNat
        refine lv_goto (tgt := 25) hx hb d_Nodes_cell_21 (by decide) ?_
        exact mw_iret hx hb hr hM hS hlocks d_Nodes_cell_25 (mwR_i (by rw [nCell_in (by omega)]))
set_option maxHeartbeats 4000000 in
set_option maxRecDepth 100000 in
theorem c_Nodes_kind (l : Launch) (D : va_G) (g : Nat → ClassId) (lo : Nat) (L : Nat → Nat) (κ : Nat → Option va_E) (T : Nat → Nat → Int) (cnt d : Nat) (hN : nds g L κ T cnt d) (x : Int) (hx : -2147483648 ≤ x ∧ x < 2147483648) : Met l y_Nodes_kind w_Nodes_kind ({ frames := 1, cells := 0, slots := 0, locals := 22 }) (mwP D vwCl (tyL g) lo L κ [.ref (L 6), .int (iI x)]) (mwQ D vwCl lo (mwR (some (.int (iI (nCell T cnt 0 x)))) L κ)) 0 0 (fun q => lo ≤ q) := by
  have hc0 := hN.2.2.1
  refine Met.ofW (cc := b_Nodes_kind) (maxL := 2) (ret := (Option.some Jvm.ClassFile.FieldType.int)) (by decide) rfl ?_
  intro p e s m args below meth c s₁ B hml hpre
  obtain ⟨hargs, hM, hK⟩ := hpre
  have hx := B.exec
  have hb := B.bytes
  have hr := B.returns
  have hts : ∀ w ∈ wA, w.before args s = true := fun w h => atoms_spec (ws := w_Nodes_kind) B.pre w (List.mem_cons_of_mem _ h)
  have hown : s.vm.findClass R_Nodes = some m.cls := findClass_of_methodNamed B.named
  have hlocks := B.notSynchronized
  have hS : va_S (fun q => lo ≤ q) s.heap s.heap [] := va_S.rf
  obtain ⟨ls, hls, hl⟩ := mw_entry (m := m) [.ref (L 6), .int (iI x)] (n := 2) (Nat.le_of_ble_eq_true rfl) hargs
  refine W.eq hls ?_
  have hl : lv_has ls 2 [(0, .ref (L 6)), (1, .int (iI x))] := hl
  refine lv_aload_n hx hb d_Nodes_kind_0 rfl (lv_at hl 0 rfl) ?_
  refine lv_aload_n hx hb d_Nodes_kind_1 rfl (lv_at hl 0 rfl) ?_
  refine mw_get (ci := 1) (i := 6) (v := .ref (L 7)) (C := R_Nodes) (T := T_Nodes) (N := 9) hx hb hts in_Nodes hown hK hM hN.1 rfl rfl 0 (by decide) (hts _ m_131) rfl d_Nodes_kind_2 ?_
  refine lv_iload_n hx hb d_Nodes_kind_5 rfl (lv_at hl 1 rfl) ?_
  refine mw_rdV (i := 6) (As := [.ref (L 7), .int (iI x)]) (rest := []) ⟨hx, hb, hml, hown, hts⟩ hK hM hS rfl hN.1 rfl (c_Nodes_cell l D g lo L κ T cnt d hN 0 x (by decide) (by omega)) (cwV 2 hts (gV m_259 m_261 m_2 m_56 m_262) rfl rfl rfl (by decide +kernel) ⟨Nat.le_of_ble_eq_true rfl, Nat.le_of_ble_eq_true rfl⟩) rfl hl.1 rfl (Nat.le_of_ble_eq_true rfl) d_Nodes_kind_6 ⟨Nat.le_of_ble_eq_true rfl, Nat.le_of_ble_eq_true rfl⟩ (fun H locs hM hS => ?_)
  have r1 := nCell_r (cnt := cnt) hN.2.2.2.1 0 x
  exact mw_iret hx hb hr hM hS hlocks d_Nodes_kind_9 (mwR_i (by rfl))
set_option maxHeartbeats 4000000 in
set_option maxRecDepth 100000 in
theorem c_Nodes_parent (l : Launch) (D : va_G) (g : Nat → ClassId) (lo : Nat) (L : Nat → Nat) (κ : Nat → Option va_E) (T : Nat → Nat → Int) (cnt d : Nat) (hN : nds g L κ T cnt d) (x : Int) (hx : -2147483648 ≤ x ∧ x < 2147483648) : Met l y_Nodes_parent w_Nodes_parent ({ frames := 1, cells := 0, slots := 0, locals := 22 }) (mwP D vwCl (tyL g) lo L κ [.ref (L 6), .int (iI x)]) (mwQ D vwCl lo (mwR (some (.int (iI (nCell T cnt 1 x)))) L κ)) 0 0 (fun q => lo ≤ q) := by
  have hc0 := hN.2.2.1
  refine Met.ofW (cc := b_Nodes_parent) (maxL := 2) (ret := (Option.some Jvm.ClassFile.FieldType.int)) (by decide) rfl ?_
  intro p e s m args below meth c s₁ B hml hpre
  obtain ⟨hargs, hM, hK⟩ := hpre
  have hx := B.exec
  have hb := B.bytes
  have hr := B.returns
  have hts : ∀ w ∈ wA, w.before args s = true := fun w h => atoms_spec (ws := w_Nodes_parent) B.pre w (List.mem_cons_of_mem _ h)
  have hown : s.vm.findClass R_Nodes = some m.cls := findClass_of_methodNamed B.named
  have hlocks := B.notSynchronized
  have hS : va_S (fun q => lo ≤ q) s.heap s.heap [] := va_S.rf
  obtain ⟨ls, hls, hl⟩ := mw_entry (m := m) [.ref (L 6), .int (iI x)] (n := 2) (Nat.le_of_ble_eq_true rfl) hargs
  refine W.eq hls ?_
  have hl : lv_has ls 2 [(0, .ref (L 6)), (1, .int (iI x))] := hl
  refine lv_aload_n hx hb d_Nodes_parent_0 rfl (lv_at hl 0 rfl) ?_
  refine lv_aload_n hx hb d_Nodes_parent_1 rfl (lv_at hl 0 rfl) ?_
  refine mw_get (ci := 1) (i := 6) (v := .ref (L 8)) (C := R_Nodes) (T := T_Nodes) (N := 9) hx hb hts in_Nodes hown hK hM hN.1 rfl rfl 1 (by decide) (hts _ m_132) rfl d_Nodes_parent_2 ?_
  refine lv_iload_n hx hb d_Nodes_parent_5 rfl (lv_at hl 1 rfl) ?_
  refine mw_rdV (i := 6) (As := [.ref (L 8), .int (iI x)]) (rest := []) ⟨hx, hb, hml, hown, hts⟩ hK hM hS rfl hN.1 rfl (c_Nodes_cell l D g lo L κ T cnt d hN 1 x (by decide) (by omega)) (cwV 2 hts (gV m_259 m_261 m_2 m_56 m_262) rfl rfl rfl (by decide +kernel) ⟨Nat.le_of_ble_eq_true rfl, Nat.le_of_ble_eq_true rfl⟩) rfl hl.1 rfl (Nat.le_of_ble_eq_true rfl) d_Nodes_parent_6 ⟨Nat.le_of_ble_eq_true rfl, Nat.le_of_ble_eq_true rfl⟩ (fun H locs hM hS => ?_)
  have r1 := nCell_r (cnt := cnt) hN.2.2.2.1 1 x
  exact mw_iret hx hb hr hM hS hlocks d_Nodes_parent_9 (mwR_i (by rfl))
set_option maxHeartbeats 4000000 in
set_option maxRecDepth 100000 in
theorem c_Nodes_depth (l : Launch) (D : va_G) (g : Nat → ClassId) (lo : Nat) (L : Nat → Nat) (κ : Nat → Option va_E) (T : Nat → Nat → Int) (cnt d : Nat) (hN : nds g L κ T cnt d) (x : Int) (hx : -2147483648 ≤ x ∧ x < 2147483648) : Met l y_Nodes_depth w_Nodes_depth ({ frames := 1, cells := 0, slots := 0, locals := 22 }) (mwP D vwCl (tyL g) lo L κ [.ref (L 6), .int (iI x)]) (mwQ D vwCl lo (mwR (some (.int (iI (nCell T cnt 2 x)))) L κ)) 0 0 (fun q => lo ≤ q) := by
  have hc0 := hN.2.2.1
  refine Met.ofW (cc := b_Nodes_depth) (maxL := 2) (ret := (Option.some Jvm.ClassFile.FieldType.int)) (by decide) rfl ?_
  intro p e s m args below meth c s₁ B hml hpre
  obtain ⟨hargs, hM, hK⟩ := hpre
  have hx := B.exec
  have hb := B.bytes
  have hr := B.returns
  have hts : ∀ w ∈ wA, w.before args s = true := fun w h => atoms_spec (ws := w_Nodes_depth) B.pre w (List.mem_cons_of_mem _ h)
  have hown : s.vm.findClass R_Nodes = some m.cls := findClass_of_methodNamed B.named
  have hlocks := B.notSynchronized
  have hS : va_S (fun q => lo ≤ q) s.heap s.heap [] := va_S.rf
  obtain ⟨ls, hls, hl⟩ := mw_entry (m := m) [.ref (L 6), .int (iI x)] (n := 2) (Nat.le_of_ble_eq_true rfl) hargs
  refine W.eq hls ?_
  have hl : lv_has ls 2 [(0, .ref (L 6)), (1, .int (iI x))] := hl
  refine lv_aload_n hx hb d_Nodes_depth_0 rfl (lv_at hl 0 rfl) ?_
  refine lv_aload_n hx hb d_Nodes_depth_1 rfl (lv_at hl 0 rfl) ?_
  refine mw_get (ci := 1) (i := 6) (v := .ref (L 9)) (C := R_Nodes) (T := T_Nodes) (N := 9) hx hb hts in_Nodes hown hK hM hN.1 rfl rfl 2 (by decide) (hts _ m_133) rfl d_Nodes_depth_2 ?_
  refine lv_iload_n hx hb d_Nodes_depth_5 rfl (lv_at hl 1 rfl) ?_
  refine mw_rdV (i := 6) (As := [.ref (L 9), .int (iI x)]) (rest := []) ⟨hx, hb, hml, hown, hts⟩ hK hM hS rfl hN.1 rfl (c_Nodes_cell l D g lo L κ T cnt d hN 2 x (by decide) (by omega)) (cwV 2 hts (gV m_259 m_261 m_2 m_56 m_262) rfl rfl rfl (by decide +kernel) ⟨Nat.le_of_ble_eq_true rfl, Nat.le_of_ble_eq_true rfl⟩) rfl hl.1 rfl (Nat.le_of_ble_eq_true rfl) d_Nodes_depth_6 ⟨Nat.le_of_ble_eq_true rfl, Nat.le_of_ble_eq_true rfl⟩ (fun H locs hM hS => ?_)
  have r1 := nCell_r (cnt := cnt) hN.2.2.2.1 2 x
  exact mw_iret hx hb hr hM hS hlocks d_Nodes_depth_9 (mwR_i (by rfl))
set_option maxHeartbeats 4000000 in
set_option maxRecDepth 100000 in
theorem c_Nodes_name (l : Launch) (D : va_G) (g : Nat → ClassId) (lo : Nat) (L : Nat → Nat) (κ : Nat → Option va_E) (T : Nat → Nat → Int) (cnt d : Nat) (hN : nds g L κ T cnt d) (x : Int) (hx : -2147483648 ≤ x ∧ x < 2147483648) : Met l y_Nodes_name w_Nodes_name ({ frames := 1, cells := 0, slots := 0, locals := 22 }) (mwP D vwCl (tyL g) lo L κ [.ref (L 6), .int (iI x)]) (mwQ D vwCl lo (mwR (some (.int (iI (nCell T cnt 3 x)))) L κ)) 0 0 (fun q => lo ≤ q) := by
  have hc0 := hN.2.2.1
  refine Met.ofW (cc := b_Nodes_name) (maxL := 2) (ret := (Option.some Jvm.ClassFile.FieldType.int)) (by decide) rfl ?_
  intro p e s m args below meth c s₁ B hml hpre
  obtain ⟨hargs, hM, hK⟩ := hpre
  have hx := B.exec
  have hb := B.bytes
  have hr := B.returns
  have hts : ∀ w ∈ wA, w.before args s = true := fun w h => atoms_spec (ws := w_Nodes_name) B.pre w (List.mem_cons_of_mem _ h)
  have hown : s.vm.findClass R_Nodes = some m.cls := findClass_of_methodNamed B.named
  have hlocks := B.notSynchronized
  have hS : va_S (fun q => lo ≤ q) s.heap s.heap [] := va_S.rf
  obtain ⟨ls, hls, hl⟩ := mw_entry (m := m) [.ref (L 6), .int (iI x)] (n := 2) (Nat.le_of_ble_eq_true rfl) hargs
  refine W.eq hls ?_
  have hl : lv_has ls 2 [(0, .ref (L 6)), (1, .int (iI x))] := hl
  refine lv_aload_n hx hb d_Nodes_name_0 rfl (lv_at hl 0 rfl) ?_
  refine lv_aload_n hx hb d_Nodes_name_1 rfl (lv_at hl 0 rfl) ?_
  refine mw_get (ci := 1) (i := 6) (v := .ref (L 10)) (C := R_Nodes) (T := T_Nodes) (N := 9) hx hb hts in_Nodes hown hK hM hN.1 rfl rfl 3 (by decide) (hts _ m_134) rfl d_Nodes_name_2 ?_
  refine lv_iload_n hx hb d_Nodes_name_5 rfl (lv_at hl 1 rfl) ?_
  refine mw_rdV (i := 6) (As := [.ref (L 10), .int (iI x)]) (rest := []) ⟨hx, hb, hml, hown, hts⟩ hK hM hS rfl hN.1 rfl (c_Nodes_cell l D g lo L κ T cnt d hN 3 x (by decide) (by omega)) (cwV 2 hts (gV m_259 m_261 m_2 m_56 m_262) rfl rfl rfl (by decide +kernel) ⟨Nat.le_of_ble_eq_true rfl, Nat.le_of_ble_eq_true rfl⟩) rfl hl.1 rfl (Nat.le_of_ble_eq_true rfl) d_Nodes_name_6 ⟨Nat.le_of_ble_eq_true rfl, Nat.le_of_ble_eq_true rfl⟩ (fun H locs hM hS => ?_)
  have r1 := nCell_r (cnt := cnt) hN.2.2.2.1 3 x
  exact mw_iret hx hb hr hM hS hlocks d_Nodes_name_9 (mwR_i (by rfl))
set_option maxHeartbeats 4000000 in
set_option maxRecDepth 100000 in
theorem c_Nodes_value (l : Launch) (D : va_G) (g : Nat → ClassId) (lo : Nat) (L : Nat → Nat) (κ : Nat → Option va_E) (T : Nat → Nat → Int) (cnt d : Nat) (hN : nds g L κ T cnt d) (x : Int) (hx : -2147483648 ≤ x ∧ x < 2147483648) : Met l y_Nodes_value w_Nodes_value ({ frames := 1, cells := 0, slots := 0, locals := 22 }) (mwP D vwCl (tyL g) lo L κ [.ref (L 6), .int (iI x)]) (mwQ D vwCl lo (mwR (some (.int (iI (nCell T cnt 4 x)))) L κ)) 0 0 (fun q => lo ≤ q) := by
  have hc0 := hN.2.2.1
  refine Met.ofW (cc := b_Nodes_value) (maxL := 2) (ret := (Option.some Jvm.ClassFile.FieldType.int)) (by decide) rfl ?_
  intro p e s m args below meth c s₁ B hml hpre
  obtain ⟨hargs, hM, hK⟩ := hpre
  have hx := B.exec
  have hb := B.bytes
  have hr := B.returns
  have hts : ∀ w ∈ wA, w.before args s = true := fun w h => atoms_spec (ws := w_Nodes_value) B.pre w (List.mem_cons_of_mem _ h)
  have hown : s.vm.findClass R_Nodes = some m.cls := findClass_of_methodNamed B.named
  have hlocks := B.notSynchronized
  have hS : va_S (fun q => lo ≤ q) s.heap s.heap [] := va_S.rf
  obtain ⟨ls, hls, hl⟩ := mw_entry (m := m) [.ref (L 6), .int (iI x)] (n := 2) (Nat.le_of_ble_eq_true rfl) hargs
  refine W.eq hls ?_
  have hl : lv_has ls 2 [(0, .ref (L 6)), (1, .int (iI x))] := hl
  refine lv_aload_n hx hb d_Nodes_value_0 rfl (lv_at hl 0 rfl) ?_
  refine lv_aload_n hx hb d_Nodes_value_1 rfl (lv_at hl 0 rfl) ?_
  refine mw_get (ci := 1) (i := 6) (v := .ref (L 11)) (C := R_Nodes) (T := T_Nodes) (N := 9) hx hb hts in_Nodes hown hK hM hN.1 rfl rfl 4 (by decide) (hts _ m_135) rfl d_Nodes_value_2 ?_
  refine lv_iload_n hx hb d_Nodes_value_5 rfl (lv_at hl 1 rfl) ?_
  refine mw_rdV (i := 6) (As := [.ref (L 11), .int (iI x)]) (rest := []) ⟨hx, hb, hml, hown, hts⟩ hK hM hS rfl hN.1 rfl (c_Nodes_cell l D g lo L κ T cnt d hN 4 x (by decide) (by omega)) (cwV 2 hts (gV m_259 m_261 m_2 m_56 m_262) rfl rfl rfl (by decide +kernel) ⟨Nat.le_of_ble_eq_true rfl, Nat.le_of_ble_eq_true rfl⟩) rfl hl.1 rfl (Nat.le_of_ble_eq_true rfl) d_Nodes_value_6 ⟨Nat.le_of_ble_eq_true rfl, Nat.le_of_ble_eq_true rfl⟩ (fun H locs hM hS => ?_)
  have r1 := nCell_r (cnt := cnt) hN.2.2.2.1 4 x
  exact mw_iret hx hb hr hM hS hlocks d_Nodes_value_9 (mwR_i (by rfl))
set_option maxHeartbeats 4000000 in
set_option maxRecDepth 100000 in
theorem c_Nodes_valueLength (l : Launch) (D : va_G) (g : Nat → ClassId) (lo : Nat) (L : Nat → Nat) (κ : Nat → Option va_E) (T : Nat → Nat → Int) (cnt d : Nat) (hN : nds g L κ T cnt d) (x : Int) (hx : -2147483648 ≤ x ∧ x < 2147483648) : Met l y_Nodes_valueLength w_Nodes_valueLength ({ frames := 1, cells := 0, slots := 0, locals := 22 }) (mwP D vwCl (tyL g) lo L κ [.ref (L 6), .int (iI x)]) (mwQ D vwCl lo (mwR (some (.int (iI (nCell T cnt 5 x)))) L κ)) 0 0 (fun q => lo ≤ q) := by
  have hc0 := hN.2.2.1
  refine Met.ofW (cc := b_Nodes_valueLength) (maxL := 2) (ret := (Option.some Jvm.ClassFile.FieldType.int)) (by decide) rfl ?_
  intro p e s m args below meth c s₁ B hml hpre
  obtain ⟨hargs, hM, hK⟩ := hpre
  have hx := B.exec
  have hb := B.bytes
  have hr := B.returns
  have hts : ∀ w ∈ wA, w.before args s = true := fun w h => atoms_spec (ws := w_Nodes_valueLength) B.pre w (List.mem_cons_of_mem _ h)
  have hown : s.vm.findClass R_Nodes = some m.cls := findClass_of_methodNamed B.named
  have hlocks := B.notSynchronized
  have hS : va_S (fun q => lo ≤ q) s.heap s.heap [] := va_S.rf
  obtain ⟨ls, hls, hl⟩ := mw_entry (m := m) [.ref (L 6), .int (iI x)] (n := 2) (Nat.le_of_ble_eq_true rfl) hargs
  refine W.eq hls ?_
  have hl : lv_has ls 2 [(0, .ref (L 6)), (1, .int (iI x))] := hl
  refine lv_aload_n hx hb d_Nodes_valueLength_0 rfl (lv_at hl 0 rfl) ?_
  refine lv_aload_n hx hb d_Nodes_valueLength_1 rfl (lv_at hl 0 rfl) ?_
  refine mw_get (ci := 1) (i := 6) (v := .ref (L 12)) (C := R_Nodes) (T := T_Nodes) (N := 9) hx hb hts in_Nodes hown hK hM hN.1 rfl rfl 5 (by decide) (hts _ m_136) rfl d_Nodes_valueLength_2 ?_
  refine lv_iload_n hx hb d_Nodes_valueLength_5 rfl (lv_at hl 1 rfl) ?_
  refine mw_rdV (i := 6) (As := [.ref (L 12), .int (iI x)]) (rest := []) ⟨hx, hb, hml, hown, hts⟩ hK hM hS rfl hN.1 rfl (c_Nodes_cell l D g lo L κ T cnt d hN 5 x (by decide) (by omega)) (cwV 2 hts (gV m_259 m_261 m_2 m_56 m_262) rfl rfl rfl (by decide +kernel) ⟨Nat.le_of_ble_eq_true rfl, Nat.le_of_ble_eq_true rfl⟩) rfl hl.1 rfl (Nat.le_of_ble_eq_true rfl) d_Nodes_valueLength_6 ⟨Nat.le_of_ble_eq_true rfl, Nat.le_of_ble_eq_true rfl⟩ (fun H locs hM hS => ?_)
  have r1 := nCell_r (cnt := cnt) hN.2.2.2.1 5 x
  exact mw_iret hx hb hr hM hS hlocks d_Nodes_valueLength_9 (mwR_i (by rfl))
set_option maxHeartbeats 4000000 in
set_option maxRecDepth 100000 in
theorem c_Nodes_elements (l : Launch) (D : va_G) (g : Nat → ClassId) (lo : Nat) (L : Nat → Nat) (κ : Nat → Option va_E) (T : Nat → Nat → Int) (cnt d : Nat) (hN : nds g L κ T cnt d) (x : Int) (hx : -2147483648 ≤ x ∧ x < 2147483648) : Met l y_Nodes_elements w_Nodes_elements ({ frames := 1, cells := 0, slots := 0, locals := 22 }) (mwP D vwCl (tyL g) lo L κ [.ref (L 6), .int (iI x)]) (mwQ D vwCl lo (mwR (some (.int (iI (nCell T cnt 6 x)))) L κ)) 0 0 (fun q => lo ≤ q) := by
  have hc0 := hN.2.2.1
  refine Met.ofW (cc := b_Nodes_elements) (maxL := 2) (ret := (Option.some Jvm.ClassFile.FieldType.int)) (by decide) rfl ?_
  intro p e s m args below meth c s₁ B hml hpre
  obtain ⟨hargs, hM, hK⟩ := hpre
  have hx := B.exec
  have hb := B.bytes
  have hr := B.returns
  have hts : ∀ w ∈ wA, w.before args s = true := fun w h => atoms_spec (ws := w_Nodes_elements) B.pre w (List.mem_cons_of_mem _ h)
  have hown : s.vm.findClass R_Nodes = some m.cls := findClass_of_methodNamed B.named
  have hlocks := B.notSynchronized
  have hS : va_S (fun q => lo ≤ q) s.heap s.heap [] := va_S.rf
  obtain ⟨ls, hls, hl⟩ := mw_entry (m := m) [.ref (L 6), .int (iI x)] (n := 2) (Nat.le_of_ble_eq_true rfl) hargs
  refine W.eq hls ?_
  have hl : lv_has ls 2 [(0, .ref (L 6)), (1, .int (iI x))] := hl
  refine lv_aload_n hx hb d_Nodes_elements_0 rfl (lv_at hl 0 rfl) ?_
  refine lv_aload_n hx hb d_Nodes_elements_1 rfl (lv_at hl 0 rfl) ?_
  refine mw_get (ci := 1) (i := 6) (v := .ref (L 13)) (C := R_Nodes) (T := T_Nodes) (N := 9) hx hb hts in_Nodes hown hK hM hN.1 rfl rfl 6 (by decide) (hts _ m_137) rfl d_Nodes_elements_2 ?_
  refine lv_iload_n hx hb d_Nodes_elements_5 rfl (lv_at hl 1 rfl) ?_
  refine mw_rdV (i := 6) (As := [.ref (L 13), .int (iI x)]) (rest := []) ⟨hx, hb, hml, hown, hts⟩ hK hM hS rfl hN.1 rfl (c_Nodes_cell l D g lo L κ T cnt d hN 6 x (by decide) (by omega)) (cwV 2 hts (gV m_259 m_261 m_2 m_56 m_262) rfl rfl rfl (by decide +kernel) ⟨Nat.le_of_ble_eq_true rfl, Nat.le_of_ble_eq_true rfl⟩) rfl hl.1 rfl (Nat.le_of_ble_eq_true rfl) d_Nodes_elements_6 ⟨Nat.le_of_ble_eq_true rfl, Nat.le_of_ble_eq_true rfl⟩ (fun H locs hM hS => ?_)
  have r1 := nCell_r (cnt := cnt) hN.2.2.2.1 6 x
  exact mw_iret hx hb hr hM hS hlocks d_Nodes_elements_9 (mwR_i (by rfl))
set_option maxHeartbeats 4000000 in
set_option maxRecDepth 100000 in
theorem c_Nodes_nameLength (l : Launch) (D : va_G) (g : Nat → ClassId) (lo : Nat) (L : Nat → Nat) (κ : Nat → Option va_E) (T : Nat → Nat → Int) (cnt d : Nat) (hN : nds g L κ T cnt d) (x : Int) (hx : -2147483648 ≤ x ∧ x < 2147483648) : Met l y_Nodes_nameLength w_Nodes_nameLength ({ frames := 1, cells := 0, slots := 0, locals := 22 }) (mwP D vwCl (tyL g) lo L κ [.ref (L 6), .int (iI x)]) (mwQ D vwCl lo (mwR (some (.int (iI (nNameLen T cnt x)))) L κ)) 0 0 (fun q => lo ≤ q) := by
  have hc0 := hN.2.2.1
  refine Met.ofW (cc := b_Nodes_nameLength) (maxL := 2) (ret := (Option.some Jvm.ClassFile.FieldType.int)) (by decide) rfl ?_
  intro p e s m args below meth c s₁ B hml hpre
  obtain ⟨hargs, hM, hK⟩ := hpre
  have hx := B.exec
  have hb := B.bytes
  have hr := B.returns
  have hts : ∀ w ∈ wA, w.before args s = true := fun w h => atoms_spec (ws := w_Nodes_nameLength) B.pre w (List.mem_cons_of_mem _ h)
  have hown : s.vm.findClass R_Nodes = some m.cls := findClass_of_methodNamed B.named
  have hlocks := B.notSynchronized
  have hS : va_S (fun q => lo ≤ q) s.heap s.heap [] := va_S.rf
  obtain ⟨ls, hls, hl⟩ := mw_entry (m := m) [.ref (L 6), .int (iI x)] (n := 2) (Nat.le_of_ble_eq_true rfl) hargs
  refine W.eq hls ?_
  have hl : lv_has ls 2 [(0, .ref (L 6)), (1, .int (iI x))] := hl
  refine lv_aload_n hx hb d_Nodes_nameLength_0 rfl (lv_at hl 0 rfl) ?_
  refine lv_aload_n hx hb d_Nodes_nameLength_1 rfl (lv_at hl 0 rfl) ?_
  refine mw_get (ci := 1) (i := 6) (v := .ref (L 11)) (C := R_Nodes) (T := T_Nodes) (N := 9) hx hb hts in_Nodes hown hK hM hN.1 rfl rfl 4 (by decide) (hts _ m_135) rfl d_Nodes_nameLength_2 ?_
  refine lv_iload_n hx hb d_Nodes_nameLength_5 rfl (lv_at hl 1 rfl) ?_
  refine mw_rdV (i := 6) (As := [.ref (L 11), .int (iI x)]) (rest := []) ⟨hx, hb, hml, hown, hts⟩ hK hM hS rfl hN.1 rfl (c_Nodes_cell l D g lo L κ T cnt d hN 4 x (by decide) (by omega)) (cwV 2 hts (gV m_259 m_261 m_2 m_56 m_262) rfl rfl rfl (by decide +kernel) ⟨Nat.le_of_ble_eq_true rfl, Nat.le_of_ble_eq_true rfl⟩) rfl hl.1 rfl (Nat.le_of_ble_eq_true rfl) d_Nodes_nameLength_6 ⟨Nat.le_of_ble_eq_true rfl, Nat.le_of_ble_eq_true rfl⟩ (fun H locs hM hS => ?_)
  have r1 := nCell_r (cnt := cnt) hN.2.2.2.1 4 x
  refine lv_iconst (v := iI (1)) hx hb d_Nodes_nameLength_9 rfl ?_
  refine ia_sub hx hb d_Nodes_nameLength_10 ?_
  refine lv_aload_n hx hb d_Nodes_nameLength_11 rfl (lv_at hl 0 rfl) ?_
  refine lv_aload_n hx hb d_Nodes_nameLength_12 rfl (lv_at hl 0 rfl) ?_
  refine mw_get (ci := 1) (i := 6) (v := .ref (L 10)) (C := R_Nodes) (T := T_Nodes) (N := 9) hx hb hts in_Nodes hown hK hM hN.1 rfl rfl 3 (by decide) (hts _ m_134) rfl d_Nodes_nameLength_13 ?_
  refine lv_iload_n hx hb d_Nodes_nameLength_16 rfl (lv_at hl 1 rfl) ?_
  refine mw_rdV (i := 6) (As := [.ref (L 10), .int (iI x)]) (rest := [.int (iI ((nCell T cnt 4 x) - 1))]) ⟨hx, hb, hml, hown, hts⟩ hK hM hS rfl hN.1 rfl (c_Nodes_cell l D g lo L κ T cnt d hN 3 x (by decide) (by omega)) (cwV 2 hts (gV m_259 m_261 m_2 m_56 m_262) rfl rfl rfl (by decide +kernel) ⟨Nat.le_of_ble_eq_true rfl, Nat.le_of_ble_eq_true rfl⟩) rfl hl.1 rfl (Nat.le_of_ble_eq_true rfl) d_Nodes_nameLength_17 ⟨Nat.le_of_ble_eq_true rfl, Nat.le_of_ble_eq_true rfl⟩ (fun H locs hM hS => ?_)
  have r2 := nCell_r (cnt := cnt) hN.2.2.2.1 3 x
  refine ia_sub hx hb d_Nodes_nameLength_20 ?_
  exact mw_iret hx hb hr hM hS hlocks d_Nodes_nameLength_21 (mwR_i (by rfl))
set_option maxHeartbeats 4000000 in
set_option maxRecDepth 100000 in
theorem c_Nodes_lastByte (l : Launch) (D : va_G) (g : Nat → ClassId) (lo : Nat) (L : Nat → Nat) (κ : Nat → Option va_E) (T : Nat → Nat → Int) (cnt d : Nat) (hN : nds g L κ T cnt d) (x : Int) (hx : -2147483648 ≤ x ∧ x < 2147483648) : Met l y_Nodes_lastByte w_Nodes_lastByte ({ frames := 1, cells := 0, slots := 0, locals := 22 }) (mwP D vwCl (tyL g) lo L κ [.ref (L 6), .int (iI x)]) (mwQ D vwCl lo (mwR (some (.int (iI (nLast T cnt x)))) L κ)) 0 0 (fun q => lo ≤ q) := by
  have hc0 := hN.2.2.1
  refine Met.ofW (cc := b_Nodes_lastByte) (maxL := 2) (ret := (Option.some Jvm.ClassFile.FieldType.int)) (by decide) rfl ?_
  intro p e s m args below meth c s₁ B hml hpre
  obtain ⟨hargs, hM, hK⟩ := hpre
  have hx := B.exec
  have hb := B.bytes
  have hr := B.returns
  have hts : ∀ w ∈ wA, w.before args s = true := fun w h => atoms_spec (ws := w_Nodes_lastByte) B.pre w (List.mem_cons_of_mem _ h)
  have hown : s.vm.findClass R_Nodes = some m.cls := findClass_of_methodNamed B.named
  have hlocks := B.notSynchronized
  have hS : va_S (fun q => lo ≤ q) s.heap s.heap [] := va_S.rf
  obtain ⟨ls, hls, hl⟩ := mw_entry (m := m) [.ref (L 6), .int (iI x)] (n := 2) (Nat.le_of_ble_eq_true rfl) hargs
  refine W.eq hls ?_
  have hl : lv_has ls 2 [(0, .ref (L 6)), (1, .int (iI x))] := hl
  refine lv_aload_n hx hb d_Nodes_lastByte_0 rfl (lv_at hl 0 rfl) ?_
  refine lv_aload_n hx hb d_Nodes_lastByte_1 rfl (lv_at hl 0 rfl) ?_
  refine mw_get (ci := 1) (i := 6) (v := .ref (L 11)) (C := R_Nodes) (T := T_Nodes) (N := 9) hx hb hts in_Nodes hown hK hM hN.1 rfl rfl 4 (by decide) (hts _ m_135) rfl d_Nodes_lastByte_2 ?_
  refine lv_iload_n hx hb d_Nodes_lastByte_5 rfl (lv_at hl 1 rfl) ?_
  refine mw_rdV (i := 6) (As := [.ref (L 11), .int (iI x)]) (rest := []) ⟨hx, hb, hml, hown, hts⟩ hK hM hS rfl hN.1 rfl (c_Nodes_cell l D g lo L κ T cnt d hN 4 x (by decide) (by omega)) (cwV 2 hts (gV m_259 m_261 m_2 m_56 m_262) rfl rfl rfl (by decide +kernel) ⟨Nat.le_of_ble_eq_true rfl, Nat.le_of_ble_eq_true rfl⟩) rfl hl.1 rfl (Nat.le_of_ble_eq_true rfl) d_Nodes_lastByte_6 ⟨Nat.le_of_ble_eq_true rfl, Nat.le_of_ble_eq_true rfl⟩ (fun H locs hM hS => ?_)
  have r1 := nCell_r (cnt := cnt) hN.2.2.2.1 4 x
  refine lv_aload_n hx hb d_Nodes_lastByte_9 rfl (lv_at hl 0 rfl) ?_
  refine lv_aload_n hx hb d_Nodes_lastByte_10 rfl (lv_at hl 0 rfl) ?_
  refine mw_get (ci := 1) (i := 6) (v := .ref (L 12)) (C := R_Nodes) (T := T_Nodes) (N := 9) hx hb hts in_Nodes hown hK hM hN.1 rfl rfl 5 (by decide) (hts _ m_136) rfl d_Nodes_lastByte_11 ?_
  refine lv_iload_n hx hb d_Nodes_lastByte_14 rfl (lv_at hl 1 rfl) ?_
  refine mw_rdV (i := 6) (As := [.ref (L 12), .int (iI x)]) (rest := [.int (iI (nCell T cnt 4 x))]) ⟨hx, hb, hml, hown, hts⟩ hK hM hS rfl hN.1 rfl (c_Nodes_cell l D g lo L κ T cnt d hN 5 x (by decide) (by omega)) (cwV 2 hts (gV m_259 m_261 m_2 m_56 m_262) rfl rfl rfl (by decide +kernel) ⟨Nat.le_of_ble_eq_true rfl, Nat.le_of_ble_eq_true rfl⟩) rfl hl.1 rfl (Nat.le_of_ble_eq_true rfl) d_Nodes_lastByte_15 ⟨Nat.le_of_ble_eq_true rfl, Nat.le_of_ble_eq_true rfl⟩ (fun H locs hM hS => ?_)
  have r2 := nCell_r (cnt := cnt) hN.2.2.2.1 5 x
  refine ia_add hx hb d_Nodes_lastByte_18 ?_
  refine lv_iconst (v := iI (1)) hx hb d_Nodes_lastByte_19 rfl ?_
  refine ia_sub hx hb d_Nodes_lastByte_20 ?_
  exact mw_iret hx hb hr hM hS hlocks d_Nodes_lastByte_21 (mwR_i (by rfl))
set_option maxHeartbeats 4000000 in
set_option maxRecDepth 100000 in
theorem c_Nodes_textLength (l : Launch) (D : va_G) (g : Nat → ClassId) (lo : Nat) (L : Nat → Nat) (κ : Nat → Option va_E) (T : Nat → Nat → Int) (cnt d : Nat) (hN : nds g L κ T cnt d) (x : Int) (hx : -2147483648 ≤ x ∧ x < 2147483648) : Met l y_Nodes_textLength w_Nodes_textLength ({ frames := 1, cells := 0, slots := 0, locals := 22 }) (mwP D vwCl (tyL g) lo L κ [.ref (L 6), .int (iI x)]) (mwQ D vwCl lo (mwR (some (.int (iI (nTextLen T cnt x)))) L κ)) 0 0 (fun q => lo ≤ q) := by
  have hc0 := hN.2.2.1
  refine Met.ofW (cc := b_Nodes_textLength) (maxL := 2) (ret := (Option.some Jvm.ClassFile.FieldType.int)) (by decide) rfl ?_
  intro p e s m args below meth c s₁ B hml hpre
  obtain ⟨hargs, hM, hK⟩ := hpre
  have hx := B.exec
  have hb := B.bytes
  have hr := B.returns
  have hts : ∀ w ∈ wA, w.before args s = true := fun w h => atoms_spec (ws := w_Nodes_textLength) B.pre w (List.mem_cons_of_mem _ h)
  have hown : s.vm.findClass R_Nodes = some m.cls := findClass_of_methodNamed B.named
  have hlocks := B.notSynchronized
  have hS : va_S (fun q => lo ≤ q) s.heap s.heap [] := va_S.rf
  obtain ⟨ls, hls, hl⟩ := mw_entry (m := m) [.ref (L 6), .int (iI x)] (n := 2) (Nat.le_of_ble_eq_true rfl) hargs
  refine W.eq hls ?_
  have hl : lv_has ls 2 [(0, .ref (L 6)), (1, .int (iI x))] := hl
  refine lv_aload_n hx hb d_Nodes_textLength_0 rfl (lv_at hl 0 rfl) ?_
  refine lv_aload_n hx hb d_Nodes_textLength_1 rfl (lv_at hl 0 rfl) ?_
  refine mw_get (ci := 1) (i := 6) (v := .ref (L 7)) (C := R_Nodes) (T := T_Nodes) (N := 9) hx hb hts in_Nodes hown hK hM hN.1 rfl rfl 0 (by decide) (hts _ m_131) rfl d_Nodes_textLength_2 ?_
  refine lv_iload_n hx hb d_Nodes_textLength_5 rfl (lv_at hl 1 rfl) ?_
  refine mw_rdV (i := 6) (As := [.ref (L 7), .int (iI x)]) (rest := []) ⟨hx, hb, hml, hown, hts⟩ hK hM hS rfl hN.1 rfl (c_Nodes_cell l D g lo L κ T cnt d hN 0 x (by decide) (by omega)) (cwV 2 hts (gV m_259 m_261 m_2 m_56 m_262) rfl rfl rfl (by decide +kernel) ⟨Nat.le_of_ble_eq_true rfl, Nat.le_of_ble_eq_true rfl⟩) rfl hl.1 rfl (Nat.le_of_ble_eq_true rfl) d_Nodes_textLength_6 ⟨Nat.le_of_ble_eq_true rfl, Nat.le_of_ble_eq_true rfl⟩ (fun H locs hM hS => ?_)
  have r1 := nCell_r (cnt := cnt) hN.2.2.2.1 0 x
  refine lv_iconst (v := iI (2)) hx hb d_Nodes_textLength_9 rfl ?_
  refine ia_icmp_ne (a := nCell T cnt 0 x) (b := 2) (tgt := 27) hx hb d_Nodes_textLength_10 (by decide) (by omega) (by omega) (fun c2 => ?_) (fun c2 => ?_)
  · refine lv_iconst (v := iI (0)) hx hb d_Nodes_textLength_27 rfl ?_
    exact mw_iret hx hb hr hM hS hlocks d_Nodes_textLength_28 (mwR_i (by unfold nTextLen; rw [if_neg (by omega)]))
  · refine lv_aload_n hx hb d_Nodes_textLength_13 rfl (lv_at hl 0 rfl) ?_
    refine lv_aload_n hx hb d_Nodes_textLength_14 rfl (lv_at hl 0 rfl) ?_
    refine mw_get (ci := 1) (i := 6) (v := .ref (L 12)) (C := R_Nodes) (T := T_Nodes) (N := 9) hx hb hts in_Nodes hown hK hM hN.1 rfl rfl 5 (by decide) (hts _ m_136) rfl d_Nodes_textLength_15 ?_
    refine lv_iload_n hx hb d_Nodes_textLength_18 rfl (lv_at hl 1 rfl) ?_
    refine mw_rdV (i := 6) (As := [.ref (L 12), .int (iI x)]) (rest := []) ⟨hx, hb, hml, hown, hts⟩ hK hM hS rfl hN.1 rfl (c_Nodes_cell l D g lo L κ T cnt d hN 5 x (by decide) (by omega)) (cwV 2 hts (gV m_259 m_261 m_2 m_56 m_262) rfl rfl rfl (by decide +kernel) ⟨Nat.le_of_ble_eq_true rfl, Nat.le_of_ble_eq_true rfl⟩) rfl hl.1 rfl (Nat.le_of_ble_eq_true rfl) d_Nodes_textLength_19 ⟨Nat.le_of_ble_eq_true rfl, Nat.le_of_ble_eq_true rfl⟩ (fun H locs hM hS => ?_)
    have r3 := nCell_r (cnt := cnt) hN.2.2.2.1 5 x
    refine lv_iconst (v := iI (5)) hx hb d_Nodes_textLength_22 rfl ?_
    refine ia_sub hx hb d_Nodes_textLength_23 ?_
    refine lv_goto (tgt := 28) hx hb d_Nodes_textLength_24 (by decide) ?_
    exact mw_iret hx hb hr hM hS hlocks d_Nodes_textLength_28 (mwR_i (by unfold nTextLen; rw [if_pos (by omega)]))
set_option maxHeartbeats 4000000 in
set_option maxRecDepth 100000 in
theorem c_Nodes_behind (l : Launch) (D : va_G) (g : Nat → ClassId) (lo : Nat) (L : Nat → Nat) (κ : Nat → Option va_E) (T : Nat → Nat → Int) (cnt d : Nat) (hN : nds g L κ T cnt d) (x : Int) (hx0 : -1 ≤ x ∧ x ≤ 1000000) : Met l y_Nodes_behind w_Nodes_behind ({ frames := 1, cells := 0, slots := 0, locals := 22 }) (mwP D vwCl (tyL g) lo L κ [.ref (L 6), .int (iI x)]) (mwQ D vwCl lo (mwR (some (.int (iI (nBeh T cnt x)))) L κ)) 0 0 (fun q => lo ≤ q) := by
  have hc0 := hN.2.2.1
  refine Met.ofW (cc := b_Nodes_behind) (maxL := 3) (ret := (Option.some Jvm.ClassFile.FieldType.int)) (by decide) rfl ?_
  intro p e s m args below meth c s₁ B hml hpre
  obtain ⟨hargs, hM, hK⟩ := hpre
  have hx := B.exec
  have hb := B.bytes
  have hr := B.returns
  have hts : ∀ w ∈ wA, w.before args s = true := fun w h => atoms_spec (ws := w_Nodes_behind) B.pre w (List.mem_cons_of_mem _ h)
  have hown : s.vm.findClass R_Nodes = some m.cls := findClass_of_methodNamed B.named
  have hlocks := B.notSynchronized
  have hS : va_S (fun q => lo ≤ q) s.heap s.heap [] := va_S.rf
  have loop4 : ∀ (N : Nat) (k : Int), (cnt - k).toNat < N → (0 ≤ k ∧ k ≤ 1000001) → (nBeh T cnt x = nBehF T cnt x k) → ∀ (H : Heap) (locs : List Loc) (ls : Array Slot), mw D vwCl lo L κ H → va_S (fun q => lo ≤ q) s.heap H locs → lv_has ls 3 [(2, .int (iI k)), (0, .ref (L 6)), (1, .int (iI x))] → W p l e (headSpec w_Nodes_behind ({ frames := 1, cells := 0, slots := 0, locals := 22 })).room s m args below meth c H locs 0 0 (MQ below (mwQ D vwCl lo (mwR (some (.int (iI (nBeh T cnt x)))) L κ)) args s 0 0 (fun q => lo ≤ q)) (F0 m 4 ls []) := by
    intro N
    induction N with
    | zero => intro k hms; exact absurd hms (Nat.not_lt_zero _)
    | succ N ih =>
      intro k hms hk hres H locs ls hM hS hl
      refine lv_iload_n hx hb d_Nodes_behind_4 rfl (lv_at hl 0 rfl) ?_
      refine lv_aload_n hx hb d_Nodes_behind_5 rfl (lv_at hl 1 rfl) ?_
      refine mw_get (ci := 1) (i := 6) (v := .int (iI cnt)) (C := R_Nodes) (T := T_Nodes) (N := 9) hx hb hts in_Nodes hown hK hM hN.1 rfl rfl 8 (by decide) (hts _ m_139) rfl d_Nodes_behind_6 ?_
      refine ia_icmp_ge (a := k) (b := cnt) (tgt := 33) hx hb d_Nodes_behind_9 (by decide) (by omega) (by omega) (fun c1 => ?_) (fun c1 => ?_)
      · refine lv_aload_n hx hb d_Nodes_behind_33 rfl (lv_at hl 1 rfl) ?_
        refine mw_get (ci := 1) (i := 6) (v := .int (iI cnt)) (C := R_Nodes) (T := T_Nodes) (N := 9) hx hb hts in_Nodes hown hK hM hN.1 rfl rfl 8 (by decide) (hts _ m_139) rfl d_Nodes_behind_34 ?_
        exact mw_iret hx hb hr hM hS hlocks d_Nodes_behind_37 (mwR_i (by rw [hres, nBehF_end (by omega)]))
      · refine lv_aload_n hx hb d_Nodes_behind_12 rfl (lv_at hl 1 rfl) ?_
        refine lv_aload_n hx hb d_Nodes_behind_13 rfl (lv_at hl 1 rfl) ?_
        refine mw_get (ci := 1) (i := 6) (v := .ref (L 8)) (C := R_Nodes) (T := T_Nodes) (N := 9) hx hb hts in_Nodes hown hK hM hN.1 rfl rfl 1 (by decide) (hts _ m_132) rfl d_Nodes_behind_14 ?_
        refine lv_iload_n hx hb d_Nodes_behind_17 rfl (lv_at hl 0 rfl) ?_
        refine mw_rdV (i := 6) (As := [.ref (L 8), .int (iI k)]) (rest := []) ⟨hx, hb, hml, hown, hts⟩ hK hM hS rfl hN.1 rfl (c_Nodes_cell l D g lo L κ T cnt d hN 1 k (by decide) (by omega)) (cwV 2 hts (gV m_259 m_261 m_2 m_56 m_262) rfl rfl rfl (by decide +kernel) ⟨Nat.le_of_ble_eq_true rfl, Nat.le_of_ble_eq_true rfl⟩) rfl hl.1 rfl (Nat.le_of_ble_eq_true rfl) d_Nodes_behind_18 ⟨Nat.le_of_ble_eq_true rfl, Nat.le_of_ble_eq_true rfl⟩ (fun H locs hM hS => ?_)
        have r2 := nCell_r (cnt := cnt) hN.2.2.2.1 1 k
        refine lv_iload_n hx hb d_Nodes_behind_21 rfl (lv_at hl 2 rfl) ?_
        refine ia_icmp_ge (a := nCell T cnt 1 k) (b := x) (tgt := 27) hx hb d_Nodes_behind_22 (by decide) (by omega) (by omega) (fun c3 => ?_) (fun c3 => ?_)
        · refine lv_iinc (v := iI (k + 1)) (lv' := [(2, .int (iI (k + 1))), (0, .ref (L 6)), (1, .int (iI x))]) hx hb d_Nodes_behind_27 hl (k := 0) rfl (iI_inc _ _) (by decide) rfl (fun ls hl => ?_)
          refine lv_goto (tgt := 4) hx hb d_Nodes_behind_30 (by decide) ?_
          exact ih (k + 1) (by omega) (by omega) (by rw [hres, nBehF_step (by omega), if_neg (by omega)]) _ _ ls hM hS (lv_sub hl [0, 1, 2] rfl)
        · refine lv_iload_n hx hb d_Nodes_behind_25 rfl (lv_at hl 0 rfl) ?_
          exact mw_iret hx hb hr hM hS hlocks d_Nodes_behind_26 (mwR_i (by rw [hres, nBehF_step (by omega), if_pos (by omega)]))
  obtain ⟨ls, hls, hl⟩ := mw_entry (m := m) [.ref (L 6), .int (iI x)] (n := 3) (Nat.le_of_ble_eq_true rfl) hargs
  refine W.eq hls ?_
  have hl : lv_has ls 3 [(0, .ref (L 6)), (1, .int (iI x))] := hl
  refine lv_iload_n hx hb d_Nodes_behind_0 rfl (lv_at hl 1 rfl) ?_
  refine lv_iconst (v := iI (1)) hx hb d_Nodes_behind_1 rfl ?_
  refine ia_add hx hb d_Nodes_behind_2 ?_
  refine lv_istore_n (lv' := [(2, .int (iI (x + 1))), (0, .ref (L 6)), (1, .int (iI x))]) hx hb d_Nodes_behind_3 rfl hl (by decide) rfl (fun ls hl => ?_)
  exact loop4 _ (x + 1) (Nat.lt_succ_self _) (by omega) rfl _ _ ls hM hS (lv_sub hl [0, 1, 2] rfl)
set_option maxHeartbeats 4000000 in
set_option maxRecDepth 100000 in
theorem c_Nodes_nextBeside (l : Launch) (D : va_G) (g : Nat → ClassId) (lo : Nat) (L : Nat → Nat) (κ : Nat → Option va_E) (T : Nat → Nat → Int) (cnt d : Nat) (hN : nds g L κ T cnt d) (x : Int) (hx0 : -1 ≤ x ∧ x ≤ 1000000) : Met l y_Nodes_nextBeside w_Nodes_nextBeside ({ frames := 2, cells := 0, slots := 0, locals := 44 }) (mwP D vwCl (tyL g) lo L κ [.ref (L 6), .int (iI x)]) (mwQ D vwCl lo (mwR (some (.int (iI (nNext T cnt x)))) L κ)) 0 0 (fun q => lo ≤ q) := by
  have hc0 := hN.2.2.1
  refine Met.ofW (cc := b_Nodes_nextBeside) (maxL := 3) (ret := (Option.some Jvm.ClassFile.FieldType.int)) (by decide) rfl ?_
  intro p e s m args below meth c s₁ B hml hpre
  obtain ⟨hargs, hM, hK⟩ := hpre
  have hx := B.exec
  have hb := B.bytes
  have hr := B.returns
  have hts : ∀ w ∈ wA, w.before args s = true := fun w h => atoms_spec (ws := w_Nodes_nextBeside) B.pre w (List.mem_cons_of_mem _ h)
  have hown : s.vm.findClass R_Nodes = some m.cls := findClass_of_methodNamed B.named
  have hlocks := B.notSynchronized
  have hS : va_S (fun q => lo ≤ q) s.heap s.heap [] := va_S.rf
  obtain ⟨ls, hls, hl⟩ := mw_entry (m := m) [.ref (L 6), .int (iI x)] (n := 3) (Nat.le_of_ble_eq_true rfl) hargs
  refine W.eq hls ?_
  have hl : lv_has ls 3 [(0, .ref (L 6)), (1, .int (iI x))] := hl
  refine lv_aload_n hx hb d_Nodes_nextBeside_0 rfl (lv_at hl 0 rfl) ?_
  refine lv_iload_n hx hb d_Nodes_nextBeside_1 rfl (lv_at hl 1 rfl) ?_
  refine mw_rdV (i := 6) (As := [.int (iI x)]) (rest := []) ⟨hx, hb, hml, hown, hts⟩ hK hM hS rfl hN.1 rfl (c_Nodes_behind l D g lo L κ T cnt d hN x (by omega)) (cwV 1 hts (gV m_405 m_406 m_407 m_56 m_408) rfl rfl rfl (by decide +kernel) ⟨Nat.le_of_ble_eq_true rfl, Nat.le_of_ble_eq_true rfl⟩) rfl hl.1 rfl (Nat.le_of_ble_eq_true rfl) d_Nodes_nextBeside_2 ⟨Nat.le_of_ble_eq_true rfl, Nat.le_of_ble_eq_true rfl⟩ (fun H locs hM hS => ?_)
  have r1 := nBeh_r T cnt x
  refine lv_istore_n (lv' := [(2, .int (iI (nBeh T cnt x))), (0, .ref (L 6)), (1, .int (iI x))]) hx hb d_Nodes_nextBeside_5 rfl hl (by decide) rfl (fun ls hl => ?_)
  refine lv_iload_n hx hb d_Nodes_nextBeside_6 rfl (lv_at hl 0 rfl) ?_
  refine lv_aload_n hx hb d_Nodes_nextBeside_7 rfl (lv_at hl 1 rfl) ?_
  refine mw_get (ci := 1) (i := 6) (v := .int (iI cnt)) (C := R_Nodes) (T := T_Nodes) (N := 9) hx hb hts in_Nodes hown hK hM hN.1 rfl rfl 8 (by decide) (hts _ m_139) rfl d_Nodes_nextBeside_8 ?_
  refine ia_icmp_ge (a := nBeh T cnt x) (b := cnt) (tgt := 31) hx hb d_Nodes_nextBeside_11 (by decide) (by omega) (by omega) (fun c2 => ?_) (fun c2 => ?_)
  · refine lv_iconst (v := iI (-1)) hx hb d_Nodes_nextBeside_31 rfl ?_
    exact mw_iret hx hb hr hM hS hlocks d_Nodes_nextBeside_32 (mwR_i (by unfold nNext; rw [if_neg (by omega)]))
  · refine lv_aload_n hx hb d_Nodes_nextBeside_14 rfl (lv_at hl 1 rfl) ?_
    refine lv_iload_n hx hb d_Nodes_nextBeside_15 rfl (lv_at hl 0 rfl) ?_
    refine mw_rdV (i := 6) (As := [.int (iI (nBeh T cnt x))]) (rest := []) ⟨hx, hb, hml, hown, hts⟩ hK hM hS rfl hN.1 rfl (c_Nodes_parent l D g lo L κ T cnt d hN (nBeh T cnt x) (by omega)) (cwV 1 hts (gV m_331 m_280 m_281 m_56 m_282) rfl rfl rfl (by decide +kernel) ⟨Nat.le_of_ble_eq_true rfl, Nat.le_of_ble_eq_true rfl⟩) rfl hl.1 rfl (Nat.le_of_ble_eq_true rfl) d_Nodes_nextBeside_16 ⟨Nat.le_of_ble_eq_true rfl, Nat.le_of_ble_eq_true rfl⟩ (fun H locs hM hS => ?_)
    have r3 := nCell_r (cnt := cnt) hN.2.2.2.1 1 (nBeh T cnt x)
    refine lv_aload_n hx hb d_Nodes_nextBeside_19 rfl (lv_at hl 1 rfl) ?_
    refine lv_iload_n hx hb d_Nodes_nextBeside_20 rfl (lv_at hl 2 rfl) ?_
    refine mw_rdV (i := 6) (As := [.int (iI x)]) (rest := [.int (iI (nCell T cnt 1 (nBeh T cnt x)))]) ⟨hx, hb, hml, hown, hts⟩ hK hM hS rfl hN.1 rfl (c_Nodes_parent l D g lo L κ T cnt d hN x (by omega)) (cwV 1 hts (gV m_331 m_280 m_281 m_56 m_282) rfl rfl rfl (by decide +kernel) ⟨Nat.le_of_ble_eq_true rfl, Nat.le_of_ble_eq_true rfl⟩) rfl hl.1 rfl (Nat.le_of_ble_eq_true rfl) d_Nodes_nextBeside_21 ⟨Nat.le_of_ble_eq_true rfl, Nat.le_of_ble_eq_true rfl⟩ (fun H locs hM hS => ?_)
    have r4 := nCell_r (cnt := cnt) hN.2.2.2.1 1 x
    refine ia_icmp_ne (a := nCell T cnt 1 (nBeh T cnt x)) (b := nCell T cnt 1 x) (tgt := 31) hx hb d_Nodes_nextBeside_24 (by decide) (by omega) (by omega) (fun c5 => ?_) (fun c5 => ?_)
    · refine lv_iconst (v := iI (-1)) hx hb d_Nodes_nextBeside_31 rfl ?_
      exact mw_iret hx hb hr hM hS hlocks d_Nodes_nextBeside_32 (mwR_i (by unfold nNext; rw [if_neg (by omega)]))
    · refine lv_iload_n hx hb d_Nodes_nextBeside_27 rfl (lv_at hl 0 rfl) ?_
      refine lv_goto (tgt := 32) hx hb d_Nodes_nextBeside_28 (by decide) ?_
      exact mw_iret hx hb hr hM hS hlocks d_Nodes_nextBeside_32 (mwR_i (by unfold nNext; rw [if_pos (by omega)]))
set_option maxHeartbeats 4000000 in
set_option maxRecDepth 100000 in
theorem c_Nodes_deepestIn (l : Launch) (D : va_G) (g : Nat → ClassId) (lo : Nat) (L : Nat → Nat) (κ : Nat → Option va_E) (T : Nat → Nat → Int) (cnt d : Nat) (hN : nds g L κ T cnt d) (x : Int) (hx0 : -1 ≤ x ∧ x ≤ 1000000) : Met l y_Nodes_deepestIn w_Nodes_deepestIn ({ frames := 2, cells := 0, slots := 0, locals := 44 }) (mwP D vwCl (tyL g) lo L κ [.ref (L 6), .int (iI x)]) (mwQ D vwCl lo (mwR (some (.int (iI (nDeep T cnt x)))) L κ)) 0 0 (fun q => lo ≤ q) := by
  have hc0 := hN.2.2.1
  refine Met.ofW (cc := b_Nodes_deepestIn) (maxL := 5) (ret := (Option.some Jvm.ClassFile.FieldType.int)) (by decide) rfl ?_
  intro p e s m args below meth c s₁ B hml hpre
  obtain ⟨hargs, hM, hK⟩ := hpre
  have hx := B.exec
  have hb := B.bytes
  have hr := B.returns
  have hts : ∀ w ∈ wA, w.before args s = true := fun w h => atoms_spec (ws := w_Nodes_deepestIn) B.pre w (List.mem_cons_of_mem _ h)
  have hown : s.vm.findClass R_Nodes = some m.cls := findClass_of_methodNamed B.named
  have hlocks := B.notSynchronized
  have hS : va_S (fun q => lo ≤ q) s.heap s.heap [] := va_S.rf
  have loop17 : ∀ (N : Nat) (k : Int) (acc : Int), (nBeh T cnt x - k).toNat < N → (0 ≤ k ∧ k ≤ 1000001) → (-1000000 ≤ acc ∧ acc ≤ 1000000) → (nBeh T cnt x ≤ cnt ∧ (x + 1 ≤ nBeh T cnt x ∨ nBeh T cnt x = cnt)) → (nDeep T cnt x = nDeepF T cnt (nBeh T cnt x) k acc) → ∀ (H : Heap) (locs : List Loc) (ls : Array Slot), mw D vwCl lo L κ H → va_S (fun q => lo ≤ q) s.heap H locs → lv_has ls 5 [(4, .int (iI k)), (3, .int (iI (nBeh T cnt x))), (2, .int (iI acc)), (0, .ref (L 6)), (1, .int (iI x))] → W p l e (headSpec w_Nodes_deepestIn ({ frames := 2, cells := 0, slots := 0, locals := 44 })).room s m args below meth c H locs 0 0 (MQ below (mwQ D vwCl lo (mwR (some (.int (iI (nDeep T cnt x)))) L κ)) args s 0 0 (fun q => lo ≤ q)) (F0 m 17 ls []) := by
    intro N
    induction N with
    | zero => intro k acc hms; exact absurd hms (Nat.not_lt_zero _)
    | succ N ih =>
      intro k acc hms hk ha hbr hres H locs ls hM hS hl
      refine lv_iload hx hb d_Nodes_deepestIn_17 (lv_at hl 0 rfl) ?_
      refine lv_iload_n hx hb d_Nodes_deepestIn_19 rfl (lv_at hl 1 rfl) ?_
      refine ia_icmp_ge (a := k) (b := nBeh T cnt x) (tgt := 40) hx hb d_Nodes_deepestIn_20 (by decide) (by omega) (by omega) (fun c1 => ?_) (fun c1 => ?_)
      · refine lv_iload_n hx hb d_Nodes_deepestIn_40 rfl (lv_at hl 2 rfl) ?_
        exact mw_iret hx hb hr hM hS hlocks d_Nodes_deepestIn_41 (mwR_i (by rw [hres, nDeepF_end (by omega)]))
      · refine lv_iload_n hx hb d_Nodes_deepestIn_23 rfl (lv_at hl 2 rfl) ?_
        refine lv_aload_n hx hb d_Nodes_deepestIn_24 rfl (lv_at hl 3 rfl) ?_
        refine lv_iload hx hb d_Nodes_deepestIn_25 (lv_at hl 0 rfl) ?_
        refine mw_rdV (i := 6) (As := [.int (iI k)]) (rest := [.int (iI acc)]) ⟨hx, hb, hml, hown, hts⟩ hK hM hS rfl hN.1 rfl (c_Nodes_depth l D g lo L κ T cnt d hN k (by omega)) (cwV 1 hts (gV m_404 m_256 m_257 m_56 m_258) rfl rfl rfl (by decide +kernel) ⟨Nat.le_of_ble_eq_true rfl, Nat.le_of_ble_eq_true rfl⟩) rfl hl.1 rfl (Nat.le_of_ble_eq_true rfl) d_Nodes_deepestIn_27 ⟨Nat.le_of_ble_eq_true rfl, Nat.le_of_ble_eq_true rfl⟩ (fun H locs hM hS => ?_)
        have r2 := nCell_r (cnt := cnt) hN.2.2.2.1 2 k
        refine va_mmax hx hb (hml.trans hl.1.symm) hown (hts _ m_409) (hts _ m_410) (hts _ m_54) (hts _ m_411) (Nat.le_of_ble_eq_true rfl) (Nat.le_of_ble_eq_true rfl) (Nat.le_of_ble_eq_true rfl) (Nat.le_of_ble_eq_true rfl) d_Nodes_deepestIn_30 ?_
        refine W.eq (g2 := F0 m 33 ls [.int (iI (if acc < (nCell T cnt 2 k) then nCell T cnt 2 k else acc))]) (by rw [mx_i (by omega) (by omega)]) ?_
        refine lv_istore_n (lv' := [(2, .int (iI (if acc < (nCell T cnt 2 k) then nCell T cnt 2 k else acc))), (4, .int (iI k)), (3, .int (iI (nBeh T cnt x))), (0, .ref (L 6)), (1, .int (iI x))]) hx hb d_Nodes_deepestIn_33 rfl hl (by decide) rfl (fun ls hl => ?_)
        refine lv_iinc (v := iI (k + 1)) (lv' := [(4, .int (iI (k + 1))), (2, .int (iI (if acc < (nCell T cnt 2 k) then nCell T cnt 2 k else acc))), (3, .int (iI (nBeh T cnt x))), (0, .ref (L 6)), (1, .int (iI x))]) hx hb d_Nodes_deepestIn_34 hl (k := 1) rfl (iI_inc _ _) (by decide) rfl (fun ls hl => ?_)
        refine lv_goto (tgt := 17) hx hb d_Nodes_deepestIn_37 (by decide) ?_
        exact ih (k + 1) (if acc < (nCell T cnt 2 k) then nCell T cnt 2 k else acc) (by omega) (by omega) (by split <;> omega) hbr (by rw [hres, nDeepF_step (by omega)]) _ _ ls hM hS (lv_sub hl [0, 2, 1, 3, 4] rfl)
  obtain ⟨ls, hls, hl⟩ := mw_entry (m := m) [.ref (L 6), .int (iI x)] (n := 5) (Nat.le_of_ble_eq_true rfl) hargs
  refine W.eq hls ?_
  have hl : lv_has ls 5 [(0, .ref (L 6)), (1, .int (iI x))] := hl
  refine lv_aload_n hx hb d_Nodes_deepestIn_0 rfl (lv_at hl 0 rfl) ?_
  refine lv_iload_n hx hb d_Nodes_deepestIn_1 rfl (lv_at hl 1 rfl) ?_
  refine mw_rdV (i := 6) (As := [.int (iI x)]) (rest := []) ⟨hx, hb, hml, hown, hts⟩ hK hM hS rfl hN.1 rfl (c_Nodes_depth l D g lo L κ T cnt d hN x (by omega)) (cwV 1 hts (gV m_404 m_256 m_257 m_56 m_258) rfl rfl rfl (by decide +kernel) ⟨Nat.le_of_ble_eq_true rfl, Nat.le_of_ble_eq_true rfl⟩) rfl hl.1 rfl (Nat.le_of_ble_eq_true rfl) d_Nodes_deepestIn_2 ⟨Nat.le_of_ble_eq_true rfl, Nat.le_of_ble_eq_true rfl⟩ (fun H locs hM hS => ?_)
  have r3 := nCell_r (cnt := cnt) hN.2.2.2.1 2 x
  refine lv_istore_n (lv' := [(2, .int (iI (nCell T cnt 2 x))), (0, .ref (L 6)), (1, .int (iI x))]) hx hb d_Nodes_deepestIn_5 rfl hl (by decide) rfl (fun ls hl => ?_)
  refine lv_aload_n hx hb d_Nodes_deepestIn_6 rfl (lv_at hl 1 rfl) ?_
  refine lv_iload_n hx hb d_Nodes_deepestIn_7 rfl (lv_at hl 2 rfl) ?_
  refine mw_rdV (i := 6) (As := [.int (iI x)]) (rest := []) ⟨hx, hb, hml, hown, hts⟩ hK hM hS rfl hN.1 rfl (c_Nodes_behind l D g lo L κ T cnt d hN x (by omega)) (cwV 1 hts (gV m_405 m_406 m_407 m_56 m_408) rfl rfl rfl (by decide +kernel) ⟨Nat.le_of_ble_eq_true rfl, Nat.le_of_ble_eq_true rfl⟩) rfl hl.1 rfl (Nat.le_of_ble_eq_true rfl) d_Nodes_deepestIn_8 ⟨Nat.le_of_ble_eq_true rfl, Nat.le_of_ble_eq_true rfl⟩ (fun H locs hM hS => ?_)
  have r4 := nBeh_r T cnt x
  refine lv_istore_n (lv' := [(3, .int (iI (nBeh T cnt x))), (2, .int (iI (nCell T cnt 2 x))), (0, .ref (L 6)), (1, .int (iI x))]) hx hb d_Nodes_deepestIn_11 rfl hl (by decide) rfl (fun ls hl => ?_)
  refine lv_iload_n hx hb d_Nodes_deepestIn_12 rfl (lv_at hl 3 rfl) ?_
  refine lv_iconst (v := iI (1)) hx hb d_Nodes_deepestIn_13 rfl ?_
  refine ia_add hx hb d_Nodes_deepestIn_14 ?_
  refine lv_istore (lv' := [(4, .int (iI (x + 1))), (3, .int (iI (nBeh T cnt x))), (2, .int (iI (nCell T cnt 2 x))), (0, .ref (L 6)), (1, .int (iI x))]) hx hb d_Nodes_deepestIn_15 hl (by decide) rfl (fun ls hl => ?_)
  exact loop17 _ (x + 1) (nCell T cnt 2 x) (Nat.lt_succ_self _) (by omega) (by omega) (nBeh_r T cnt x) rfl _ _ ls hM hS (lv_sub hl [0, 1, 2, 3, 4] rfl)
set_option maxHeartbeats 4000000 in
set_option maxRecDepth 100000 in
theorem c_Nodes_levels (l : Launch) (D : va_G) (g : Nat → ClassId) (lo : Nat) (L : Nat → Nat) (κ : Nat → Option va_E) (T : Nat → Nat → Int) (cnt d : Nat) (hN : nds g L κ T cnt d) (x : Int) (hx0 : -1 ≤ x ∧ x ≤ 1000000) : Met l y_Nodes_levels w_Nodes_levels ({ frames := 3, cells := 0, slots := 0, locals := 68 }) (mwP D vwCl (tyL g) lo L κ [.ref (L 6), .int (iI x)]) (mwQ D vwCl lo (mwR (some (.int (iI (nLevels T cnt x)))) L κ)) 0 0 (fun q => lo ≤ q) := by
  have hc0 := hN.2.2.1
  refine Met.ofW (cc := b_Nodes_levels) (maxL := 3) (ret := (Option.some Jvm.ClassFile.FieldType.int)) (by decide) rfl ?_
  intro p e s m args below meth c s₁ B hml hpre
  obtain ⟨hargs, hM, hK⟩ := hpre
  have hx := B.exec
  have hb := B.bytes
  have hr := B.returns
  have hts : ∀ w ∈ wA, w.before args s = true := fun w h => atoms_spec (ws := w_Nodes_levels) B.pre w (List.mem_cons_of_mem _ h)
  have hown : s.vm.findClass R_Nodes = some m.cls := findClass_of_methodNamed B.named
  have hlocks := B.notSynchronized
  have hS : va_S (fun q => lo ≤ q) s.heap s.heap [] := va_S.rf
  obtain ⟨ls, hls, hl⟩ := mw_entry (m := m) [.ref (L 6), .int (iI x)] (n := 3) (Nat.le_of_ble_eq_true rfl) hargs
  refine W.eq hls ?_
  have hl : lv_has ls 3 [(0, .ref (L 6)), (1, .int (iI x))] := hl
  refine lv_aload_n hx hb d_Nodes_levels_0 rfl (lv_at hl 0 rfl) ?_
  refine lv_iload_n hx hb d_Nodes_levels_1 rfl (lv_at hl 1 rfl) ?_
  refine mw_rdV (i := 6) (As := [.int (iI x)]) (rest := []) ⟨hx, hb, hml, hown, hts⟩ hK hM hS rfl hN.1 rfl (c_Nodes_kind l D g lo L κ T cnt d hN x (by omega)) (cwV 1 hts (gV m_522 m_313 m_314 m_56 m_315) rfl rfl rfl (by decide +kernel) ⟨Nat.le_of_ble_eq_true rfl, Nat.le_of_ble_eq_true rfl⟩) rfl hl.1 rfl (Nat.le_of_ble_eq_true rfl) d_Nodes_levels_2 ⟨Nat.le_of_ble_eq_true rfl, Nat.le_of_ble_eq_true rfl⟩ (fun H locs hM hS => ?_)
  have r1 := nCell_r (cnt := cnt) hN.2.2.2.1 0 x
  refine mw_rdS (As := [.int (iI (nCell T cnt 0 x))]) (rest := []) ⟨hx, hb, hml, hown, hts⟩ hK hM hS (c_Kinds_hold l D g lo L κ (nCell T cnt 0 x) (by omega)) (va_cwS 1 hts (gT m_267 m_268 m_59 m_269) rfl rfl rfl (by decide +kernel) ⟨Nat.le_of_ble_eq_true rfl, Nat.le_of_ble_eq_true rfl⟩) rfl hl.1 rfl (Nat.le_of_ble_eq_true rfl) d_Nodes_levels_5 ⟨Nat.le_of_ble_eq_true rfl, Nat.le_of_ble_eq_true rfl⟩ (fun H locs hM hS => ?_)
  refine ia_ifz_eq (x := kHold (nCell T cnt 0 x)) (tgt := 15) hx hb d_Nodes_levels_8 (by decide) (fun c2 => ?_) (fun c2 => ?_)
  · refine lv_iconst (v := iI (0)) hx hb d_Nodes_levels_15 rfl ?_
    refine lv_istore_n (lv' := [(2, .int (iI 0)), (0, .ref (L 6)), (1, .int (iI x))]) hx hb d_Nodes_levels_16 rfl hl (by decide) rfl (fun ls hl => ?_)
    refine lv_aload_n hx hb d_Nodes_levels_17 rfl (lv_at hl 1 rfl) ?_
    refine lv_iload_n hx hb d_Nodes_levels_18 rfl (lv_at hl 2 rfl) ?_
    refine mw_rdV (i := 6) (As := [.int (iI x)]) (rest := []) ⟨hx, hb, hml, hown, hts⟩ hK hM hS rfl hN.1 rfl (c_Nodes_deepestIn l D g lo L κ T cnt d hN x (by omega)) (cwV 1 hts (gV m_523 m_401 m_402 m_56 m_403) rfl rfl rfl (by decide +kernel) ⟨Nat.le_of_ble_eq_true rfl, Nat.le_of_ble_eq_true rfl⟩) rfl hl.1 rfl (Nat.le_of_ble_eq_true rfl) d_Nodes_levels_19 ⟨Nat.le_of_ble_eq_true rfl, Nat.le_of_ble_eq_true rfl⟩ (fun H locs hM hS => ?_)
    have r3 := nDeep_r (cnt := cnt) hN.2.2.2.1 x
    refine lv_aload_n hx hb d_Nodes_levels_22 rfl (lv_at hl 1 rfl) ?_
    refine lv_iload_n hx hb d_Nodes_levels_23 rfl (lv_at hl 2 rfl) ?_
    refine mw_rdV (i := 6) (As := [.int (iI x)]) (rest := [.int (iI (nDeep T cnt x))]) ⟨hx, hb, hml, hown, hts⟩ hK hM hS rfl hN.1 rfl (c_Nodes_depth l D g lo L κ T cnt d hN x (by omega)) (cwV 1 hts (gV m_404 m_256 m_257 m_56 m_258) rfl rfl rfl (by decide +kernel) ⟨Nat.le_of_ble_eq_true rfl, Nat.le_of_ble_eq_true rfl⟩) rfl hl.1 rfl (Nat.le_of_ble_eq_true rfl) d_Nodes_levels_24 ⟨Nat.le_of_ble_eq_true rfl, Nat.le_of_ble_eq_true rfl⟩ (fun H locs hM hS => ?_)
    have r4 := nCell_r (cnt := cnt) hN.2.2.2.1 2 x
    refine ia_sub hx hb d_Nodes_levels_27 ?_
    refine lv_iload_n hx hb d_Nodes_levels_28 rfl (lv_at hl 0 rfl) ?_
    refine ia_add hx hb d_Nodes_levels_29 ?_
    exact mw_iret hx hb hr hM hS hlocks d_Nodes_levels_30 (mwR_i (by unfold nLevels; rw [show kHold (nCell T cnt 0 x) = false by assumption]; rfl))
  · refine lv_iconst (v := iI (1)) hx hb d_Nodes_levels_11 rfl ?_
    refine lv_goto (tgt := 16) hx hb d_Nodes_levels_12 (by decide) ?_
    refine lv_istore_n (lv' := [(2, .int (iI 1)), (0, .ref (L 6)), (1, .int (iI x))]) hx hb d_Nodes_levels_16 rfl hl (by decide) rfl (fun ls hl => ?_)
    refine lv_aload_n hx hb d_Nodes_levels_17 rfl (lv_at hl 1 rfl) ?_
    refine lv_iload_n hx hb d_Nodes_levels_18 rfl (lv_at hl 2 rfl) ?_
    refine mw_rdV (i := 6) (As := [.int (iI x)]) (rest := []) ⟨hx, hb, hml, hown, hts⟩ hK hM hS rfl hN.1 rfl (c_Nodes_deepestIn l D g lo L κ T cnt d hN x (by omega)) (cwV 1 hts (gV m_523 m_401 m_402 m_56 m_403) rfl rfl rfl (by decide +kernel) ⟨Nat.le_of_ble_eq_true rfl, Nat.le_of_ble_eq_true rfl⟩) rfl hl.1 rfl (Nat.le_of_ble_eq_true rfl) d_Nodes_levels_19 ⟨Nat.le_of_ble_eq_true rfl, Nat.le_of_ble_eq_true rfl⟩ (fun H locs hM hS => ?_)
    have r5 := nDeep_r (cnt := cnt) hN.2.2.2.1 x
    refine lv_aload_n hx hb d_Nodes_levels_22 rfl (lv_at hl 1 rfl) ?_
    refine lv_iload_n hx hb d_Nodes_levels_23 rfl (lv_at hl 2 rfl) ?_
    refine mw_rdV (i := 6) (As := [.int (iI x)]) (rest := [.int (iI (nDeep T cnt x))]) ⟨hx, hb, hml, hown, hts⟩ hK hM hS rfl hN.1 rfl (c_Nodes_depth l D g lo L κ T cnt d hN x (by omega)) (cwV 1 hts (gV m_404 m_256 m_257 m_56 m_258) rfl rfl rfl (by decide +kernel) ⟨Nat.le_of_ble_eq_true rfl, Nat.le_of_ble_eq_true rfl⟩) rfl hl.1 rfl (Nat.le_of_ble_eq_true rfl) d_Nodes_levels_24 ⟨Nat.le_of_ble_eq_true rfl, Nat.le_of_ble_eq_true rfl⟩ (fun H locs hM hS => ?_)
    have r6 := nCell_r (cnt := cnt) hN.2.2.2.1 2 x
    refine ia_sub hx hb d_Nodes_levels_27 ?_
    refine lv_iload_n hx hb d_Nodes_levels_28 rfl (lv_at hl 0 rfl) ?_
    refine ia_add hx hb d_Nodes_levels_29 ?_
    exact mw_iret hx hb hr hM hS hlocks d_Nodes_levels_30 (mwR_i (by unfold nLevels; rw [show kHold (nCell T cnt 0 x) = true by assumption]; rfl))
set_option maxHeartbeats 4000000 in
set_option maxRecDepth 100000 in
theorem c_Nodes_named (l : Launch) (D : va_G) (g : Nat → ClassId) (lo : Nat) (L : Nat → Nat) (κ : Nat → Option va_E) (T : Nat → Nat → Int) (cnt d : Nat) (hN : nds g L κ T cnt d) (j mo n sz : Nat) (b : Nat → Int) (hB : bxs g L κ d j mo n sz b) (i2 j2 mo2 n2 sz2 : Nat) (b2 : Nat → Int) (hB2 : bxs g L κ i2 j2 mo2 n2 sz2 b2) (x a3 a4 : Int) (hx0 : -1 ≤ x ∧ x ≤ 1000000) (ha3 : -1000000 ≤ a3 ∧ a3 ≤ 1000000) (ha4 : -1000000 ≤ a4 ∧ a4 ≤ 1000000) : Met l y_Nodes_named w_Nodes_named ({ frames := 2, cells := 0, slots := 0, locals := 46 }) (mwP D vwCl (tyL g) lo L κ [.ref (L 6), .int (iI x), .ref (L i2), .int (iI a3), .int (iI a4)]) (mwQ D vwCl lo (mwR (some (.int (iI (nNamed T cnt b sz x b2 sz2 a3 a4)))) L κ)) 0 0 (fun q => lo ≤ q) := by
  have hc0 := hN.2.2.1
  obtain ⟨hz1, hz2, hz3⟩ := hB.2.2.1
  obtain ⟨hy1, hy2, hy3⟩ := hB2.2.2.1
  refine Met.ofW (cc := b_Nodes_named) (maxL := 6) (ret := (Option.some Jvm.ClassFile.FieldType.int)) (by decide) rfl ?_
  intro p e s m args below meth c s₁ B hml hpre
  obtain ⟨hargs, hM, hK⟩ := hpre
  have hx := B.exec
  have hb := B.bytes
  have hr := B.returns
  have hts : ∀ w ∈ wA, w.before args s = true := fun w h => atoms_spec (ws := w_Nodes_named) B.pre w (List.mem_cons_of_mem _ h)
  have hown : s.vm.findClass R_Nodes = some m.cls := findClass_of_methodNamed B.named
  have hlocks := B.notSynchronized
  have hS : va_S (fun q => lo ≤ q) s.heap s.heap [] := va_S.rf
  have loop5 : ∀ (N : Nat) (k : Int), (cnt - k).toNat < N → (0 ≤ k ∧ k ≤ 1000001) → (nNamed T cnt b sz x b2 sz2 a3 a4 = nNamF T cnt b sz x b2 sz2 a3 a4 k) → ∀ (H : Heap) (locs : List Loc) (ls : Array Slot), mw D vwCl lo L κ H → va_S (fun q => lo ≤ q) s.heap H locs → lv_has ls 6 [(5, .int (iI k)), (0, .ref (L 6)), (1, .int (iI x)), (2, .ref (L i2)), (3, .int (iI a3)), (4, .int (iI a4))] → W p l e (headSpec w_Nodes_named ({ frames := 2, cells := 0, slots := 0, locals := 46 })).room s m args below meth c H locs 0 0 (MQ below (mwQ D vwCl lo (mwR (some (.int (iI (nNamed T cnt b sz x b2 sz2 a3 a4)))) L κ)) args s 0 0 (fun q => lo ≤ q)) (F0 m 5 ls []) := by
    intro N
    induction N with
    | zero => intro k hms; exact absurd hms (Nat.not_lt_zero _)
    | succ N ih =>
      intro k hms hk hres H locs ls hM hS hl
      refine lv_iload hx hb d_Nodes_named_5 (lv_at hl 0 rfl) ?_
      refine lv_aload_n hx hb d_Nodes_named_7 rfl (lv_at hl 1 rfl) ?_
      refine mw_get (ci := 1) (i := 6) (v := .int (iI cnt)) (C := R_Nodes) (T := T_Nodes) (N := 9) hx hb hts in_Nodes hown hK hM hN.1 rfl rfl 8 (by decide) (hts _ m_139) rfl d_Nodes_named_8 ?_
      refine ia_icmp_ge (a := k) (b := cnt) (tgt := 64) hx hb d_Nodes_named_11 (by decide) (by omega) (by omega) (fun c1 => ?_) (fun c1 => ?_)
      · refine lv_iconst (v := iI (-1)) hx hb d_Nodes_named_64 rfl ?_
        exact mw_iret hx hb hr hM hS hlocks d_Nodes_named_65 (mwR_i (by rw [hres, nNamF_end (by omega)]))
      · refine lv_aload_n hx hb d_Nodes_named_14 rfl (lv_at hl 1 rfl) ?_
        refine lv_iload hx hb d_Nodes_named_15 (lv_at hl 0 rfl) ?_
        refine mw_rdV (i := 6) (As := [.int (iI k)]) (rest := []) ⟨hx, hb, hml, hown, hts⟩ hK hM hS rfl hN.1 rfl (c_Nodes_parent l D g lo L κ T cnt d hN k (by omega)) (cwV 1 hts (gV m_331 m_280 m_281 m_56 m_282) rfl rfl rfl (by decide +kernel) ⟨Nat.le_of_ble_eq_true rfl, Nat.le_of_ble_eq_true rfl⟩) rfl hl.1 rfl (Nat.le_of_ble_eq_true rfl) d_Nodes_named_17 ⟨Nat.le_of_ble_eq_true rfl, Nat.le_of_ble_eq_true rfl⟩ (fun H locs hM hS => ?_)
        have r2 := nCell_r (cnt := cnt) hN.2.2.2.1 1 k
        refine lv_iload_n hx hb d_Nodes_named_20 rfl (lv_at hl 2 rfl) ?_
        refine ia_icmp_ne (a := nCell T cnt 1 k) (b := x) (tgt := 58) hx hb d_Nodes_named_21 (by decide) (by omega) (by omega) (fun c3 => ?_) (fun c3 => ?_)
        · refine lv_iinc (v := iI (k + 1)) (lv' := [(5, .int (iI (k + 1))), (0, .ref (L 6)), (1, .int (iI x)), (2, .ref (L i2)), (3, .int (iI a3)), (4, .int (iI a4))]) hx hb d_Nodes_named_58 hl (k := 0) rfl (iI_inc _ _) (by decide) rfl (fun ls hl => ?_)
          refine lv_goto (tgt := 5) hx hb d_Nodes_named_61 (by decide) ?_
          exact ih (k + 1) (by omega) (by omega) (by rw [hres, nNamF_step (by omega), if_neg (nHit_f (by first | exact Or.inl (by omega) | exact Or.inr (Or.inl (by omega)) | exact Or.inr (Or.inr (by assumption))))]) _ _ ls hM hS (lv_sub hl [0, 1, 2, 3, 4, 5] rfl)
        · refine lv_aload_n hx hb d_Nodes_named_24 rfl (lv_at hl 1 rfl) ?_
          refine lv_iload hx hb d_Nodes_named_25 (lv_at hl 0 rfl) ?_
          refine mw_rdV (i := 6) (As := [.int (iI k)]) (rest := []) ⟨hx, hb, hml, hown, hts⟩ hK hM hS rfl hN.1 rfl (c_Nodes_nameLength l D g lo L κ T cnt d hN k (by omega)) (cwV 1 hts (gV m_332 m_333 m_334 m_56 m_335) rfl rfl rfl (by decide +kernel) ⟨Nat.le_of_ble_eq_true rfl, Nat.le_of_ble_eq_true rfl⟩) rfl hl.1 rfl (Nat.le_of_ble_eq_true rfl) d_Nodes_named_27 ⟨Nat.le_of_ble_eq_true rfl, Nat.le_of_ble_eq_true rfl⟩ (fun H locs hM hS => ?_)
          have r4 := nCell_r (cnt := cnt) hN.2.2.2.1 4 k
          have r5 := nCell_r (cnt := cnt) hN.2.2.2.1 3 k
          have r6 := (show nNameLen T cnt k = nCell T cnt 4 k - 1 - nCell T cnt 3 k from rfl)
          refine lv_iload hx hb d_Nodes_named_30 (lv_at hl 5 rfl) ?_
          refine ia_icmp_ne (a := nNameLen T cnt k) (b := a4) (tgt := 58) hx hb d_Nodes_named_32 (by decide) (by omega) (by omega) (fun c7 => ?_) (fun c7 => ?_)
          · refine lv_iinc (v := iI (k + 1)) (lv' := [(5, .int (iI (k + 1))), (0, .ref (L 6)), (1, .int (iI x)), (2, .ref (L i2)), (3, .int (iI a3)), (4, .int (iI a4))]) hx hb d_Nodes_named_58 hl (k := 0) rfl (iI_inc _ _) (by decide) rfl (fun ls hl => ?_)
            refine lv_goto (tgt := 5) hx hb d_Nodes_named_61 (by decide) ?_
            exact ih (k + 1) (by omega) (by omega) (by rw [hres, nNamF_step (by omega), if_neg (nHit_f (by first | exact Or.inl (by omega) | exact Or.inr (Or.inl (by omega)) | exact Or.inr (Or.inr (by assumption))))]) _ _ ls hM hS (lv_sub hl [0, 1, 2, 3, 4, 5] rfl)
          · refine lv_aload_n hx hb d_Nodes_named_35 rfl (lv_at hl 1 rfl) ?_
            refine mw_get (ci := 1) (i := 6) (v := .ref (L d)) (C := R_Nodes) (T := T_Nodes) (N := 9) hx hb hts in_Nodes hown hK hM hN.1 rfl rfl 7 (by decide) (hts _ m_138) rfl d_Nodes_named_36 ?_
            refine lv_aload_n hx hb d_Nodes_named_39 rfl (lv_at hl 1 rfl) ?_
            refine lv_iload hx hb d_Nodes_named_40 (lv_at hl 0 rfl) ?_
            refine mw_rdV (i := 6) (As := [.int (iI k)]) (rest := [.ref (L d)]) ⟨hx, hb, hml, hown, hts⟩ hK hM hS rfl hN.1 rfl (c_Nodes_name l D g lo L κ T cnt d hN k (by omega)) (cwV 1 hts (gV m_336 m_337 m_338 m_56 m_339) rfl rfl rfl (by decide +kernel) ⟨Nat.le_of_ble_eq_true rfl, Nat.le_of_ble_eq_true rfl⟩) rfl hl.1 rfl (Nat.le_of_ble_eq_true rfl) d_Nodes_named_42 ⟨Nat.le_of_ble_eq_true rfl, Nat.le_of_ble_eq_true rfl⟩ (fun H locs hM hS => ?_)
            have r8 := nCell_r (cnt := cnt) hN.2.2.2.1 3 k
            refine lv_aload_n hx hb d_Nodes_named_45 rfl (lv_at hl 3 rfl) ?_
            refine lv_iload_n hx hb d_Nodes_named_46 rfl (lv_at hl 4 rfl) ?_
            refine lv_iload hx hb d_Nodes_named_47 (lv_at hl 5 rfl) ?_
            refine mw_rdV (i := d) (As := [.int (iI (nCell T cnt 3 k)), .ref (L i2), .int (iI a3), .int (iI a4)]) (rest := []) ⟨hx, hb, hml, hown, hts⟩ hK hM hS rfl hB.1 rfl (c_Bytes_equalsAt l D g lo L κ d j mo n sz b hB i2 j2 mo2 n2 sz2 b2 hB2 (nCell T cnt 3 k) a3 a4 (by omega) (by omega) (by omega)) (cwV 4 hts (gV m_340 m_341 m_342 m_52 m_343) rfl rfl rfl (by decide +kernel) ⟨Nat.le_of_ble_eq_true rfl, Nat.le_of_ble_eq_true rfl⟩) rfl hl.1 rfl (Nat.le_of_ble_eq_true rfl) d_Nodes_named_49 ⟨Nat.le_of_ble_eq_true rfl, Nat.le_of_ble_eq_true rfl⟩ (fun H locs hM hS => ?_)
            refine ia_ifz_eq (x := bEq b sz (nCell T cnt 3 k) b2 sz2 a3 a4 0) (tgt := 58) hx hb d_Nodes_named_52 (by decide) (fun c9 => ?_) (fun c9 => ?_)
            · refine lv_iinc (v := iI (k + 1)) (lv' := [(5, .int (iI (k + 1))), (0, .ref (L 6)), (1, .int (iI x)), (2, .ref (L i2)), (3, .int (iI a3)), (4, .int (iI a4))]) hx hb d_Nodes_named_58 hl (k := 0) rfl (iI_inc _ _) (by decide) rfl (fun ls hl => ?_)
              refine lv_goto (tgt := 5) hx hb d_Nodes_named_61 (by decide) ?_
              exact ih (k + 1) (by omega) (by omega) (by rw [hres, nNamF_step (by omega), if_neg (nHit_f (by first | exact Or.inl (by omega) | exact Or.inr (Or.inl (by omega)) | exact Or.inr (Or.inr (by assumption))))]) _ _ ls hM hS (lv_sub hl [0, 1, 2, 3, 4, 5] rfl)
            · refine lv_iload hx hb d_Nodes_named_55 (lv_at hl 0 rfl) ?_
              exact mw_iret hx hb hr hM hS hlocks d_Nodes_named_57 (mwR_i (by rw [hres, nNamF_step (by omega), if_pos (nHit_t (by omega) (by omega) (by assumption))]))
  obtain ⟨ls, hls, hl⟩ := mw_entry (m := m) [.ref (L 6), .int (iI x), .ref (L i2), .int (iI a3), .int (iI a4)] (n := 6) (Nat.le_of_ble_eq_true rfl) hargs
  refine W.eq hls ?_
  have hl : lv_has ls 6 [(0, .ref (L 6)), (1, .int (iI x)), (2, .ref (L i2)), (3, .int (iI a3)), (4, .int (iI a4))] := hl
  refine lv_iload_n hx hb d_Nodes_named_0 rfl (lv_at hl 1 rfl) ?_
  refine lv_iconst (v := iI (1)) hx hb d_Nodes_named_1 rfl ?_
  refine ia_add hx hb d_Nodes_named_2 ?_
  refine lv_istore (lv' := [(5, .int (iI (x + 1))), (0, .ref (L 6)), (1, .int (iI x)), (2, .ref (L i2)), (3, .int (iI a3)), (4, .int (iI a4))]) hx hb d_Nodes_named_3 hl (by decide) rfl (fun ls hl => ?_)
  exact loop5 _ (x + 1) (Nat.lt_succ_self _) (by omega) rfl _ _ ls hM hS (lv_sub hl [0, 1, 2, 3, 4, 5] rfl)
end
section
set_option maxHeartbeats 4000000 in
set_option maxRecDepth 100000 in
theorem c_Bytes_clear (l : Launch) (D : va_G) (g : Nat → ClassId) (lo : Nat) (L : Nat → Nat) (κ : Nat → Option va_E) (i j mo n sz : Nat) (b : Nat → Int) (hB : bxs g L κ i j mo n sz b) : Met l y_Bytes_clear w_Bytes_clear ({ frames := 0, cells := 0, slots := 0, locals := 0 }) (mwP D vwCl (tyL g) lo L κ [.ref (L i)]) (mwQ D vwCl lo (bxU g L κ i j mo n 0 b)) 0 0 (fun q => lo ≤ q) := by
  obtain ⟨hz1, hz2, hz3⟩ := hB.2.2.1
  have hij := bxs_ne hB
  refine Met.ofW (cc := b_Bytes_clear) (maxL := 1) (ret := (Option.none : Option Jvm.ClassFile.FieldType)) (by decide) rfl ?_
  intro p e s m args below meth c s₁ B hml hpre
  obtain ⟨hargs, hM, hK⟩ := hpre
  have hx := B.exec
  have hb := B.bytes
  have hr := B.returns
  have hts : ∀ w ∈ wA, w.before args s = true := fun w h => atoms_spec (ws := w_Bytes_clear) B.pre w (List.mem_cons_of_mem _ h)
  have hown : s.vm.findClass R_Bytes = some m.cls := findClass_of_methodNamed B.named
  have hlocks := B.notSynchronized
  have hS : va_S (fun q => lo ≤ q) s.heap s.heap [] := va_S.rf
  obtain ⟨ls, hls, hl⟩ := mw_entry (m := m) [.ref (L i)] (n := 1) (Nat.le_of_ble_eq_true rfl) hargs
  refine W.eq hls ?_
  have hl : lv_has ls 1 [(0, .ref (L i))] := hl
  refine lv_aload_n hx hb d_Bytes_clear_0 rfl (lv_at hl 0 rfl) ?_
  refine lv_iconst (v := iI (0)) hx hb d_Bytes_clear_1 rfl ?_
  refine mw_put (ci := 0) (i := i) (v := .int (iI 0)) (C := R_Bytes) (T := T_Bytes) (N := 3) hx hb hts in_Bytes ty_Bytes ty_Bytes_ok nm_Bytes hown hK hM hS hB.1 rfl rfl 2 (by decide) (hts _ m_77) rfl (ty_Bytes_ok 2 (by decide)) rfl rfl (Nat.le_of_ble_eq_true rfl) d_Bytes_clear_2 (fun κ1 H locs e1 hk1 hM hS => ?_)
  have e1 : κ1 i = some (.inr (0, [.int (iI mo), .ref (L j), .int (iI 0)])) := e1
  have e2 := (hk1 j (by omega)).trans hB.2.1
  exact mw_vret hx hb hr hM hS hlocks d_Bytes_clear_5 ⟨rfl, rfl, bxs_sz (sz1 := 0) hB e1 hk1 (Nat.zero_le _), fun r h1 h2 => hk1 r h1⟩
set_option maxHeartbeats 4000000 in
set_option maxRecDepth 100000 in
theorem c_Bytes_put (l : Launch) (D : va_G) (g : Nat → ClassId) (lo : Nat) (L : Nat → Nat) (κ : Nat → Option va_E) (i j mo n sz : Nat) (b : Nat → Int) (hB : bxs g L κ i j mo n sz b) (a v : Int) (ha : -2147483648 ≤ a ∧ a < 2147483648) : Met l y_Bytes_put w_Bytes_put ({ frames := 0, cells := 0, slots := 0, locals := 0 }) (mwP D vwCl (tyL g) lo L κ [.ref (L i), .int (iI a), .int (iI v)]) (mwQ D vwCl lo (bxU g L κ i j mo n sz (bPut b sz a v))) 0 0 (fun q => lo ≤ q) := by
  obtain ⟨hz1, hz2, hz3⟩ := hB.2.2.1
  have hij := bxs_ne hB
  refine Met.ofW (cc := b_Bytes_put) (maxL := 3) (ret := (Option.none : Option Jvm.ClassFile.FieldType)) (by decide) rfl ?_
  intro p e s m args below meth c s₁ B hml hpre
  obtain ⟨hargs, hM, hK⟩ := hpre
  have hx := B.exec
  have hb := B.bytes
  have hr := B.returns
  have hts : ∀ w ∈ wA, w.before args s = true := fun w h => atoms_spec (ws := w_Bytes_put) B.pre w (List.mem_cons_of_mem _ h)
  have hown : s.vm.findClass R_Bytes = some m.cls := findClass_of_methodNamed B.named
  have hlocks := B.notSynchronized
  have hS : va_S (fun q => lo ≤ q) s.heap s.heap [] := va_S.rf
  obtain ⟨ls, hls, hl⟩ := mw_entry (m := m) [.ref (L i), .int (iI a), .int (iI v)] (n := 3) (Nat.le_of_ble_eq_true rfl) hargs
  refine W.eq hls ?_
  have hl : lv_has ls 3 [(0, .ref (L i)), (1, .int (iI a)), (2, .int (iI v))] := hl
  refine lv_iload_n hx hb d_Bytes_put_0 rfl (lv_at hl 1 rfl) ?_
  refine ia_if_lt (a := a) (tgt := 20) hx hb d_Bytes_put_1 (by decide) (by omega) (fun c1 => ?_) (fun c1 => ?_)
  · exact mw_vret hx hb hr hM hS hlocks d_Bytes_put_20 ⟨rfl, rfl, by rw [bPut_out (by omega)]; exact hB, fun r h1 h2 => rfl⟩
  · refine lv_iload_n hx hb d_Bytes_put_4 rfl (lv_at hl 1 rfl) ?_
    refine lv_aload_n hx hb d_Bytes_put_5 rfl (lv_at hl 0 rfl) ?_
    refine mw_get (ci := 0) (i := i) (v := .int (iI sz)) (C := R_Bytes) (T := T_Bytes) (N := 3) hx hb hts in_Bytes hown hK hM hB.1 rfl rfl 2 (by decide) (hts _ m_77) rfl d_Bytes_put_6 ?_
    refine ia_icmp_ge (a := a) (b := sz) (tgt := 20) hx hb d_Bytes_put_9 (by decide) (by omega) (by omega) (fun c2 => ?_) (fun c2 => ?_)
    · exact mw_vret hx hb hr hM hS hlocks d_Bytes_put_20 ⟨rfl, rfl, by rw [bPut_out (by omega)]; exact hB, fun r h1 h2 => rfl⟩
    · refine lv_aload_n hx hb d_Bytes_put_12 rfl (lv_at hl 0 rfl) ?_
      refine mw_get (ci := 0) (i := i) (v := .ref (L j)) (C := R_Bytes) (T := T_Bytes) (N := 3) hx hb hts in_Bytes hown hK hM hB.1 rfl rfl 1 (by decide) (hts _ m_76) rfl d_Bytes_put_13 ?_
      refine lv_iload_n hx hb d_Bytes_put_16 rfl (lv_at hl 1 rfl) ?_
      refine lv_iload_n hx hb d_Bytes_put_17 rfl (lv_at hl 2 rfl) ?_
      refine ia_i2b hx hb d_Bytes_put_18 ?_
      refine mw_bast (a := a) (v := v) (i := j) hx hb hK hM hS 0 hB.2.1 rfl rfl (by omega) (by omega) d_Bytes_put_19 (fun κ3 H locs e3 hk3 hM hS => ?_)
      have e4 := (hk3 i (by omega)).trans hB.1
      exact mw_vret hx hb hr hM hS hlocks d_Bytes_put_20 ⟨rfl, rfl, by rw [bPut_in (by omega)]; exact bxs_row hB e3 hk3 (up_r hB.2.2.2.1 _ _) (up_z hB.2.2.2.2 (by omega) _), fun r h1 h2 => hk3 r h2⟩
set_option maxHeartbeats 4000000 in
set_option maxRecDepth 100000 in
theorem c_Bytes_putNumber (l : Launch) (D : va_G) (g : Nat → ClassId) (lo : Nat) (L : Nat → Nat) (κ : Nat → Option va_E) (i j mo n sz : Nat) (b : Nat → Int) (hB : bxs g L κ i j mo n sz b) (a1 a2 v : Int) (ha1 : -1000000 ≤ a1 ∧ a1 ≤ 1000000) (ha2 : 0 ≤ a2 ∧ a2 ≤ 8) (hv : -9223372036854775808 ≤ v ∧ v < 9223372036854775808) : Met l y_Bytes_putNumber w_Bytes_putNumber ({ frames := 1, cells := 0, slots := 0, locals := 22 }) (mwP D vwCl (tyL g) lo L κ [.ref (L i), .int (iI a1), .int (iI a2), .long (lI v)]) (mwQ D vwCl lo (bxU g L κ i j mo n sz (bPn sz a1 v a2 0 b))) 0 0 (fun q => lo ≤ q) := by
  obtain ⟨hz1, hz2, hz3⟩ := hB.2.2.1
  have hij := bxs_ne hB
  refine Met.ofW (cc := b_Bytes_putNumber) (maxL := 6) (ret := (Option.none : Option Jvm.ClassFile.FieldType)) (by decide) rfl ?_
  intro p e s m args below meth c s₁ B hml hpre
  obtain ⟨hargs, hM, hK⟩ := hpre
  have hx := B.exec
  have hb := B.bytes
  have hr := B.returns
  have hts : ∀ w ∈ wA, w.before args s = true := fun w h => atoms_spec (ws := w_Bytes_putNumber) B.pre w (List.mem_cons_of_mem _ h)
  have hown : s.vm.findClass R_Bytes = some m.cls := findClass_of_methodNamed B.named
  have hlocks := B.notSynchronized
  have hS : va_S (fun q => lo ≤ q) s.heap s.heap [] := va_S.rf
  have loop3 : ∀ (N : Nat) (k : Int) (b1 : Nat → Int) (κ1 : Nat → Option va_E), (a2 - k).toNat < N → (bxs g L κ1 i j mo n sz b1) → (∀ r, r ≠ i → r ≠ j → κ1 r = κ r) → (0 ≤ k ∧ k ≤ 8) → (bPn sz a1 v a2 0 b = bPn sz a1 v a2 k b1) → ∀ (H : Heap) (locs : List Loc) (ls : Array Slot), mw D vwCl lo L κ1 H → va_S (fun q => lo ≤ q) s.heap H locs → lv_has ls 6 [(5, .int (iI k)), (0, .ref (L i)), (1, .int (iI a1)), (2, .int (iI a2)), (3, .long (lI v))] → W p l e (headSpec w_Bytes_putNumber ({ frames := 1, cells := 0, slots := 0, locals := 22 })).room s m args below meth c H locs 0 0 (MQ below (mwQ D vwCl lo (bxU g L κ i j mo n sz (bPn sz a1 v a2 0 b))) args s 0 0 (fun q => lo ≤ q)) (F0 m 3 ls []) := by
    intro N
    induction N with
    | zero => intro k b1 κ1 hms; exact absurd hms (Nat.not_lt_zero _)
    | succ N ih =>
      intro k b1 κ1 hms hB1 hf hk hres H locs ls hM hS hl
      refine lv_iload hx hb d_Bytes_putNumber_3 (lv_at hl 0 rfl) ?_
      refine lv_iload_n hx hb d_Bytes_putNumber_5 rfl (lv_at hl 3 rfl) ?_
      refine ia_icmp_ge (a := k) (b := a2) (tgt := 31) hx hb d_Bytes_putNumber_6 (by decide) (by omega) (by omega) (fun c1 => ?_) (fun c1 => ?_)
      · exact mw_vret hx hb hr hM hS hlocks d_Bytes_putNumber_31 ⟨rfl, rfl, by rw [hres, bPn_end (by omega)]; exact hB1, hf⟩
      · refine lv_aload_n hx hb d_Bytes_putNumber_9 rfl (lv_at hl 1 rfl) ?_
        refine lv_iload_n hx hb d_Bytes_putNumber_10 rfl (lv_at hl 2 rfl) ?_
        refine lv_iload hx hb d_Bytes_putNumber_11 (lv_at hl 0 rfl) ?_
        refine ia_add hx hb d_Bytes_putNumber_13 ?_
        refine lv_lload_n hx hb d_Bytes_putNumber_14 rfl (lv_at hl 4 rfl) ?_
        refine lv_bipush (v := iI (8)) hx hb d_Bytes_putNumber_15 (by decide) ?_
        refine lv_iload hx hb d_Bytes_putNumber_17 (lv_at hl 0 rfl) ?_
        refine ia_mul hx hb d_Bytes_putNumber_19 ?_
        refine ia_lshr hx hb (by omega) (by omega) d_Bytes_putNumber_20 ?_
        refine ia_l2i hx hb d_Bytes_putNumber_21 ?_
        refine mw_callV (i := i) (As := [.int (iI (a1 + k)), .int (iI (v / 2 ^ (8 * k).toNat))]) (rest := []) ⟨hx, hb, hml, hown, hts⟩ hK hM hS rfl hB1.1 rfl (c_Bytes_put l D g lo L κ1 i j mo n sz b1 hB1 (a1 + k) (v / 2 ^ (8 * k).toNat) (by omega)) (cwV 2 hts (gV m_121 m_122 m_123 m_52 m_124) rfl rfl rfl (by decide +kernel) ⟨Nat.le_of_ble_eq_true rfl, Nat.le_of_ble_eq_true rfl⟩) rfl hl.1 rfl (Nat.le_of_ble_eq_true rfl) d_Bytes_putNumber_22 ⟨Nat.le_of_ble_eq_true rfl, Nat.le_of_ble_eq_true rfl⟩ (fun v2 L2 κ2 H locs hp2 hM hS => ?_)
        obtain ⟨rfl, rfl, hB2, hk2⟩ := hp2
        refine lv_iinc (v := iI (k + 1)) (lv' := [(5, .int (iI (k + 1))), (0, .ref (L i)), (1, .int (iI a1)), (2, .int (iI a2)), (3, .long (lI v))]) hx hb d_Bytes_putNumber_25 hl (k := 0) rfl (iI_inc _ _) (by decide) rfl (fun ls hl => ?_)
        refine lv_goto (tgt := 3) hx hb d_Bytes_putNumber_28 (by decide) ?_
        exact ih (k + 1) (bPut b1 sz (a1 + k) (v / 2 ^ (8 * k).toNat)) κ2 (by omega) hB2 (fun r h1 h2 => (hk2 r h1 h2).trans (hf r h1 h2)) (by omega) (by rw [hres, bPn_step (by omega)]) _ _ ls hM hS (lv_sub hl [0, 1, 2, 3, 4] rfl)
  obtain ⟨ls, hls, hl⟩ := mw_entry (m := m) [.ref (L i), .int (iI a1), .int (iI a2), .long (lI v)] (n := 6) (Nat.le_of_ble_eq_true rfl) hargs
  refine W.eq hls ?_
  have hl : lv_has ls 6 [(0, .ref (L i)), (1, .int (iI a1)), (2, .int (iI a2)), (3, .long (lI v))] := hl
  refine lv_iconst (v := iI (0)) hx hb d_Bytes_putNumber_0 rfl ?_
  refine lv_istore (lv' := [(5, .int (iI 0)), (0, .ref (L i)), (1, .int (iI a1)), (2, .int (iI a2)), (3, .long (lI v))]) hx hb d_Bytes_putNumber_1 hl (by decide) rfl (fun ls hl => ?_)
  exact loop3 _ 0 b κ (Nat.lt_succ_self _) hB (fun r h1 h2 => rfl) (by omega) rfl _ _ ls hM hS (lv_sub hl [0, 1, 2, 3, 4] rfl)
set_option maxHeartbeats 4000000 in
set_option maxRecDepth 100000 in
theorem c_Bytes_putDecimal (l : Launch) (D : va_G) (g : Nat → ClassId) (lo : Nat) (L : Nat → Nat) (κ : Nat → Option va_E) (i j mo n sz : Nat) (b : Nat → Int) (hB : bxs g L κ i j mo n sz b) (a1 a2 a3 : Int) (ha1 : -1000000 ≤ a1 ∧ a1 ≤ 1000000) (ha2 : -1000000 ≤ a2 ∧ a2 ≤ 1000000) (ha3 : 0 ≤ a3 ∧ a3 < 2147483648) : Met l y_Bytes_putDecimal w_Bytes_putDecimal ({ frames := 1, cells := 0, slots := 0, locals := 22 }) (mwP D vwCl (tyL g) lo L κ [.ref (L i), .int (iI a1), .int (iI a2), .int (iI a3)]) (mwQ D vwCl lo (bxU g L κ i j mo n sz (bPd sz a1 (a2 - 1) a3 b))) 0 0 (fun q => lo ≤ q) := by
  obtain ⟨hz1, hz2, hz3⟩ := hB.2.2.1
  have hij := bxs_ne hB
  refine Met.ofW (cc := b_Bytes_putDecimal) (maxL := 6) (ret := (Option.none : Option Jvm.ClassFile.FieldType)) (by decide) rfl ?_
  intro p e s m args below meth c s₁ B hml hpre
  obtain ⟨hargs, hM, hK⟩ := hpre
  have hx := B.exec
  have hb := B.bytes
  have hr := B.returns
  have hts : ∀ w ∈ wA, w.before args s = true := fun w h => atoms_spec (ws := w_Bytes_putDecimal) B.pre w (List.mem_cons_of_mem _ h)
  have hown : s.vm.findClass R_Bytes = some m.cls := findClass_of_methodNamed B.named
  have hlocks := B.notSynchronized
  have hS : va_S (fun q => lo ≤ q) s.heap s.heap [] := va_S.rf
  have loop8 : ∀ (N : Nat) (k : Int) (u : Int) (b1 : Nat → Int) (κ1 : Nat → Option va_E), (k + 1).toNat < N → (bxs g L κ1 i j mo n sz b1) → (∀ r, r ≠ i → r ≠ j → κ1 r = κ r) → (-1000001 ≤ k ∧ k ≤ 1000000) → (0 ≤ u ∧ u < 2147483648) → (bPd sz a1 (a2 - 1) a3 b = bPd sz a1 k u b1) → ∀ (H : Heap) (locs : List Loc) (ls : Array Slot), mw D vwCl lo L κ1 H → va_S (fun q => lo ≤ q) s.heap H locs → lv_has ls 6 [(5, .int (iI k)), (4, .int (iI u)), (0, .ref (L i)), (1, .int (iI a1)), (2, .int (iI a2)), (3, .int (iI a3))] → W p l e (headSpec w_Bytes_putDecimal ({ frames := 1, cells := 0, slots := 0, locals := 22 })).room s m args below meth c H locs 0 0 (MQ below (mwQ D vwCl lo (bxU g L κ i j mo n sz (bPd sz a1 (a2 - 1) a3 b))) args s 0 0 (fun q => lo ≤ q)) (F0 m 8 ls []) := by
    intro N
    induction N with
    | zero => intro k u b1 κ1 hms; exact absurd hms (Nat.not_lt_zero _)
    | succ N ih =>
      intro k u b1 κ1 hms hB1 hf hk hu hres H locs ls hM hS hl
      refine lv_iload hx hb d_Bytes_putDecimal_8 (lv_at hl 0 rfl) ?_
      refine ia_if_lt (a := k) (tgt := 42) hx hb d_Bytes_putDecimal_10 (by decide) (by omega) (fun c1 => ?_) (fun c1 => ?_)
      · exact mw_vret hx hb hr hM hS hlocks d_Bytes_putDecimal_42 ⟨rfl, rfl, by rw [hres, bPd_end (by omega)]; exact hB1, hf⟩
      · refine lv_aload_n hx hb d_Bytes_putDecimal_13 rfl (lv_at hl 2 rfl) ?_
        refine lv_iload_n hx hb d_Bytes_putDecimal_14 rfl (lv_at hl 3 rfl) ?_
        refine lv_iload hx hb d_Bytes_putDecimal_15 (lv_at hl 0 rfl) ?_
        refine ia_add hx hb d_Bytes_putDecimal_17 ?_
        refine lv_bipush (v := iI (48)) hx hb d_Bytes_putDecimal_18 (by decide) ?_
        refine lv_iload hx hb d_Bytes_putDecimal_20 (lv_at hl 1 rfl) ?_
        refine lv_bipush (v := iI (10)) hx hb d_Bytes_putDecimal_22 (by decide) ?_
        refine ia_rem hx hb (by omega) (by omega) d_Bytes_putDecimal_24 ?_
        refine ia_add hx hb d_Bytes_putDecimal_25 ?_
        refine mw_callV (i := i) (As := [.int (iI (a1 + k)), .int (iI (48 + (u % 10)))]) (rest := []) ⟨hx, hb, hml, hown, hts⟩ hK hM hS rfl hB1.1 rfl (c_Bytes_put l D g lo L κ1 i j mo n sz b1 hB1 (a1 + k) (48 + (u % 10)) (by omega)) (cwV 2 hts (gV m_121 m_122 m_123 m_52 m_124) rfl rfl rfl (by decide +kernel) ⟨Nat.le_of_ble_eq_true rfl, Nat.le_of_ble_eq_true rfl⟩) rfl hl.1 rfl (Nat.le_of_ble_eq_true rfl) d_Bytes_putDecimal_26 ⟨Nat.le_of_ble_eq_true rfl, Nat.le_of_ble_eq_true rfl⟩ (fun v2 L2 κ2 H locs hp2 hM hS => ?_)
        obtain ⟨rfl, rfl, hB2, hk2⟩ := hp2
        refine lv_iload hx hb d_Bytes_putDecimal_29 (lv_at hl 1 rfl) ?_
        refine lv_bipush (v := iI (10)) hx hb d_Bytes_putDecimal_31 (by decide) ?_
        refine ia_div hx hb (by omega) (by omega) d_Bytes_putDecimal_33 ?_
        refine lv_istore (lv' := [(4, .int (iI (u / 10))), (5, .int (iI k)), (0, .ref (L i)), (1, .int (iI a1)), (2, .int (iI a2)), (3, .int (iI a3))]) hx hb d_Bytes_putDecimal_34 hl (by decide) rfl (fun ls hl => ?_)
        refine lv_iinc (v := iI (k + (-1))) (lv' := [(5, .int (iI (k + (-1)))), (4, .int (iI (u / 10))), (0, .ref (L i)), (1, .int (iI a1)), (2, .int (iI a2)), (3, .int (iI a3))]) hx hb d_Bytes_putDecimal_36 hl (k := 1) rfl (iI_inc _ _) (by decide) rfl (fun ls hl => ?_)
        refine lv_goto (tgt := 8) hx hb d_Bytes_putDecimal_39 (by decide) ?_
        exact ih (k + (-1)) (u / 10) (bPut b1 sz (a1 + k) (48 + (u % 10))) κ2 (by omega) hB2 (fun r h1 h2 => (hk2 r h1 h2).trans (hf r h1 h2)) (by omega) (by omega) (by rw [hres, bPd_step (by omega)]) _ _ ls hM hS (lv_sub hl [0, 1, 2, 3, 4, 5] rfl)
  obtain ⟨ls, hls, hl⟩ := mw_entry (m := m) [.ref (L i), .int (iI a1), .int (iI a2), .int (iI a3)] (n := 6) (Nat.le_of_ble_eq_true rfl) hargs
  refine W.eq hls ?_
  have hl : lv_has ls 6 [(0, .ref (L i)), (1, .int (iI a1)), (2, .int (iI a2)), (3, .int (iI a3))] := hl
  refine lv_iload_n hx hb d_Bytes_putDecimal_0 rfl (lv_at hl 3 rfl) ?_
  refine lv_istore (lv' := [(4, .int (iI a3)), (0, .ref (L i)), (1, .int (iI a1)), (2, .int (iI a2)), (3, .int (iI a3))]) hx hb d_Bytes_putDecimal_1 hl (by decide) rfl (fun ls hl => ?_)
  refine lv_iload_n hx hb d_Bytes_putDecimal_3 rfl (lv_at hl 3 rfl) ?_
  refine lv_iconst (v := iI (1)) hx hb d_Bytes_putDecimal_4 rfl ?_
  refine ia_sub hx hb d_Bytes_putDecimal_5 ?_
  refine lv_istore (lv' := [(5, .int (iI (a2 - 1))), (4, .int (iI a3)), (0, .ref (L i)), (1, .int (iI a1)), (2, .int (iI a2)), (3, .int (iI a3))]) hx hb d_Bytes_putDecimal_6 hl (by decide) rfl (fun ls hl => ?_)
  exact loop8 _ (a2 - 1) a3 b κ (Nat.lt_succ_self _) hB (fun r h1 h2 => rfl) (by omega) (by omega) rfl _ _ ls hM hS (lv_sub hl [0, 1, 2, 3, 4, 5] rfl)
set_option maxHeartbeats 4000000 in
set_option maxRecDepth 100000 in
theorem c_Arrays_copyOf (l : Launch) (D : va_G) (g : Nat → ClassId) (lo : Nat) (L : Nat → Nat) (κ : Nat → Option va_E) (j n mo : Nat) (b : Nat → Int) (he : κ j = some (.inl (g 0, n, .inl (fun x => byt (b x))))) (hmo : n < mo ∧ mo ≤ 2005) (hrg : ∀ x, 0 ≤ b x ∧ b x < 256) (hz : ∀ x, n ≤ x → b x = 0) : Met l y_Arrays_copyOf w_Arrays_copyOf ({ frames := 1, cells := 1, slots := 2005, locals := 40 }) (mwP D vwCl (tyL g) lo L κ [.ref (L j), .int (iI mo)]) (mwQ D vwCl lo (fun v L1 κ1 => v = some (.ref (L1 j)) ∧ (∀ r, r ≠ j → L1 r = L r) ∧ κ1 j = some (.inl (g 0, mo, .inl (fun x => byt (b x)))) ∧ ∀ r, r ≠ j → κ1 r = κ r)) 1 2005 (fun q => lo ≤ q) := by
  refine Met.ofW (cc := b_Arrays_copyOf) (maxL := 3) (ret := (Option.some (Jvm.ClassFile.FieldType.array Jvm.ClassFile.FieldType.byte))) (by decide) rfl ?_
  intro p e s m args below meth c s₁ B hml hpre
  obtain ⟨hargs, hM, hK⟩ := hpre
  have hx := B.exec
  have hb := B.bytes
  have hr := B.returns
  have hts : ∀ w ∈ wA, w.before args s = true := fun w h => atoms_spec (ws := w_Arrays_copyOf) B.pre w (List.mem_cons_of_mem _ h)
  have hown : s.vm.findClass R_Arrays = some m.cls := findClass_of_methodNamed B.named
  have hlocks := B.notSynchronized
  have hS : va_S (fun q => lo ≤ q) s.heap s.heap [] := va_S.rf
  have hM := mw_shift hM
  obtain ⟨L0, hL0⟩ : ∃ z, z = fun r => L (r - 1) := ⟨_, rfl⟩
  obtain ⟨κ0, hκ0⟩ : ∃ z, z = fun r => if r = 0 then none else κ (r - 1) := ⟨_, rfl⟩
  rw [← hL0, ← hκ0] at hM
  have e0 : κ0 (j + 1) = some (.inl (g 0, n, .inl (fun x => byt (b x)))) := by rw [hκ0]; exact (if_neg (by omega)).trans he
  have a0 : L0 (j + 1) = L j := by rw [hL0]; rfl
  obtain ⟨ls, hls, hl⟩ := mw_entry (m := m) [.ref (L j), .int (iI mo)] (n := 3) (Nat.le_of_ble_eq_true rfl) hargs
  refine W.eq hls ?_
  have hl : lv_has ls 3 [(0, .ref (L j)), (1, .int (iI mo))] := hl
  refine lv_iload_n hx hb d_Arrays_copyOf_0 rfl (lv_at hl 1 rfl) ?_
  refine lv_aload_n hx hb d_Arrays_copyOf_1 rfl (lv_at hl 0 rfl) ?_
  refine mw_alen (i := j + 1) hx hb hK hM 0 e0 a0 rfl d_Arrays_copyOf_2 ?_
  refine ia_icmp_ne (a := mo) (b := n) (tgt := 14) hx hb d_Arrays_copyOf_3 (by decide) (by omega) (by omega) (fun c1 => ?_) (fun c1 => ?_)
  · refine lv_iload_n hx hb d_Arrays_copyOf_14 rfl (lv_at hl 1 rfl) ?_
    refine mw_newaK (atype := .byte) (a0 := (mo, .inl (fun _ => byt 0))) (a := mo) hx hb (hts _ m_85) (ty := .byte) rfl hM hS 0 rfl (fun cA => rfl) (by omega) (by show mo * 1 ≤ _; omega) (Nat.le_of_ble_eq_true rfl) (by show 0 + mo ≤ 2005; omega) d_Arrays_copyOf_15 (fun L1 κ1 cA H hA1 hA2 f1 hk1 hL1 hM hS => ?_)
    have hcA : cA = g 0 := Option.some.inj (hA2.symm.trans (hK.2 0 _ rfl).2)
    subst hcA
    have f2 : κ1 (j + 1) = some (.inl (g 0, n, .inl (fun x => byt (b x)))) := (hk1 (j + 1) (by omega)).trans e0
    have a2 : L1 (j + 1) = L j := (hL1 (j + 1) (by omega)).trans a0
    refine lv_astore_n (lv' := [(2, .ref (L1 0)), (0, .ref (L j)), (1, .int (iI mo))]) hx hb d_Arrays_copyOf_17 rfl hl (by decide) rfl (fun ls hl => ?_)
    refine lv_aload_n hx hb d_Arrays_copyOf_18 rfl (lv_at hl 1 rfl) ?_
    refine lv_iconst (v := iI (0)) hx hb d_Arrays_copyOf_19 rfl ?_
    refine lv_aload_n hx hb d_Arrays_copyOf_20 rfl (lv_at hl 0 rfl) ?_
    refine lv_iconst (v := iI (0)) hx hb d_Arrays_copyOf_21 rfl ?_
    refine lv_aload_n hx hb d_Arrays_copyOf_22 rfl (lv_at hl 1 rfl) ?_
    refine mw_alen (i := j + 1) hx hb hK hM 0 f2 a2 rfl d_Arrays_copyOf_23 ?_
    refine lv_iload_n hx hb d_Arrays_copyOf_24 rfl (lv_at hl 2 rfl) ?_
    refine va_mmin hx hb (hml.trans hl.1.symm) hown (hts _ m_110) (hts _ m_111) (hts _ m_54) (hts _ m_112) (Nat.le_of_ble_eq_true rfl) (Nat.le_of_ble_eq_true rfl) (Nat.le_of_ble_eq_true rfl) (by show 0 + (mo : Int).toNat ≤ 2005; omega) d_Arrays_copyOf_25 ?_
    refine W.eq (g2 := F0 m 28 ls [.int (iI n), .int (iI 0), .ref (L1 0), .int (iI 0), .ref (L j)]) (by rw [if_neg (by rw [iI_lt (by omega) (by omega)]; omega)]) ?_
    refine mw_copyb (i := j + 1) (j := 0) (sp := 0) (dp := 0) (n := n) hx hb (hml.trans hl.1.symm) hown (hts _ m_113) (hts _ m_115) (hts _ m_114) (hts _ m_55) hK hM hS 0 0 f2 f1 rfl rfl a2 rfl (by omega) (by omega) (by omega) (by omega) (by omega) (by omega) (by omega) (Nat.le_of_ble_eq_true rfl) (Nat.le_of_ble_eq_true rfl) d_Arrays_copyOf_28 (fun κ2 H locs e2 hk2 hM hS => ?_)
    have e3 := (hk2 (j + 1) (by omega)).trans f2
    refine lv_aload_n hx hb d_Arrays_copyOf_31 rfl (lv_at hl 0 rfl) ?_
    have hM := mw_unshift (mw_take hM (j + 1) 0 e2 (by omega))
    refine W.widen (k := 1) (n := 2005) (Nat.le_refl 1) (by show 0 + mo ≤ 2005; omega) ?_
    refine mw_aret hx hb hr (Or.inr ⟨_, rfl⟩) hM hS hlocks d_Arrays_copyOf_32 ⟨?_, fun r h => ?_, ?_, fun r h => ?_⟩
    · show some (Value.ref (L1 0)) = some (.ref (va_up L1 (j + 1) (L1 0) (j + 1)))
      rw [va_up_self]
    · show va_up L1 (j + 1) (L1 0) (r + 1) = L r
      rw [va_up_ne _ _ (by omega), hL1 (r + 1) (by omega), hL0]; rfl
    · show va_up (va_up κ2 0 none) (j + 1) _ (j + 1) = _
      rw [va_up_self, show (fun x => byt (va_cpy b (fun _ => (0 : Int)) (0 : Int).toNat (0 : Int).toNat (n : Int).toNat x)) = fun x => byt (b x) from funext fun x => by
        rcases Nat.lt_or_ge x n with h | h
        · show byt (if 0 ≤ x ∧ x < 0 + n then b (0 + (x - 0)) else 0) = _; rw [if_pos (by omega)]; simp
        · show byt (if 0 ≤ x ∧ x < 0 + n then b (0 + (x - 0)) else 0) = _; rw [if_neg (by omega), hz x h]]
    · show va_up (va_up κ2 0 none) (j + 1) _ (r + 1) = κ r
      rw [va_up_ne _ _ (by omega), va_up_ne _ _ (by omega), hk2 (r + 1) (by omega), hk1 (r + 1) (by omega), hκ0]; exact if_neg (by omega)
  · exfalso; omega
set_option maxHeartbeats 4000000 in
set_option maxRecDepth 100000 in
theorem c_Bytes_cut (l : Launch) (D : va_G) (g : Nat → ClassId) (lo : Nat) (L : Nat → Nat) (κ : Nat → Option va_E) (i j mo n sz : Nat) (b : Nat → Int) (hB : bxs g L κ i j mo n sz b) (a1 a2 : Int) (hG : 0 ≤ a1 ∧ 0 ≤ a2 ∧ a1 ≤ sz - a2) : Met l y_Bytes_cut w_Bytes_cut ({ frames := 1, cells := 0, slots := 0, locals := 40 }) (mwP D vwCl (tyL g) lo L κ [.ref (L i), .int (iI a1), .int (iI a2)]) (mwQ D vwCl lo (bxU g L κ i j mo n (sz - a2.toNat) (bCut b sz a1 a2))) 0 0 (fun q => lo ≤ q) := by
  obtain ⟨hz1, hz2, hz3⟩ := hB.2.2.1
  have hij := bxs_ne hB
  refine Met.ofW (cc := b_Bytes_cut) (maxL := 3) (ret := (Option.none : Option Jvm.ClassFile.FieldType)) (by decide) rfl ?_
  intro p e s m args below meth c s₁ B hml hpre
  obtain ⟨hargs, hM, hK⟩ := hpre
  have hx := B.exec
  have hb := B.bytes
  have hr := B.returns
  have hts : ∀ w ∈ wA, w.before args s = true := fun w h => atoms_spec (ws := w_Bytes_cut) B.pre w (List.mem_cons_of_mem _ h)
  have hown : s.vm.findClass R_Bytes = some m.cls := findClass_of_methodNamed B.named
  have hlocks := B.notSynchronized
  have hS : va_S (fun q => lo ≤ q) s.heap s.heap [] := va_S.rf
  obtain ⟨ls, hls, hl⟩ := mw_entry (m := m) [.ref (L i), .int (iI a1), .int (iI a2)] (n := 3) (Nat.le_of_ble_eq_true rfl) hargs
  refine W.eq hls ?_
  have hl : lv_has ls 3 [(0, .ref (L i)), (1, .int (iI a1)), (2, .int (iI a2))] := hl
  refine lv_iload_n hx hb d_Bytes_cut_0 rfl (lv_at hl 1 rfl) ?_
  refine ia_if_lt (a := a1) (tgt := 18) hx hb d_Bytes_cut_1 (by decide) (by omega) (fun c1 => ?_) (fun c1 => ?_)
  · exfalso; omega
  · refine lv_iload_n hx hb d_Bytes_cut_4 rfl (lv_at hl 2 rfl) ?_
    refine ia_if_lt (a := a2) (tgt := 18) hx hb d_Bytes_cut_5 (by decide) (by omega) (fun c2 => ?_) (fun c2 => ?_)
    · exfalso; omega
    · refine lv_iload_n hx hb d_Bytes_cut_8 rfl (lv_at hl 1 rfl) ?_
      refine lv_aload_n hx hb d_Bytes_cut_9 rfl (lv_at hl 0 rfl) ?_
      refine mw_get (ci := 0) (i := i) (v := .int (iI sz)) (C := R_Bytes) (T := T_Bytes) (N := 3) hx hb hts in_Bytes hown hK hM hB.1 rfl rfl 2 (by decide) (hts _ m_77) rfl d_Bytes_cut_10 ?_
      refine lv_iload_n hx hb d_Bytes_cut_13 rfl (lv_at hl 2 rfl) ?_
      refine ia_sub hx hb d_Bytes_cut_14 ?_
      refine ia_icmp_le (a := a1) (b := sz - a2) (tgt := 19) hx hb d_Bytes_cut_15 (by decide) (by omega) (by omega) (fun c3 => ?_) (fun c3 => ?_)
      · refine lv_aload_n hx hb d_Bytes_cut_19 rfl (lv_at hl 0 rfl) ?_
        refine mw_get (ci := 0) (i := i) (v := .ref (L j)) (C := R_Bytes) (T := T_Bytes) (N := 3) hx hb hts in_Bytes hown hK hM hB.1 rfl rfl 1 (by decide) (hts _ m_76) rfl d_Bytes_cut_20 ?_
        refine lv_iload_n hx hb d_Bytes_cut_23 rfl (lv_at hl 1 rfl) ?_
        refine lv_iload_n hx hb d_Bytes_cut_24 rfl (lv_at hl 2 rfl) ?_
        refine ia_add hx hb d_Bytes_cut_25 ?_
        refine lv_aload_n hx hb d_Bytes_cut_26 rfl (lv_at hl 0 rfl) ?_
        refine mw_get (ci := 0) (i := i) (v := .ref (L j)) (C := R_Bytes) (T := T_Bytes) (N := 3) hx hb hts in_Bytes hown hK hM hB.1 rfl rfl 1 (by decide) (hts _ m_76) rfl d_Bytes_cut_27 ?_
        refine lv_iload_n hx hb d_Bytes_cut_30 rfl (lv_at hl 1 rfl) ?_
        refine lv_aload_n hx hb d_Bytes_cut_31 rfl (lv_at hl 0 rfl) ?_
        refine mw_get (ci := 0) (i := i) (v := .int (iI sz)) (C := R_Bytes) (T := T_Bytes) (N := 3) hx hb hts in_Bytes hown hK hM hB.1 rfl rfl 2 (by decide) (hts _ m_77) rfl d_Bytes_cut_32 ?_
        refine lv_iload_n hx hb d_Bytes_cut_35 rfl (lv_at hl 1 rfl) ?_
        refine ia_sub hx hb d_Bytes_cut_36 ?_
        refine lv_iload_n hx hb d_Bytes_cut_37 rfl (lv_at hl 2 rfl) ?_
        refine ia_sub hx hb d_Bytes_cut_38 ?_
        refine mw_copyb (i := j) (j := j) (sp := a1 + a2) (dp := a1) (n := (sz - a1) - a2) hx hb (hml.trans hl.1.symm) hown (hts _ m_116) (hts _ m_115) (hts _ m_114) (hts _ m_55) hK hM hS 0 0 hB.2.1 hB.2.1 rfl rfl rfl rfl (by omega) (by omega) (by omega) (by omega) (by omega) (by omega) (by omega) (Nat.le_of_ble_eq_true rfl) (Nat.le_of_ble_eq_true rfl) d_Bytes_cut_39 (fun κ4 H locs e4 hk4 hM hS => ?_)
        have e5 := (hk4 i (by omega)).trans hB.1
        refine lv_aload_n hx hb d_Bytes_cut_42 rfl (lv_at hl 0 rfl) ?_
        refine lv_dup hx hb d_Bytes_cut_43 rfl ?_
        refine mw_get (ci := 0) (i := i) (v := .int (iI sz)) (C := R_Bytes) (T := T_Bytes) (N := 3) hx hb hts in_Bytes hown hK hM e5 rfl rfl 2 (by decide) (hts _ m_77) rfl d_Bytes_cut_44 ?_
        refine lv_iload_n hx hb d_Bytes_cut_47 rfl (lv_at hl 2 rfl) ?_
        refine ia_sub hx hb d_Bytes_cut_48 ?_
        refine mw_put (ci := 0) (i := i) (v := .int (iI (sz - a2))) (C := R_Bytes) (T := T_Bytes) (N := 3) hx hb hts in_Bytes ty_Bytes ty_Bytes_ok nm_Bytes hown hK hM hS e5 rfl rfl 2 (by decide) (hts _ m_77) rfl (ty_Bytes_ok 2 (by decide)) rfl rfl (Nat.le_of_ble_eq_true rfl) d_Bytes_cut_49 (fun κ6 H locs e6 hk6 hM hS => ?_)
        have e6 : κ6 i = some (.inr (0, [.int (iI mo), .ref (L j), .int (iI (sz - a2))])) := e6
        have e7 := (hk6 j (by omega)).trans e4
        exact mw_vret hx hb hr hM hS hlocks d_Bytes_cut_52 ⟨rfl, rfl, ⟨by rw [show ((sz - a2.toNat : Nat) : Int) = sz - a2 by omega]; exact e6, e7, ⟨by omega, by omega, by omega⟩, cpy_r hB.2.2.2.1 hB.2.2.2.1 _ _ _, cpy_z hB.2.2.2.2 (by omega)⟩, fun r h1 h2 => by rw [hk6 r h1, hk4 r h2]⟩
      · exfalso; omega
set_option maxHeartbeats 4000000 in
set_option maxRecDepth 100000 in
theorem c_Bytes_putFrom (l : Launch) (D : va_G) (g : Nat → ClassId) (lo : Nat) (L : Nat → Nat) (κ : Nat → Option va_E) (i j mo n sz : Nat) (b : Nat → Int) (hB : bxs g L κ i j mo n sz b) (i2 j2 mo2 n2 sz2 : Nat) (b2 : Nat → Int) (hB2 : bxs g L κ i2 j2 mo2 n2 sz2 b2) (a1 a3 a4 : Int) (hd : i ≠ i2 ∧ i ≠ j2 ∧ j ≠ i2 ∧ j ≠ j2) (hG : 0 ≤ a1 ∧ 0 ≤ a3 ∧ 0 ≤ a4 ∧ a1 ≤ sz - a4 ∧ a3 ≤ sz2 - a4) : Met l y_Bytes_putFrom w_Bytes_putFrom ({ frames := 1, cells := 0, slots := 0, locals := 40 }) (mwP D vwCl (tyL g) lo L κ [.ref (L i), .int (iI a1), .ref (L i2), .int (iI a3), .int (iI a4)]) (mwQ D vwCl lo (bxU g L κ i j mo n sz (bCopy b b2 a1 a3 a4))) 0 0 (fun q => lo ≤ q) := by
  obtain ⟨hz1, hz2, hz3⟩ := hB.2.2.1
  obtain ⟨hy1, hy2, hy3⟩ := hB2.2.2.1
  have hij := bxs_ne hB
  have hij2 := bxs_ne hB2
  refine Met.ofW (cc := b_Bytes_putFrom) (maxL := 5) (ret := (Option.none : Option Jvm.ClassFile.FieldType)) (by decide) rfl ?_
  intro p e s m args below meth c s₁ B hml hpre
  obtain ⟨hargs, hM, hK⟩ := hpre
  have hx := B.exec
  have hb := B.bytes
  have hr := B.returns
  have hts : ∀ w ∈ wA, w.before args s = true := fun w h => atoms_spec (ws := w_Bytes_putFrom) B.pre w (List.mem_cons_of_mem _ h)
  have hown : s.vm.findClass R_Bytes = some m.cls := findClass_of_methodNamed B.named
  have hlocks := B.notSynchronized
  have hS : va_S (fun q => lo ≤ q) s.heap s.heap [] := va_S.rf
  obtain ⟨ls, hls, hl⟩ := mw_entry (m := m) [.ref (L i), .int (iI a1), .ref (L i2), .int (iI a3), .int (iI a4)] (n := 5) (Nat.le_of_ble_eq_true rfl) hargs
  refine W.eq hls ?_
  have hl : lv_has ls 5 [(0, .ref (L i)), (1, .int (iI a1)), (2, .ref (L i2)), (3, .int (iI a3)), (4, .int (iI a4))] := hl
  refine lv_iload_n hx hb d_Bytes_putFrom_0 rfl (lv_at hl 1 rfl) ?_
  refine ia_if_lt (a := a1) (tgt := 35) hx hb d_Bytes_putFrom_1 (by decide) (by omega) (fun c1 => ?_) (fun c1 => ?_)
  · exfalso; omega
  · refine lv_iload_n hx hb d_Bytes_putFrom_4 rfl (lv_at hl 3 rfl) ?_
    refine ia_if_lt (a := a3) (tgt := 35) hx hb d_Bytes_putFrom_5 (by decide) (by omega) (fun c2 => ?_) (fun c2 => ?_)
    · exfalso; omega
    · refine lv_iload hx hb d_Bytes_putFrom_8 (lv_at hl 4 rfl) ?_
      refine ia_if_lt (a := a4) (tgt := 35) hx hb d_Bytes_putFrom_10 (by decide) (by omega) (fun c3 => ?_) (fun c3 => ?_)
      · exfalso; omega
      · refine lv_iload_n hx hb d_Bytes_putFrom_13 rfl (lv_at hl 1 rfl) ?_
        refine lv_aload_n hx hb d_Bytes_putFrom_14 rfl (lv_at hl 0 rfl) ?_
        refine mw_get (ci := 0) (i := i) (v := .int (iI sz)) (C := R_Bytes) (T := T_Bytes) (N := 3) hx hb hts in_Bytes hown hK hM hB.1 rfl rfl 2 (by decide) (hts _ m_77) rfl d_Bytes_putFrom_15 ?_
        refine lv_iload hx hb d_Bytes_putFrom_18 (lv_at hl 4 rfl) ?_
        refine ia_sub hx hb d_Bytes_putFrom_20 ?_
        refine ia_icmp_gt (a := a1) (b := sz - a4) (tgt := 35) hx hb d_Bytes_putFrom_21 (by decide) (by omega) (by omega) (fun c4 => ?_) (fun c4 => ?_)
        · exfalso; omega
        · refine lv_iload_n hx hb d_Bytes_putFrom_24 rfl (lv_at hl 3 rfl) ?_
          refine lv_aload_n hx hb d_Bytes_putFrom_25 rfl (lv_at hl 2 rfl) ?_
          refine mw_get (ci := 0) (i := i2) (v := .int (iI sz2)) (C := R_Bytes) (T := T_Bytes) (N := 3) hx hb hts in_Bytes hown hK hM hB2.1 rfl rfl 2 (by decide) (hts _ m_77) rfl d_Bytes_putFrom_26 ?_
          refine lv_iload hx hb d_Bytes_putFrom_29 (lv_at hl 4 rfl) ?_
          refine ia_sub hx hb d_Bytes_putFrom_31 ?_
          refine ia_icmp_le (a := a3) (b := sz2 - a4) (tgt := 36) hx hb d_Bytes_putFrom_32 (by decide) (by omega) (by omega) (fun c5 => ?_) (fun c5 => ?_)
          · refine lv_aload_n hx hb d_Bytes_putFrom_36 rfl (lv_at hl 2 rfl) ?_
            refine mw_get (ci := 0) (i := i2) (v := .ref (L j2)) (C := R_Bytes) (T := T_Bytes) (N := 3) hx hb hts in_Bytes hown hK hM hB2.1 rfl rfl 1 (by decide) (hts _ m_76) rfl d_Bytes_putFrom_37 ?_
            refine lv_iload_n hx hb d_Bytes_putFrom_40 rfl (lv_at hl 3 rfl) ?_
            refine lv_aload_n hx hb d_Bytes_putFrom_41 rfl (lv_at hl 0 rfl) ?_
            refine mw_get (ci := 0) (i := i) (v := .ref (L j)) (C := R_Bytes) (T := T_Bytes) (N := 3) hx hb hts in_Bytes hown hK hM hB.1 rfl rfl 1 (by decide) (hts _ m_76) rfl d_Bytes_putFrom_42 ?_
            refine lv_iload_n hx hb d_Bytes_putFrom_45 rfl (lv_at hl 1 rfl) ?_
            refine lv_iload hx hb d_Bytes_putFrom_46 (lv_at hl 4 rfl) ?_
            refine mw_copyb (i := j2) (j := j) (sp := a3) (dp := a1) (n := a4) hx hb (hml.trans hl.1.symm) hown (hts _ m_116) (hts _ m_115) (hts _ m_114) (hts _ m_55) hK hM hS 0 0 hB2.2.1 hB.2.1 rfl rfl rfl rfl (by omega) (by omega) (by omega) (by omega) (by omega) (by omega) (by omega) (Nat.le_of_ble_eq_true rfl) (Nat.le_of_ble_eq_true rfl) d_Bytes_putFrom_48 (fun κ6 H locs e6 hk6 hM hS => ?_)
            have hB7 := bxs_keep hB2 (hk6 i2 (by omega)) (hk6 j2 (by omega)) rfl
            have e8 := (hk6 i (by omega)).trans hB.1
            exact mw_vret hx hb hr hM hS hlocks d_Bytes_putFrom_51 ⟨rfl, rfl, bxs_row hB e6 hk6 (cpy_r hB2.2.2.2.1 hB.2.2.2.1 _ _ _) (cpy_z hB.2.2.2.2 (by omega)), fun r h1 h2 => hk6 r h2⟩
          · exfalso; omega
set_option maxHeartbeats 4000000 in
set_option maxRecDepth 100000 in
theorem c_Bytes_openGap (l : Launch) (D : va_G) (g : Nat → ClassId) (lo : Nat) (L : Nat → Nat) (κ : Nat → Option va_E) (i j mo n sz : Nat) (b : Nat → Int) (hB : bxs g L κ i j mo n sz b) (a1 a2 : Int) (hG1 : 0 ≤ a1 ∧ a1 ≤ sz) (hG2 : 0 ≤ a2 ∧ a2 ≤ mo - sz) : Met l y_Bytes_openGap w_Bytes_openGap ({ frames := 2, cells := 1, slots := 2005, locals := 62 }) (mwP D vwCl (tyL g) lo L κ [.ref (L i), .int (iI a1), .int (iI a2)]) (mwQ D vwCl lo (bxW g L κ i j mo (sz + a2.toNat) (bGap b sz a1 a2))) 1 2005 (fun q => lo ≤ q) := by
  obtain ⟨hz1, hz2, hz3⟩ := hB.2.2.1
  have hij := bxs_ne hB
  refine Met.ofW (cc := b_Bytes_openGap) (maxL := 3) (ret := (Option.none : Option Jvm.ClassFile.FieldType)) (by decide) rfl ?_
  intro p e s m args below meth c s₁ B hml hpre
  obtain ⟨hargs, hM, hK⟩ := hpre
  have hx := B.exec
  have hb := B.bytes
  have hr := B.returns
  have hts : ∀ w ∈ wA, w.before args s = true := fun w h => atoms_spec (ws := w_Bytes_openGap) B.pre w (List.mem_cons_of_mem _ h)
  have hown : s.vm.findClass R_Bytes = some m.cls := findClass_of_methodNamed B.named
  have hlocks := B.notSynchronized
  have hS : va_S (fun q => lo ≤ q) s.heap s.heap [] := va_S.rf
  obtain ⟨ls, hls, hl⟩ := mw_entry (m := m) [.ref (L i), .int (iI a1), .int (iI a2)] (n := 3) (Nat.le_of_ble_eq_true rfl) hargs
  refine W.eq hls ?_
  have hl : lv_has ls 3 [(0, .ref (L i)), (1, .int (iI a1)), (2, .int (iI a2))] := hl
  refine lv_iload_n hx hb d_Bytes_openGap_0 rfl (lv_at hl 1 rfl) ?_
  refine ia_if_lt (a := a1) (tgt := 29) hx hb d_Bytes_openGap_1 (by decide) (by omega) (fun c1 => ?_) (fun c1 => ?_)
  · exfalso; omega
  · refine lv_iload_n hx hb d_Bytes_openGap_4 rfl (lv_at hl 1 rfl) ?_
    refine lv_aload_n hx hb d_Bytes_openGap_5 rfl (lv_at hl 0 rfl) ?_
    refine mw_get (ci := 0) (i := i) (v := .int (iI sz)) (C := R_Bytes) (T := T_Bytes) (N := 3) hx hb hts in_Bytes hown hK hM hB.1 rfl rfl 2 (by decide) (hts _ m_77) rfl d_Bytes_openGap_6 ?_
    refine ia_icmp_gt (a := a1) (b := sz) (tgt := 29) hx hb d_Bytes_openGap_9 (by decide) (by omega) (by omega) (fun c2 => ?_) (fun c2 => ?_)
    · exfalso; omega
    · refine lv_iload_n hx hb d_Bytes_openGap_12 rfl (lv_at hl 2 rfl) ?_
      refine ia_if_lt (a := a2) (tgt := 29) hx hb d_Bytes_openGap_13 (by decide) (by omega) (fun c3 => ?_) (fun c3 => ?_)
      · exfalso; omega
      · refine lv_iload_n hx hb d_Bytes_openGap_16 rfl (lv_at hl 2 rfl) ?_
        refine lv_aload_n hx hb d_Bytes_openGap_17 rfl (lv_at hl 0 rfl) ?_
        refine mw_get (ci := 0) (i := i) (v := .int (iI mo)) (C := R_Bytes) (T := T_Bytes) (N := 3) hx hb hts in_Bytes hown hK hM hB.1 rfl rfl 0 (by decide) (hts _ m_75) rfl d_Bytes_openGap_18 ?_
        refine lv_aload_n hx hb d_Bytes_openGap_21 rfl (lv_at hl 0 rfl) ?_
        refine mw_get (ci := 0) (i := i) (v := .int (iI sz)) (C := R_Bytes) (T := T_Bytes) (N := 3) hx hb hts in_Bytes hown hK hM hB.1 rfl rfl 2 (by decide) (hts _ m_77) rfl d_Bytes_openGap_22 ?_
        refine ia_sub hx hb d_Bytes_openGap_25 ?_
        refine ia_icmp_le (a := a2) (b := mo - sz) (tgt := 30) hx hb d_Bytes_openGap_26 (by decide) (by omega) (by omega) (fun c4 => ?_) (fun c4 => ?_)
        · refine lv_aload_n hx hb d_Bytes_openGap_30 rfl (lv_at hl 0 rfl) ?_
          refine mw_get (ci := 0) (i := i) (v := .int (iI sz)) (C := R_Bytes) (T := T_Bytes) (N := 3) hx hb hts in_Bytes hown hK hM hB.1 rfl rfl 2 (by decide) (hts _ m_77) rfl d_Bytes_openGap_31 ?_
          refine lv_iload_n hx hb d_Bytes_openGap_34 rfl (lv_at hl 2 rfl) ?_
          refine ia_add hx hb d_Bytes_openGap_35 ?_
          refine lv_aload_n hx hb d_Bytes_openGap_36 rfl (lv_at hl 0 rfl) ?_
          refine mw_get (ci := 0) (i := i) (v := .ref (L j)) (C := R_Bytes) (T := T_Bytes) (N := 3) hx hb hts in_Bytes hown hK hM hB.1 rfl rfl 1 (by decide) (hts _ m_76) rfl d_Bytes_openGap_37 ?_
          refine mw_alen (i := j) hx hb hK hM 0 hB.2.1 rfl rfl d_Bytes_openGap_40 ?_
          refine ia_icmp_le (a := sz + a2) (b := n) (tgt := 59) hx hb d_Bytes_openGap_41 (by decide) (by omega) (by omega) (fun c5 => ?_) (fun c5 => ?_)
          · refine lv_aload_n hx hb d_Bytes_openGap_59 rfl (lv_at hl 0 rfl) ?_
            refine mw_get (ci := 0) (i := i) (v := .ref (L j)) (C := R_Bytes) (T := T_Bytes) (N := 3) hx hb hts in_Bytes hown hK hM hB.1 rfl rfl 1 (by decide) (hts _ m_76) rfl d_Bytes_openGap_60 ?_
            refine lv_iload_n hx hb d_Bytes_openGap_63 rfl (lv_at hl 1 rfl) ?_
            refine lv_aload_n hx hb d_Bytes_openGap_64 rfl (lv_at hl 0 rfl) ?_
            refine mw_get (ci := 0) (i := i) (v := .ref (L j)) (C := R_Bytes) (T := T_Bytes) (N := 3) hx hb hts in_Bytes hown hK hM hB.1 rfl rfl 1 (by decide) (hts _ m_76) rfl d_Bytes_openGap_65 ?_
            refine lv_iload_n hx hb d_Bytes_openGap_68 rfl (lv_at hl 1 rfl) ?_
            refine lv_iload_n hx hb d_Bytes_openGap_69 rfl (lv_at hl 2 rfl) ?_
            refine ia_add hx hb d_Bytes_openGap_70 ?_
            refine lv_aload_n hx hb d_Bytes_openGap_71 rfl (lv_at hl 0 rfl) ?_
            refine mw_get (ci := 0) (i := i) (v := .int (iI sz)) (C := R_Bytes) (T := T_Bytes) (N := 3) hx hb hts in_Bytes hown hK hM hB.1 rfl rfl 2 (by decide) (hts _ m_77) rfl d_Bytes_openGap_72 ?_
            refine lv_iload_n hx hb d_Bytes_openGap_75 rfl (lv_at hl 1 rfl) ?_
            refine ia_sub hx hb d_Bytes_openGap_76 ?_
            refine mw_copyb (i := j) (j := j) (sp := a1) (dp := a1 + a2) (n := sz - a1) hx hb (hml.trans hl.1.symm) hown (hts _ m_116) (hts _ m_115) (hts _ m_114) (hts _ m_55) hK hM hS 0 0 hB.2.1 hB.2.1 rfl rfl rfl rfl (by omega) (by omega) (by omega) (by omega) (by omega) (by omega) (by omega) (Nat.le_of_ble_eq_true rfl) (Nat.le_of_ble_eq_true rfl) d_Bytes_openGap_77 (fun κ6 H locs e6 hk6 hM hS => ?_)
            have e7 := (hk6 i (by omega)).trans hB.1
            refine lv_aload_n hx hb d_Bytes_openGap_80 rfl (lv_at hl 0 rfl) ?_
            refine lv_dup hx hb d_Bytes_openGap_81 rfl ?_
            refine mw_get (ci := 0) (i := i) (v := .int (iI sz)) (C := R_Bytes) (T := T_Bytes) (N := 3) hx hb hts in_Bytes hown hK hM e7 rfl rfl 2 (by decide) (hts _ m_77) rfl d_Bytes_openGap_82 ?_
            refine lv_iload_n hx hb d_Bytes_openGap_85 rfl (lv_at hl 2 rfl) ?_
            refine ia_add hx hb d_Bytes_openGap_86 ?_
            refine mw_put (ci := 0) (i := i) (v := .int (iI (sz + a2))) (C := R_Bytes) (T := T_Bytes) (N := 3) hx hb hts in_Bytes ty_Bytes ty_Bytes_ok nm_Bytes hown hK hM hS e7 rfl rfl 2 (by decide) (hts _ m_77) rfl (ty_Bytes_ok 2 (by decide)) rfl rfl (Nat.le_of_ble_eq_true rfl) d_Bytes_openGap_87 (fun κ8 H locs e8 hk8 hM hS => ?_)
            have e8 : κ8 i = some (.inr (0, [.int (iI mo), .ref (L j), .int (iI (sz + a2))])) := e8
            have e9 := (hk8 j (by omega)).trans e6
            refine W.widen (k := 1) (n := 2005) (by omega) (by omega) ?_
            exact mw_vret hx hb hr hM hS hlocks d_Bytes_openGap_90 ⟨n, rfl, (fun r h1 => rfl), ⟨by rw [show ((sz + a2.toNat : Nat) : Int) = sz + a2 by omega]; exact e8, e9, ⟨by omega, by omega, by omega⟩, cpy_r hB.2.2.2.1 hB.2.2.2.1 _ _ _, cpy_z hB.2.2.2.2 (by omega)⟩, fun r h1 h2 => by rw [hk8 r h1, hk6 r h2]⟩
          · refine lv_aload_n hx hb d_Bytes_openGap_44 rfl (lv_at hl 0 rfl) ?_
            refine lv_aload_n hx hb d_Bytes_openGap_45 rfl (lv_at hl 0 rfl) ?_
            refine mw_get (ci := 0) (i := i) (v := .ref (L j)) (C := R_Bytes) (T := T_Bytes) (N := 3) hx hb hts in_Bytes hown hK hM hB.1 rfl rfl 1 (by decide) (hts _ m_76) rfl d_Bytes_openGap_46 ?_
            refine lv_aload_n hx hb d_Bytes_openGap_49 rfl (lv_at hl 0 rfl) ?_
            refine mw_get (ci := 0) (i := i) (v := .int (iI mo)) (C := R_Bytes) (T := T_Bytes) (N := 3) hx hb hts in_Bytes hown hK hM hB.1 rfl rfl 0 (by decide) (hts _ m_75) rfl d_Bytes_openGap_50 ?_
            refine mw_callS (As := [.ref (L j), .int (iI mo)]) (rest := [.ref (L i)]) ⟨hx, hb, hml, hown, hts⟩ hK hM hS (c_Arrays_copyOf l D g lo L κ j n mo b hB.2.1 (by omega) hB.2.2.2.1 hB.2.2.2.2) (va_cwS 2 hts (gT m_100 m_101 m_53 m_102) rfl rfl rfl (by decide +kernel) ⟨Nat.le_of_ble_eq_true rfl, Nat.le_of_ble_eq_true rfl⟩) rfl hl.1 rfl (Nat.le_of_ble_eq_true rfl) d_Bytes_openGap_53 ⟨Nat.le_of_ble_eq_true rfl, Nat.le_of_ble_eq_true rfl⟩ (fun v10 L10 κ10 H locs hp10 hM hS => ?_)
            obtain ⟨rfl, hL10, e10, hk10⟩ := hp10
            have e11 := (hk10 i (by omega)).trans hB.1
            refine mw_put (ci := 0) (i := i) (v := .ref (L10 j)) (C := R_Bytes) (T := T_Bytes) (N := 3) hx hb hts in_Bytes ty_Bytes ty_Bytes_ok nm_Bytes hown hK hM hS e11 (hL10 i (by omega)) rfl 1 (by decide) (hts _ m_76) rfl (ty_Bytes_ok 1 (by decide)) rfl rfl (Nat.le_of_ble_eq_true rfl) d_Bytes_openGap_56 (fun κ12 H locs e12 hk12 hM hS => ?_)
            have e12 : κ12 i = some (.inr (0, [.int (iI mo), .ref (L10 j), .int (iI sz)])) := e12
            have e13 := (hk12 j (by omega)).trans e10
            refine lv_aload_n hx hb d_Bytes_openGap_59 rfl (lv_at hl 0 rfl) ?_
            refine mw_get (ci := 0) (i := i) (v := .ref (L10 j)) (C := R_Bytes) (T := T_Bytes) (N := 3) hx hb hts in_Bytes hown hK hM e12 (hL10 i (by omega)) rfl 1 (by decide) (hts _ m_76) rfl d_Bytes_openGap_60 ?_
            refine lv_iload_n hx hb d_Bytes_openGap_63 rfl (lv_at hl 1 rfl) ?_
            refine lv_aload_n hx hb d_Bytes_openGap_64 rfl (lv_at hl 0 rfl) ?_
            refine mw_get (ci := 0) (i := i) (v := .ref (L10 j)) (C := R_Bytes) (T := T_Bytes) (N := 3) hx hb hts in_Bytes hown hK hM e12 (hL10 i (by omega)) rfl 1 (by decide) (hts _ m_76) rfl d_Bytes_openGap_65 ?_
            refine lv_iload_n hx hb d_Bytes_openGap_68 rfl (lv_at hl 1 rfl) ?_
            refine lv_iload_n hx hb d_Bytes_openGap_69 rfl (lv_at hl 2 rfl) ?_
            refine ia_add hx hb d_Bytes_openGap_70 ?_
            refine lv_aload_n hx hb d_Bytes_openGap_71 rfl (lv_at hl 0 rfl) ?_
            refine mw_get (ci := 0) (i := i) (v := .int (iI sz)) (C := R_Bytes) (T := T_Bytes) (N := 3) hx hb hts in_Bytes hown hK hM e12 (hL10 i (by omega)) rfl 2 (by decide) (hts _ m_77) rfl d_Bytes_openGap_72 ?_
            refine lv_iload_n hx hb d_Bytes_openGap_75 rfl (lv_at hl 1 rfl) ?_
            refine ia_sub hx hb d_Bytes_openGap_76 ?_
            refine mw_copyb (i := j) (j := j) (sp := a1) (dp := a1 + a2) (n := sz - a1) hx hb (hml.trans hl.1.symm) hown (hts _ m_116) (hts _ m_115) (hts _ m_114) (hts _ m_55) hK hM hS 0 0 e13 e13 rfl rfl rfl rfl (by omega) (by omega) (by omega) (by omega) (by omega) (by omega) (by omega) (Nat.le_of_ble_eq_true rfl) (Nat.le_of_ble_eq_true rfl) d_Bytes_openGap_77 (fun κ14 H locs e14 hk14 hM hS => ?_)
            have e15 := (hk14 i (by omega)).trans e12
            refine lv_aload_n hx hb d_Bytes_openGap_80 rfl (lv_at hl 0 rfl) ?_
            refine lv_dup hx hb d_Bytes_openGap_81 rfl ?_
            refine mw_get (ci := 0) (i := i) (v := .int (iI sz)) (C := R_Bytes) (T := T_Bytes) (N := 3) hx hb hts in_Bytes hown hK hM e15 (hL10 i (by omega)) rfl 2 (by decide) (hts _ m_77) rfl d_Bytes_openGap_82 ?_
            refine lv_iload_n hx hb d_Bytes_openGap_85 rfl (lv_at hl 2 rfl) ?_
            refine ia_add hx hb d_Bytes_openGap_86 ?_
            refine mw_put (ci := 0) (i := i) (v := .int (iI (sz + a2))) (C := R_Bytes) (T := T_Bytes) (N := 3) hx hb hts in_Bytes ty_Bytes ty_Bytes_ok nm_Bytes hown hK hM hS e15 (hL10 i (by omega)) rfl 2 (by decide) (hts _ m_77) rfl (ty_Bytes_ok 2 (by decide)) rfl rfl (Nat.le_of_ble_eq_true rfl) d_Bytes_openGap_87 (fun κ16 H locs e16 hk16 hM hS => ?_)
            have e16 : κ16 i = some (.inr (0, [.int (iI mo), .ref (L10 j), .int (iI (sz + a2))])) := e16
            have e17 := (hk16 j (by omega)).trans e14
            exact mw_vret hx hb hr hM hS hlocks d_Bytes_openGap_90 ⟨mo, rfl, hL10, ⟨by rw [show ((sz + a2.toNat : Nat) : Int) = sz + a2 by omega]; exact e16, e17, ⟨by omega, by omega, by omega⟩, cpy_r hB.2.2.2.1 hB.2.2.2.1 _ _ _, cpy_z (fun x hx => hB.2.2.2.2 x (by omega)) (by omega)⟩, fun r h1 h2 => by rw [hk16 r h1, hk14 r h2, hk12 r h1, hk10 r h2]⟩
        · exfalso; omega
set_option maxHeartbeats 4000000 in
set_option maxRecDepth 100000 in
theorem c_Bytes_appendFrom (l : Launch) (D : va_G) (g : Nat → ClassId) (lo : Nat) (L : Nat → Nat) (κ : Nat → Option va_E) (i j mo n sz : Nat) (b : Nat → Int) (hB : bxs g L κ i j mo n sz b) (i2 j2 mo2 n2 sz2 : Nat) (b2 : Nat → Int) (hB2 : bxs g L κ i2 j2 mo2 n2 sz2 b2) (a2 a3 : Int) (hd : i ≠ i2 ∧ i ≠ j2 ∧ j ≠ i2 ∧ j ≠ j2) (hG : 0 ≤ a2 ∧ 0 ≤ a3 ∧ a2 ≤ sz2 - a3 ∧ a3 ≤ mo - sz) : Met l y_Bytes_appendFrom w_Bytes_appendFrom ({ frames := 3, cells := 1, slots := 2005, locals := 84 }) (mwP D vwCl (tyL g) lo L κ [.ref (L i), .ref (L i2), .int (iI a2), .int (iI a3)]) (mwQ D vwCl lo (bxW g L κ i j mo (sz + a3.toNat) (bApp b sz b2 a2 a3))) 1 2005 (fun q => lo ≤ q) := by
  obtain ⟨hz1, hz2, hz3⟩ := hB.2.2.1
  obtain ⟨hy1, hy2, hy3⟩ := hB2.2.2.1
  have hij := bxs_ne hB
  have hij2 := bxs_ne hB2
  refine Met.ofW (cc := b_Bytes_appendFrom) (maxL := 5) (ret := (Option.none : Option Jvm.ClassFile.FieldType)) (by decide) rfl ?_
  intro p e s m args below meth c s₁ B hml hpre
  obtain ⟨hargs, hM, hK⟩ := hpre
  have hx := B.exec
  have hb := B.bytes
  have hr := B.returns
  have hts : ∀ w ∈ wA, w.before args s = true := fun w h => atoms_spec (ws := w_Bytes_appendFrom) B.pre w (List.mem_cons_of_mem _ h)
  have hown : s.vm.findClass R_Bytes = some m.cls := findClass_of_methodNamed B.named
  have hlocks := B.notSynchronized
  have hS : va_S (fun q => lo ≤ q) s.heap s.heap [] := va_S.rf
  obtain ⟨ls, hls, hl⟩ := mw_entry (m := m) [.ref (L i), .ref (L i2), .int (iI a2), .int (iI a3)] (n := 5) (Nat.le_of_ble_eq_true rfl) hargs
  refine W.eq hls ?_
  have hl : lv_has ls 5 [(0, .ref (L i)), (1, .ref (L i2)), (2, .int (iI a2)), (3, .int (iI a3))] := hl
  refine lv_aload_n hx hb d_Bytes_appendFrom_0 rfl (lv_at hl 0 rfl) ?_
  refine mw_get (ci := 0) (i := i) (v := .int (iI sz)) (C := R_Bytes) (T := T_Bytes) (N := 3) hx hb hts in_Bytes hown hK hM hB.1 rfl rfl 2 (by decide) (hts _ m_77) rfl d_Bytes_appendFrom_1 ?_
  refine lv_istore (lv' := [(4, .int (iI sz)), (0, .ref (L i)), (1, .ref (L i2)), (2, .int (iI a2)), (3, .int (iI a3))]) hx hb d_Bytes_appendFrom_4 hl (by decide) rfl (fun ls hl => ?_)
  refine lv_aload_n hx hb d_Bytes_appendFrom_6 rfl (lv_at hl 1 rfl) ?_
  refine lv_iload hx hb d_Bytes_appendFrom_7 (lv_at hl 0 rfl) ?_
  refine lv_iload_n hx hb d_Bytes_appendFrom_9 rfl (lv_at hl 4 rfl) ?_
  refine mw_callV (i := i) (As := [.int (iI sz), .int (iI a3)]) (rest := []) ⟨hx, hb, hml, hown, hts⟩ hK hM hS rfl hB.1 rfl (c_Bytes_openGap l D g lo L κ i j mo n sz b hB sz a3 (by omega) (by omega)) (cwV 2 hts (gV m_96 m_97 m_98 m_52 m_99) rfl rfl rfl (by decide +kernel) ⟨Nat.le_of_ble_eq_true rfl, Nat.le_of_ble_eq_true rfl⟩) rfl hl.1 rfl (Nat.le_of_ble_eq_true rfl) d_Bytes_appendFrom_10 ⟨Nat.le_of_ble_eq_true rfl, Nat.le_of_ble_eq_true rfl⟩ (fun v1 L1 κ1 H locs hp1 hM hS => ?_)
  obtain ⟨n1, rfl, hL1, hB1, hk1⟩ := hp1
  have hB1 : bxs g L1 κ1 i j mo n1 (sz + a3.toNat) (bGap b sz sz a3) := hB1
  have r2 := hB1.2.2.1
  have hB3 := bxs_keep hB2 (hk1 i2 (by omega) (by omega)) (hk1 j2 (by omega) (by omega)) (hL1 j2 (by omega))
  refine lv_aload_n hx hb d_Bytes_appendFrom_13 rfl (lv_at hl 1 rfl) ?_
  refine lv_iload hx hb d_Bytes_appendFrom_14 (lv_at hl 0 rfl) ?_
  refine lv_aload_n hx hb d_Bytes_appendFrom_16 rfl (lv_at hl 2 rfl) ?_
  refine lv_iload_n hx hb d_Bytes_appendFrom_17 rfl (lv_at hl 3 rfl) ?_
  refine lv_iload_n hx hb d_Bytes_appendFrom_18 rfl (lv_at hl 4 rfl) ?_
  refine mw_callV (i := i) (As := [.int (iI sz), .ref (L1 i2), .int (iI a2), .int (iI a3)]) (rest := []) ⟨hx, hb, hml, hown, hts⟩ hK hM hS (hL1 i (by omega)) hB1.1 rfl (c_Bytes_putFrom l D g lo L1 κ1 i j mo n1 (sz + a3.toNat) (bGap b sz sz a3) hB1 i2 j2 mo2 n2 sz2 b2 hB3 sz a2 a3 (by omega) (by omega)) (cwV 4 hts (gV m_366 m_367 m_368 m_52 m_369) rfl rfl rfl (by decide +kernel) ⟨Nat.le_of_ble_eq_true rfl, Nat.le_of_ble_eq_true rfl⟩) rfl hl.1 (by rw [show L1 i2 = L i2 from (hL1 i2 (by omega))]; rfl) (Nat.le_of_ble_eq_true rfl) d_Bytes_appendFrom_19 ⟨Nat.le_of_ble_eq_true rfl, Nat.le_of_ble_eq_true rfl⟩ (fun v4 L4 κ4 H locs hp4 hM hS => ?_)
  obtain ⟨rfl, rfl, hB4, hk4⟩ := hp4
  have hB5 := bxs_keep hB3 (hk4 i2 (by omega) (by omega)) (hk4 j2 (by omega) (by omega)) rfl
  exact mw_vret hx hb hr hM hS hlocks d_Bytes_appendFrom_22 ⟨_, rfl, fun r h1 => by rw [hL1 r h1], hB4, fun r h1 h2 => by rw [hk4 r h1 h2, hk1 r h1 h2]⟩
set_option maxHeartbeats 4000000 in
set_option maxRecDepth 100000 in
theorem c_Bytes_appendNumber (l : Launch) (D : va_G) (g : Nat → ClassId) (lo : Nat) (L : Nat → Nat) (κ : Nat → Option va_E) (i j mo n sz : Nat) (b : Nat → Int) (hB : bxs g L κ i j mo n sz b) (v a2 : Int) (ha2 : 0 ≤ a2 ∧ a2 ≤ 8 ∧ a2 ≤ mo - sz) (hv : -9223372036854775808 ≤ v ∧ v < 9223372036854775808) : Met l y_Bytes_appendNumber w_Bytes_appendNumber ({ frames := 3, cells := 1, slots := 2005, locals := 84 }) (mwP D vwCl (tyL g) lo L κ [.ref (L i), .long (lI v), .int (iI a2)]) (mwQ D vwCl lo (bxW g L κ i j mo (sz + a2.toNat) (bAppNum b sz v a2))) 1 2005 (fun q => lo ≤ q) := by
  obtain ⟨hz1, hz2, hz3⟩ := hB.2.2.1
  have hij := bxs_ne hB
  refine Met.ofW (cc := b_Bytes_appendNumber) (maxL := 5) (ret := (Option.none : Option Jvm.ClassFile.FieldType)) (by decide) rfl ?_
  intro p e s m args below meth c s₁ B hml hpre
  obtain ⟨hargs, hM, hK⟩ := hpre
  have hx := B.exec
  have hb := B.bytes
  have hr := B.returns
  have hts : ∀ w ∈ wA, w.before args s = true := fun w h => atoms_spec (ws := w_Bytes_appendNumber) B.pre w (List.mem_cons_of_mem _ h)
  have hown : s.vm.findClass R_Bytes = some m.cls := findClass_of_methodNamed B.named
  have hlocks := B.notSynchronized
  have hS : va_S (fun q => lo ≤ q) s.heap s.heap [] := va_S.rf
  obtain ⟨ls, hls, hl⟩ := mw_entry (m := m) [.ref (L i), .long (lI v), .int (iI a2)] (n := 5) (Nat.le_of_ble_eq_true rfl) hargs
  refine W.eq hls ?_
  have hl : lv_has ls 5 [(0, .ref (L i)), (1, .long (lI v)), (3, .int (iI a2))] := hl
  refine lv_aload_n hx hb d_Bytes_appendNumber_0 rfl (lv_at hl 0 rfl) ?_
  refine mw_get (ci := 0) (i := i) (v := .int (iI sz)) (C := R_Bytes) (T := T_Bytes) (N := 3) hx hb hts in_Bytes hown hK hM hB.1 rfl rfl 2 (by decide) (hts _ m_77) rfl d_Bytes_appendNumber_1 ?_
  refine lv_istore (lv' := [(4, .int (iI sz)), (0, .ref (L i)), (1, .long (lI v)), (3, .int (iI a2))]) hx hb d_Bytes_appendNumber_4 hl (by decide) rfl (fun ls hl => ?_)
  refine lv_aload_n hx hb d_Bytes_appendNumber_6 rfl (lv_at hl 1 rfl) ?_
  refine lv_iload hx hb d_Bytes_appendNumber_7 (lv_at hl 0 rfl) ?_
  refine lv_iload_n hx hb d_Bytes_appendNumber_9 rfl (lv_at hl 3 rfl) ?_
  refine mw_callV (i := i) (As := [.int (iI sz), .int (iI a2)]) (rest := []) ⟨hx, hb, hml, hown, hts⟩ hK hM hS rfl hB.1 rfl (c_Bytes_openGap l D g lo L κ i j mo n sz b hB sz a2 (by omega) (by omega)) (cwV 2 hts (gV m_96 m_97 m_98 m_52 m_99) rfl rfl rfl (by decide +kernel) ⟨Nat.le_of_ble_eq_true rfl, Nat.le_of_ble_eq_true rfl⟩) rfl hl.1 rfl (Nat.le_of_ble_eq_true rfl) d_Bytes_appendNumber_10 ⟨Nat.le_of_ble_eq_true rfl, Nat.le_of_ble_eq_true rfl⟩ (fun v1 L1 κ1 H locs hp1 hM hS => ?_)
  obtain ⟨n1, rfl, hL1, hB1, hk1⟩ := hp1
  have hB1 : bxs g L1 κ1 i j mo n1 (sz + a2.toNat) (bGap b sz sz a2) := hB1
  have r2 := hB1.2.2.1
  refine lv_aload_n hx hb d_Bytes_appendNumber_13 rfl (lv_at hl 1 rfl) ?_
  refine lv_iload hx hb d_Bytes_appendNumber_14 (lv_at hl 0 rfl) ?_
  refine lv_iload_n hx hb d_Bytes_appendNumber_16 rfl (lv_at hl 3 rfl) ?_
  refine lv_lload_n hx hb d_Bytes_appendNumber_17 rfl (lv_at hl 2 rfl) ?_
  refine mw_callV (i := i) (As := [.int (iI sz), .int (iI a2), .long (lI v)]) (rest := []) ⟨hx, hb, hml, hown, hts⟩ hK hM hS (hL1 i (by omega)) hB1.1 rfl (c_Bytes_putNumber l D g lo L1 κ1 i j mo n1 (sz + a2.toNat) (bGap b sz sz a2) hB1 sz a2 v (by omega) (by omega) (by omega)) (cwV 3 hts (gV m_117 m_118 m_119 m_52 m_120) rfl rfl rfl (by decide +kernel) ⟨Nat.le_of_ble_eq_true rfl, Nat.le_of_ble_eq_true rfl⟩) rfl hl.1 rfl (Nat.le_of_ble_eq_true rfl) d_Bytes_appendNumber_18 ⟨Nat.le_of_ble_eq_true rfl, Nat.le_of_ble_eq_true rfl⟩ (fun v3 L3 κ3 H locs hp3 hM hS => ?_)
  obtain ⟨rfl, rfl, hB3, hk3⟩ := hp3
  exact mw_vret hx hb hr hM hS hlocks d_Bytes_appendNumber_21 ⟨_, rfl, fun r h1 => by rw [hL1 r h1], hB3, fun r h1 h2 => by rw [hk3 r h1 h2, hk1 r h1 h2]⟩
set_option maxHeartbeats 4000000 in
set_option maxRecDepth 100000 in
theorem c_Bytes_appendHighestFirst (l : Launch) (D : va_G) (g : Nat → ClassId) (lo : Nat) (L : Nat → Nat) (κ : Nat → Option va_E) (i j mo n sz : Nat) (b : Nat → Int) (hB : bxs g L κ i j mo n sz b) (v : Int) (hv : -2147483648 ≤ v ∧ v < 2147483648) (hG : 4 ≤ (mo : Int) - sz) : Met l y_Bytes_appendHighestFirst w_Bytes_appendHighestFirst ({ frames := 3, cells := 1, slots := 2005, locals := 84 }) (mwP D vwCl (tyL g) lo L κ [.ref (L i), .int (iI v)]) (mwQ D vwCl lo (bxW g L κ i j mo (sz + 4) (bAppHf b sz v))) 1 2005 (fun q => lo ≤ q) := by
  obtain ⟨hz1, hz2, hz3⟩ := hB.2.2.1
  have hij := bxs_ne hB
  refine Met.ofW (cc := b_Bytes_appendHighestFirst) (maxL := 4) (ret := (Option.none : Option Jvm.ClassFile.FieldType)) (by decide) rfl ?_
  intro p e s m args below meth c s₁ B hml hpre
  obtain ⟨hargs, hM, hK⟩ := hpre
  have hx := B.exec
  have hb := B.bytes
  have hr := B.returns
  have hts : ∀ w ∈ wA, w.before args s = true := fun w h => atoms_spec (ws := w_Bytes_appendHighestFirst) B.pre w (List.mem_cons_of_mem _ h)
  have hown : s.vm.findClass R_Bytes = some m.cls := findClass_of_methodNamed B.named
  have hlocks := B.notSynchronized
  have hS : va_S (fun q => lo ≤ q) s.heap s.heap [] := va_S.rf
  have loop13 : ∀ (N : Nat) (k : Int) (n1 : Nat) (b1 : Nat → Int) (L1 : Nat → Nat) (κ1 : Nat → Option va_E), (4 - k).toNat < N → (bxs g L1 κ1 i j mo n1 (sz + 4) b1) → (∀ r, r ≠ i → r ≠ j → κ1 r = κ r) → (∀ r, r ≠ j → L1 r = L r) → (0 ≤ k ∧ k ≤ 4) → (bAppHf b sz v = bHf (sz + 4) sz v k b1) → ∀ (H : Heap) (locs : List Loc) (ls : Array Slot), mw D vwCl lo L1 κ1 H → va_S (fun q => lo ≤ q) s.heap H locs → lv_has ls 4 [(3, .int (iI k)), (2, .int (iI sz)), (0, .ref (L i)), (1, .int (iI v))] → W p l e (headSpec w_Bytes_appendHighestFirst ({ frames := 3, cells := 1, slots := 2005, locals := 84 })).room s m args below meth c H locs 1 2005 (MQ below (mwQ D vwCl lo (bxW g L κ i j mo (sz + 4) (bAppHf b sz v))) args s 1 2005 (fun q => lo ≤ q)) (F0 m 13 ls []) := by
    intro N
    induction N with
    | zero => intro k n1 b1 L1 κ1 hms; exact absurd hms (Nat.not_lt_zero _)
    | succ N ih =>
      intro k n1 b1 L1 κ1 hms hB1 hf hLf hk hres H locs ls hM hS hl
      refine lv_iload_n hx hb d_Bytes_appendHighestFirst_13 rfl (lv_at hl 0 rfl) ?_
      refine lv_iconst (v := iI (4)) hx hb d_Bytes_appendHighestFirst_14 rfl ?_
      refine ia_icmp_ge (a := k) (b := 4) (tgt := 40) hx hb d_Bytes_appendHighestFirst_15 (by decide) (by omega) (by omega) (fun c1 => ?_) (fun c1 => ?_)
      · exact mw_vret hx hb hr hM hS hlocks d_Bytes_appendHighestFirst_40 ⟨n1, rfl, hLf, by rw [hres, bHf_end (by omega)]; exact hB1, hf⟩
      · refine lv_aload_n hx hb d_Bytes_appendHighestFirst_18 rfl (lv_at hl 2 rfl) ?_
        refine lv_iload_n hx hb d_Bytes_appendHighestFirst_19 rfl (lv_at hl 1 rfl) ?_
        refine lv_iload_n hx hb d_Bytes_appendHighestFirst_20 rfl (lv_at hl 0 rfl) ?_
        refine ia_add hx hb d_Bytes_appendHighestFirst_21 ?_
        refine lv_iload_n hx hb d_Bytes_appendHighestFirst_22 rfl (lv_at hl 3 rfl) ?_
        refine lv_bipush (v := iI (24)) hx hb d_Bytes_appendHighestFirst_23 (by decide) ?_
        refine lv_bipush (v := iI (8)) hx hb d_Bytes_appendHighestFirst_25 (by decide) ?_
        refine lv_iload_n hx hb d_Bytes_appendHighestFirst_27 rfl (lv_at hl 0 rfl) ?_
        refine ia_mul hx hb d_Bytes_appendHighestFirst_28 ?_
        refine ia_sub hx hb d_Bytes_appendHighestFirst_29 ?_
        refine ia_ishr hx hb (by omega) (by omega) d_Bytes_appendHighestFirst_30 ?_
        refine mw_callV (i := i) (As := [.int (iI (sz + k)), .int (iI (v / 2 ^ (24 - (8 * k)).toNat))]) (rest := []) ⟨hx, hb, hml, hown, hts⟩ hK hM hS (hLf i hij) hB1.1 rfl (c_Bytes_put l D g lo L1 κ1 i j mo n1 (sz + 4) b1 hB1 (sz + k) (v / 2 ^ (24 - (8 * k)).toNat) (by omega)) (cwV 2 hts (gV m_121 m_122 m_123 m_52 m_124) rfl rfl rfl (by decide +kernel) ⟨Nat.le_of_ble_eq_true rfl, Nat.le_of_ble_eq_true rfl⟩) rfl hl.1 rfl (Nat.le_of_ble_eq_true rfl) d_Bytes_appendHighestFirst_31 ⟨Nat.le_of_ble_eq_true rfl, Nat.le_of_ble_eq_true rfl⟩ (fun v2 L2 κ2 H locs hp2 hM hS => ?_)
        obtain ⟨rfl, rfl, hB2, hk2⟩ := hp2
        refine lv_iinc (v := iI (k + 1)) (lv' := [(3, .int (iI (k + 1))), (2, .int (iI sz)), (0, .ref (L i)), (1, .int (iI v))]) hx hb d_Bytes_appendHighestFirst_34 hl (k := 0) rfl (iI_inc _ _) (by decide) rfl (fun ls hl => ?_)
        refine lv_goto (tgt := 13) hx hb d_Bytes_appendHighestFirst_37 (by decide) ?_
        exact ih (k + 1) n1 (bPut b1 (sz + 4) (sz + k) (v / 2 ^ (24 - (8 * k)).toNat)) L1 κ2 (by omega) hB2 (fun r h1 h2 => (hk2 r h1 h2).trans (hf r h1 h2)) hLf (by omega) (by rw [hres, bHf_step (by omega)]) _ _ ls hM hS (lv_sub hl [0, 1, 2, 3] rfl)
  obtain ⟨ls, hls, hl⟩ := mw_entry (m := m) [.ref (L i), .int (iI v)] (n := 4) (Nat.le_of_ble_eq_true rfl) hargs
  refine W.eq hls ?_
  have hl : lv_has ls 4 [(0, .ref (L i)), (1, .int (iI v))] := hl
  refine lv_aload_n hx hb d_Bytes_appendHighestFirst_0 rfl (lv_at hl 0 rfl) ?_
  refine mw_get (ci := 0) (i := i) (v := .int (iI sz)) (C := R_Bytes) (T := T_Bytes) (N := 3) hx hb hts in_Bytes hown hK hM hB.1 rfl rfl 2 (by decide) (hts _ m_77) rfl d_Bytes_appendHighestFirst_1 ?_
  refine lv_istore_n (lv' := [(2, .int (iI sz)), (0, .ref (L i)), (1, .int (iI v))]) hx hb d_Bytes_appendHighestFirst_4 rfl hl (by decide) rfl (fun ls hl => ?_)
  refine lv_aload_n hx hb d_Bytes_appendHighestFirst_5 rfl (lv_at hl 1 rfl) ?_
  refine lv_iload_n hx hb d_Bytes_appendHighestFirst_6 rfl (lv_at hl 0 rfl) ?_
  refine lv_iconst (v := iI (4)) hx hb d_Bytes_appendHighestFirst_7 rfl ?_
  refine mw_callV (i := i) (As := [.int (iI sz), .int (iI 4)]) (rest := []) ⟨hx, hb, hml, hown, hts⟩ hK hM hS rfl hB.1 rfl (c_Bytes_openGap l D g lo L κ i j mo n sz b hB sz 4 (by omega) (by omega)) (cwV 2 hts (gV m_96 m_97 m_98 m_52 m_99) rfl rfl rfl (by decide +kernel) ⟨Nat.le_of_ble_eq_true rfl, Nat.le_of_ble_eq_true rfl⟩) rfl hl.1 rfl (Nat.le_of_ble_eq_true rfl) d_Bytes_appendHighestFirst_8 ⟨Nat.le_of_ble_eq_true rfl, Nat.le_of_ble_eq_true rfl⟩ (fun v3 L3 κ3 H locs hp3 hM hS => ?_)
  obtain ⟨n3, rfl, hL3, hB3, hk3⟩ := hp3
  have hB3 : bxs g L3 κ3 i j mo n3 (sz + 4) (bGap b sz sz 4) := hB3
  have r4 := hB3.2.2.1
  refine lv_iconst (v := iI (0)) hx hb d_Bytes_appendHighestFirst_11 rfl ?_
  refine lv_istore_n (lv' := [(3, .int (iI 0)), (2, .int (iI sz)), (0, .ref (L i)), (1, .int (iI v))]) hx hb d_Bytes_appendHighestFirst_12 rfl hl (by decide) rfl (fun ls hl => ?_)
  exact loop13 _ 0 n3 (bGap b sz sz 4) L3 κ3 (Nat.lt_succ_self _) hB3 hk3 hL3 (by omega) rfl _ _ ls hM hS (lv_sub hl [0, 1, 2, 3] rfl)
set_option maxHeartbeats 4000000 in
set_option maxRecDepth 100000 in
theorem c_Bytes_appendEmptyDocument (l : Launch) (D : va_G) (g : Nat → ClassId) (lo : Nat) (L : Nat → Nat) (κ : Nat → Option va_E) (i j mo n sz : Nat) (b : Nat → Int) (hB : bxs g L κ i j mo n sz b) (hG : 5 ≤ (mo : Int) - sz) : Met l y_Bytes_appendEmptyDocument w_Bytes_appendEmptyDocument ({ frames := 4, cells := 2, slots := 4010, locals := 108 }) (mwP D vwCl (tyL g) lo L κ [.ref (L i)]) (mwQ D vwCl lo (bxW g L κ i j mo (sz + 4 + 1) (bAppNum (bAppNum b sz 5 4) (sz + 4) 0 1))) 2 4010 (fun q => lo ≤ q) := by
  obtain ⟨hz1, hz2, hz3⟩ := hB.2.2.1
  have hij := bxs_ne hB
  refine Met.ofW (cc := b_Bytes_appendEmptyDocument) (maxL := 1) (ret := (Option.none : Option Jvm.ClassFile.FieldType)) (by decide) rfl ?_
  intro p e s m args below meth c s₁ B hml hpre
  obtain ⟨hargs, hM, hK⟩ := hpre
  have hx := B.exec
  have hb := B.bytes
  have hr := B.returns
  have hts : ∀ w ∈ wA, w.before args s = true := fun w h => atoms_spec (ws := w_Bytes_appendEmptyDocument) B.pre w (List.mem_cons_of_mem _ h)
  have hown : s.vm.findClass R_Bytes = some m.cls := findClass_of_methodNamed B.named
  have hlocks := B.notSynchronized
  have hS : va_S (fun q => lo ≤ q) s.heap s.heap [] := va_S.rf
  obtain ⟨ls, hls, hl⟩ := mw_entry (m := m) [.ref (L i)] (n := 1) (Nat.le_of_ble_eq_true rfl) hargs
  refine W.eq hls ?_
  have hl : lv_has ls 1 [(0, .ref (L i))] := hl
  refine lv_aload_n hx hb d_Bytes_appendEmptyDocument_0 rfl (lv_at hl 0 rfl) ?_
  refine lv_ldc2 (v := 5) hx hb hown (hts _ m_91) d_Bytes_appendEmptyDocument_1 ?_
  refine W.eq (g2 := F0 m 4 ls (.long (lI 5) :: .ref (L i) :: [])) (by rfl) ?_
  refine lv_iconst (v := iI (4)) hx hb d_Bytes_appendEmptyDocument_4 rfl ?_
  refine mw_callV (i := i) (As := [.long (lI 5), .int (iI 4)]) (rest := []) ⟨hx, hb, hml, hown, hts⟩ hK hM hS rfl hB.1 rfl (c_Bytes_appendNumber l D g lo L κ i j mo n sz b hB 5 4 (by omega) (by omega)) (cwV 2 hts (gV m_92 m_93 m_94 m_52 m_95) rfl rfl rfl (by decide +kernel) ⟨Nat.le_of_ble_eq_true rfl, Nat.le_of_ble_eq_true rfl⟩) rfl hl.1 rfl (Nat.le_of_ble_eq_true rfl) d_Bytes_appendEmptyDocument_5 ⟨Nat.le_of_ble_eq_true rfl, Nat.le_of_ble_eq_true rfl⟩ (fun v1 L1 κ1 H locs hp1 hM hS => ?_)
  obtain ⟨n1, rfl, hL1, hB1, hk1⟩ := hp1
  have hB1 : bxs g L1 κ1 i j mo n1 (sz + 4) (bAppNum b sz 5 4) := hB1
  have r2 := hB1.2.2.1
  refine lv_aload_n hx hb d_Bytes_appendEmptyDocument_8 rfl (lv_at hl 0 rfl) ?_
  refine lv_lconst (v := lI (0)) hx hb d_Bytes_appendEmptyDocument_9 (by decide) ?_
  refine lv_iconst (v := iI (1)) hx hb d_Bytes_appendEmptyDocument_10 rfl ?_
  refine mw_callV (i := i) (As := [.long (lI 0), .int (iI 1)]) (rest := []) ⟨hx, hb, hml, hown, hts⟩ hK hM hS (hL1 i (by omega)) hB1.1 rfl (c_Bytes_appendNumber l D g lo L1 κ1 i j mo n1 (sz + 4) (bAppNum b sz 5 4) hB1 0 1 (by omega) (by omega)) (cwV 2 hts (gV m_92 m_93 m_94 m_52 m_95) rfl rfl rfl (by decide +kernel) ⟨Nat.le_of_ble_eq_true rfl, Nat.le_of_ble_eq_true rfl⟩) rfl hl.1 rfl (Nat.le_of_ble_eq_true rfl) d_Bytes_appendEmptyDocument_11 ⟨Nat.le_of_ble_eq_true rfl, Nat.le_of_ble_eq_true rfl⟩ (fun v3 L3 κ3 H locs hp3 hM hS => ?_)
  obtain ⟨n3, rfl, hL3, hB3, hk3⟩ := hp3
  have hB3 : bxs g L3 κ3 i j mo n3 (sz + 4 + 1) (bAppNum (bAppNum b sz 5 4) (sz + 4) 0 1) := hB3
  have r4 := hB3.2.2.1
  exact mw_vret hx hb hr hM hS hlocks d_Bytes_appendEmptyDocument_14 ⟨_, rfl, fun r h1 => by rw [hL3 r h1, hL1 r h1], hB3, fun r h1 h2 => by rw [hk3 r h1 h2, hk1 r h1 h2]⟩
set_option maxHeartbeats 4000000 in
set_option maxRecDepth 100000 in
theorem c_Bytes_appendText (l : Launch) (D : va_G) (g : Nat → ClassId) (lo : Nat) (L : Nat → Nat) (κ : Nat → Option va_E) (i j mo n sz : Nat) (b : Nat → Int) (hB : bxs g L κ i j mo n sz b) (i2 j2 mo2 n2 sz2 : Nat) (b2 : Nat → Int) (hB2 : bxs g L κ i2 j2 mo2 n2 sz2 b2) (a2 a3 : Int) (hd : i ≠ i2 ∧ i ≠ j2 ∧ j ≠ i2 ∧ j ≠ j2) (hG : 0 ≤ a2 ∧ 0 ≤ a3 ∧ a2 ≤ sz2 - a3 ∧ a3 + 5 ≤ mo - sz) : Met l y_Bytes_appendText w_Bytes_appendText ({ frames := 4, cells := 3, slots := 6015, locals := 108 }) (mwP D vwCl (tyL g) lo L κ [.ref (L i), .ref (L i2), .int (iI a2), .int (iI a3)]) (mwQ D vwCl lo (bxW g L κ i j mo (sz + 4 + a3.toNat + 1) (bAppNum (bApp (bAppNum b sz (a3 + 1) 4) (sz + 4) b2 a2 a3) (sz + 4 + a3.toNat) 0 1))) 3 6015 (fun q => lo ≤ q) := by
  obtain ⟨hz1, hz2, hz3⟩ := hB.2.2.1
  obtain ⟨hy1, hy2, hy3⟩ := hB2.2.2.1
  have hij := bxs_ne hB
  have hij2 := bxs_ne hB2
  refine Met.ofW (cc := b_Bytes_appendText) (maxL := 4) (ret := (Option.none : Option Jvm.ClassFile.FieldType)) (by decide) rfl ?_
  intro p e s m args below meth c s₁ B hml hpre
  obtain ⟨hargs, hM, hK⟩ := hpre
  have hx := B.exec
  have hb := B.bytes
  have hr := B.returns
  have hts : ∀ w ∈ wA, w.before args s = true := fun w h => atoms_spec (ws := w_Bytes_appendText) B.pre w (List.mem_cons_of_mem _ h)
  have hown : s.vm.findClass R_Bytes = some m.cls := findClass_of_methodNamed B.named
  have hlocks := B.notSynchronized
  have hS : va_S (fun q => lo ≤ q) s.heap s.heap [] := va_S.rf
  obtain ⟨ls, hls, hl⟩ := mw_entry (m := m) [.ref (L i), .ref (L i2), .int (iI a2), .int (iI a3)] (n := 4) (Nat.le_of_ble_eq_true rfl) hargs
  refine W.eq hls ?_
  have hl : lv_has ls 4 [(0, .ref (L i)), (1, .ref (L i2)), (2, .int (iI a2)), (3, .int (iI a3))] := hl
  refine lv_aload_n hx hb d_Bytes_appendText_0 rfl (lv_at hl 0 rfl) ?_
  refine lv_iload_n hx hb d_Bytes_appendText_1 rfl (lv_at hl 3 rfl) ?_
  refine lv_iconst (v := iI (1)) hx hb d_Bytes_appendText_2 rfl ?_
  refine ia_add hx hb d_Bytes_appendText_3 ?_
  refine ia_i2l hx hb (by omega) d_Bytes_appendText_4 ?_
  refine lv_iconst (v := iI (4)) hx hb d_Bytes_appendText_5 rfl ?_
  refine mw_callV (i := i) (As := [.long (lI (a3 + 1)), .int (iI 4)]) (rest := []) ⟨hx, hb, hml, hown, hts⟩ hK hM hS rfl hB.1 rfl (c_Bytes_appendNumber l D g lo L κ i j mo n sz b hB (a3 + 1) 4 (by omega) (by omega)) (cwV 2 hts (gV m_92 m_93 m_94 m_52 m_95) rfl rfl rfl (by decide +kernel) ⟨Nat.le_of_ble_eq_true rfl, Nat.le_of_ble_eq_true rfl⟩) rfl hl.1 rfl (Nat.le_of_ble_eq_true rfl) d_Bytes_appendText_6 ⟨Nat.le_of_ble_eq_true rfl, Nat.le_of_ble_eq_true rfl⟩ (fun v1 L1 κ1 H locs hp1 hM hS => ?_)
  obtain ⟨n1, rfl, hL1, hB1, hk1⟩ := hp1
  have hB1 : bxs g L1 κ1 i j mo n1 (sz + 4) (bAppNum b sz (a3 + 1) 4) := hB1
  have r2 := hB1.2.2.1
  have hB3 := bxs_keep hB2 (hk1 i2 (by omega) (by omega)) (hk1 j2 (by omega) (by omega)) (hL1 j2 (by omega))
  refine lv_aload_n hx hb d_Bytes_appendText_9 rfl (lv_at hl 0 rfl) ?_
  refine lv_aload_n hx hb d_Bytes_appendText_10 rfl (lv_at hl 1 rfl) ?_
  refine lv_iload_n hx hb d_Bytes_appendText_11 rfl (lv_at hl 2 rfl) ?_
  refine lv_iload_n hx hb d_Bytes_appendText_12 rfl (lv_at hl 3 rfl) ?_
  refine mw_callV (i := i) (As := [.ref (L1 i2), .int (iI a2), .int (iI a3)]) (rest := []) ⟨hx, hb, hml, hown, hts⟩ hK hM hS (hL1 i (by omega)) hB1.1 rfl (c_Bytes_appendFrom l D g lo L1 κ1 i j mo n1 (sz + 4) (bAppNum b sz (a3 + 1) 4) hB1 i2 j2 mo2 n2 sz2 b2 hB3 a2 a3 (by omega) (by omega)) (cwV 3 hts (gV m_484 m_363 m_364 m_52 m_365) rfl rfl rfl (by decide +kernel) ⟨Nat.le_of_ble_eq_true rfl, Nat.le_of_ble_eq_true rfl⟩) rfl hl.1 (by rw [show L1 i2 = L i2 from (hL1 i2 (by omega))]; rfl) (Nat.le_of_ble_eq_true rfl) d_Bytes_appendText_13 ⟨Nat.le_of_ble_eq_true rfl, Nat.le_of_ble_eq_true rfl⟩ (fun v4 L4 κ4 H locs hp4 hM hS => ?_)
  obtain ⟨n4, rfl, hL4, hB4, hk4⟩ := hp4
  have hB4 : bxs g L4 κ4 i j mo n4 (sz + 4 + a3.toNat) (bApp (bAppNum b sz (a3 + 1) 4) (sz + 4) b2 a2 a3) := hB4
  have r5 := hB4.2.2.1
  have hB6 := bxs_keep hB3 (hk4 i2 (by omega) (by omega)) (hk4 j2 (by omega) (by omega)) (hL4 j2 (by omega))
  refine lv_aload_n hx hb d_Bytes_appendText_16 rfl (lv_at hl 0 rfl) ?_
  refine lv_lconst (v := lI (0)) hx hb d_Bytes_appendText_17 (by decide) ?_
  refine lv_iconst (v := iI (1)) hx hb d_Bytes_appendText_18 rfl ?_
  refine mw_callV (i := i) (As := [.long (lI 0), .int (iI 1)]) (rest := []) ⟨hx, hb, hml, hown, hts⟩ hK hM hS ((hL4 i (by omega)).trans (hL1 i (by omega))) hB4.1 rfl (c_Bytes_appendNumber l D g lo L4 κ4 i j mo n4 (sz + 4 + a3.toNat) (bApp (bAppNum b sz (a3 + 1) 4) (sz + 4) b2 a2 a3) hB4 0 1 (by omega) (by omega)) (cwV 2 hts (gV m_92 m_93 m_94 m_52 m_95) rfl rfl rfl (by decide +kernel) ⟨Nat.le_of_ble_eq_true rfl, Nat.le_of_ble_eq_true rfl⟩) rfl hl.1 rfl (Nat.le_of_ble_eq_true rfl) d_Bytes_appendText_19 ⟨Nat.le_of_ble_eq_true rfl, Nat.le_of_ble_eq_true rfl⟩ (fun v7 L7 κ7 H locs hp7 hM hS => ?_)
  obtain ⟨n7, rfl, hL7, hB7, hk7⟩ := hp7
  have hB7 : bxs g L7 κ7 i j mo n7 (sz + 4 + a3.toNat + 1) (bAppNum (bApp (bAppNum b sz (a3 + 1) 4) (sz + 4) b2 a2 a3) (sz + 4 + a3.toNat) 0 1) := hB7
  have r8 := hB7.2.2.1
  have hB9 := bxs_keep hB6 (hk7 i2 (by omega) (by omega)) (hk7 j2 (by omega) (by omega)) (hL7 j2 (by omega))
  exact mw_vret hx hb hr hM hS hlocks d_Bytes_appendText_22 ⟨_, rfl, fun r h1 => by rw [hL7 r h1, hL4 r h1, hL1 r h1], hB7, fun r h1 h2 => by rw [hk7 r h1 h2, hk4 r h1 h2, hk1 r h1 h2]⟩
end
section
set_option maxHeartbeats 4000000 in
set_option maxRecDepth 100000 in
theorem c_Nodes_begin (l : Launch) (D : va_G) (g : Nat → ClassId) (lo : Nat) (L : Nat → Nat) (κ : Nat → Option va_E) (T : Nat → Nat → Int) (cnt d : Nat) (hN : nds g L κ T cnt d) (d2 : Nat) : Met l y_Nodes_begin w_Nodes_begin ({ frames := 0, cells := 0, slots := 0, locals := 0 }) (mwP D vwCl (tyL g) lo L κ [.ref (L 6), .ref (L d2)]) (mwQ D vwCl lo (fun v L1 κ1 => v = none ∧ L = L1 ∧ nds g L κ1 T 0 d2 ∧ ∀ r, r ≠ 6 → κ1 r = κ r)) 0 0 (fun q => lo ≤ q) := by
  have hc0 := hN.2.2.1
  refine Met.ofW (cc := b_Nodes_begin) (maxL := 2) (ret := (Option.none : Option Jvm.ClassFile.FieldType)) (by decide) rfl ?_
  intro p e s m args below meth c s₁ B hml hpre
  obtain ⟨hargs, hM, hK⟩ := hpre
  have hx := B.exec
  have hb := B.bytes
  have hr := B.returns
  have hts : ∀ w ∈ wA, w.before args s = true := fun w h => atoms_spec (ws := w_Nodes_begin) B.pre w (List.mem_cons_of_mem _ h)
  have hown : s.vm.findClass R_Nodes = some m.cls := findClass_of_methodNamed B.named
  have hlocks := B.notSynchronized
  have hS : va_S (fun q => lo ≤ q) s.heap s.heap [] := va_S.rf
  obtain ⟨ls, hls, hl⟩ := mw_entry (m := m) [.ref (L 6), .ref (L d2)] (n := 2) (Nat.le_of_ble_eq_true rfl) hargs
  refine W.eq hls ?_
  have hl : lv_has ls 2 [(0, .ref (L 6)), (1, .ref (L d2))] := hl
  refine lv_aload_n hx hb d_Nodes_begin_0 rfl (lv_at hl 0 rfl) ?_
  refine lv_aload_n hx hb d_Nodes_begin_1 rfl (lv_at hl 1 rfl) ?_
  refine mw_put (ci := 1) (i := 6) (v := .ref (L d2)) (C := R_Nodes) (T := T_Nodes) (N := 9) hx hb hts in_Nodes ty_Nodes ty_Nodes_ok nm_Nodes hown hK hM hS hN.1 rfl rfl 7 (by decide) (hts _ m_138) rfl (ty_Nodes_ok 7 (by decide)) rfl rfl (Nat.le_of_ble_eq_true rfl) d_Nodes_begin_2 (fun κ1 H locs e1 hk1 hM hS => ?_)
  have e1 : κ1 6 = some (.inr (1, [.ref (L 7), .ref (L 8), .ref (L 9), .ref (L 10), .ref (L 11), .ref (L 12), .ref (L 13), .ref (L d2), .int (iI cnt)])) := e1
  have e2 := (hk1 7 (by omega)).trans (hN.2.1 0 (by decide))
  have e3 := (hk1 8 (by omega)).trans (hN.2.1 1 (by decide))
  have e4 := (hk1 9 (by omega)).trans (hN.2.1 2 (by decide))
  have e5 := (hk1 10 (by omega)).trans (hN.2.1 3 (by decide))
  have e6 := (hk1 11 (by omega)).trans (hN.2.1 4 (by decide))
  have e7 := (hk1 12 (by omega)).trans (hN.2.1 5 (by decide))
  have e8 := (hk1 13 (by omega)).trans (hN.2.1 6 (by decide))
  refine lv_aload_n hx hb d_Nodes_begin_5 rfl (lv_at hl 0 rfl) ?_
  refine lv_iconst (v := iI (0)) hx hb d_Nodes_begin_6 rfl ?_
  refine mw_put (ci := 1) (i := 6) (v := .int (iI 0)) (C := R_Nodes) (T := T_Nodes) (N := 9) hx hb hts in_Nodes ty_Nodes ty_Nodes_ok nm_Nodes hown hK hM hS e1 rfl rfl 8 (by decide) (hts _ m_139) rfl (ty_Nodes_ok 8 (by decide)) rfl rfl (Nat.le_of_ble_eq_true rfl) d_Nodes_begin_7 (fun κ9 H locs e9 hk9 hM hS => ?_)
  have e9 : κ9 6 = some (.inr (1, [.ref (L 7), .ref (L 8), .ref (L 9), .ref (L 10), .ref (L 11), .ref (L 12), .ref (L 13), .ref (L d2), .int (iI 0)])) := e9
  have e10 := (hk9 7 (by omega)).trans e2
  have e11 := (hk9 8 (by omega)).trans e3
  have e12 := (hk9 9 (by omega)).trans e4
  have e13 := (hk9 10 (by omega)).trans e5
  have e14 := (hk9 11 (by omega)).trans e6
  have e15 := (hk9 12 (by omega)).trans e7
  have e16 := (hk9 13 (by omega)).trans e8
  exact mw_vret hx hb hr hM hS hlocks d_Nodes_begin_10 ⟨rfl, rfl, nds_begin hN e9 (fun r h => by rw [hk9 r h, hk1 r h]), fun r h => by rw [hk9 r h, hk1 r h]⟩
set_option maxHeartbeats 4000000 in
set_option maxRecDepth 100000 in
theorem c_Nodes_append (l : Launch) (D : va_G) (g : Nat → ClassId) (lo : Nat) (L : Nat → Nat) (κ : Nat → Option va_E) (T : Nat → Nat → Int) (cnt d : Nat) (hN : nds g L κ T cnt d) (k pa nm va vl : Int) (hc : cnt < 700) (ha1 : -1000000 ≤ k ∧ k ≤ 1000000) (ha2 : -1000000 ≤ pa ∧ pa ≤ 1000000) (ha3 : -1000000 ≤ nm ∧ nm ≤ 1000000) (ha4 : -1000000 ≤ va ∧ va ≤ 1000000) (ha5 : -1000000 ≤ vl ∧ vl ≤ 1000000) : Met l y_Nodes_append w_Nodes_append ({ frames := 1, cells := 0, slots := 0, locals := 20 }) (mwP D vwCl (tyL g) lo L κ [.ref (L 6), .int (iI k), .int (iI pa), .int (iI nm), .int (iI va), .int (iI vl)]) (mwQ D vwCl lo (fun v L1 κ1 => v = some (.int (iI cnt)) ∧ L = L1 ∧ nds g L κ1 (nApp T cnt k pa nm va vl) (cnt + 1) d ∧ ∀ r, (r < 6 ∨ 14 ≤ r) → κ1 r = κ r)) 0 0 (fun q => lo ≤ q) := by
  have hc0 := hN.2.2.1
  refine Met.ofW (cc := b_Nodes_append) (maxL := 7) (ret := (Option.some Jvm.ClassFile.FieldType.int)) (by decide) rfl ?_
  intro p e s m args below meth c s₁ B hml hpre
  obtain ⟨hargs, hM, hK⟩ := hpre
  have hx := B.exec
  have hb := B.bytes
  have hr := B.returns
  have hts : ∀ w ∈ wA, w.before args s = true := fun w h => atoms_spec (ws := w_Nodes_append) B.pre w (List.mem_cons_of_mem _ h)
  have hown : s.vm.findClass R_Nodes = some m.cls := findClass_of_methodNamed B.named
  have hlocks := B.notSynchronized
  have hS : va_S (fun q => lo ≤ q) s.heap s.heap [] := va_S.rf
  obtain ⟨ls, hls, hl⟩ := mw_entry (m := m) [.ref (L 6), .int (iI k), .int (iI pa), .int (iI nm), .int (iI va), .int (iI vl)] (n := 7) (Nat.le_of_ble_eq_true rfl) hargs
  refine W.eq hls ?_
  have hl : lv_has ls 7 [(0, .ref (L 6)), (1, .int (iI k)), (2, .int (iI pa)), (3, .int (iI nm)), (4, .int (iI va)), (5, .int (iI vl))] := hl
  refine lv_aload_n hx hb d_Nodes_append_0 rfl (lv_at hl 0 rfl) ?_
  refine mw_get (ci := 1) (i := 6) (v := .int (iI cnt)) (C := R_Nodes) (T := T_Nodes) (N := 9) hx hb hts in_Nodes hown hK hM hN.1 rfl rfl 8 (by decide) (hts _ m_139) rfl d_Nodes_append_1 ?_
  refine lv_sipush (v := iI (700)) hx hb d_Nodes_append_4 (by decide) ?_
  refine ia_icmp_lt (a := cnt) (b := 700) (tgt := 12) hx hb d_Nodes_append_7 (by decide) (by omega) (by omega) (fun c1 => ?_) (fun c1 => ?_)
  · refine lv_aload_n hx hb d_Nodes_append_12 rfl (lv_at hl 0 rfl) ?_
    refine mw_get (ci := 1) (i := 6) (v := .int (iI cnt)) (C := R_Nodes) (T := T_Nodes) (N := 9) hx hb hts in_Nodes hown hK hM hN.1 rfl rfl 8 (by decide) (hts _ m_139) rfl d_Nodes_append_13 ?_
    refine lv_istore (lv' := [(6, .int (iI cnt)), (0, .ref (L 6)), (1, .int (iI k)), (2, .int (iI pa)), (3, .int (iI nm)), (4, .int (iI va)), (5, .int (iI vl))]) hx hb d_Nodes_append_16 hl (by decide) rfl (fun ls hl => ?_)
    refine lv_aload_n hx hb d_Nodes_append_18 rfl (lv_at hl 1 rfl) ?_
    refine lv_dup hx hb d_Nodes_append_19 rfl ?_
    refine mw_get (ci := 1) (i := 6) (v := .int (iI cnt)) (C := R_Nodes) (T := T_Nodes) (N := 9) hx hb hts in_Nodes hown hK hM hN.1 rfl rfl 8 (by decide) (hts _ m_139) rfl d_Nodes_append_20 ?_
    refine lv_iconst (v := iI (1)) hx hb d_Nodes_append_23 rfl ?_
    refine ia_add hx hb d_Nodes_append_24 ?_
    refine mw_put (ci := 1) (i := 6) (v := .int (iI (cnt + 1))) (C := R_Nodes) (T := T_Nodes) (N := 9) hx hb hts in_Nodes ty_Nodes ty_Nodes_ok nm_Nodes hown hK hM hS hN.1 rfl rfl 8 (by decide) (hts _ m_139) rfl (ty_Nodes_ok 8 (by decide)) rfl rfl (Nat.le_of_ble_eq_true rfl) d_Nodes_append_25 (fun κ2 H locs e2 hk2 hM hS => ?_)
    have e2 : κ2 6 = some (.inr (1, [.ref (L 7), .ref (L 8), .ref (L 9), .ref (L 10), .ref (L 11), .ref (L 12), .ref (L 13), .ref (L d), .int (iI (cnt + 1))])) := e2
    have e3 := (hk2 7 (by omega)).trans (hN.2.1 0 (by decide))
    have e4 := (hk2 8 (by omega)).trans (hN.2.1 1 (by decide))
    have e5 := (hk2 9 (by omega)).trans (hN.2.1 2 (by decide))
    have e6 := (hk2 10 (by omega)).trans (hN.2.1 3 (by decide))
    have e7 := (hk2 11 (by omega)).trans (hN.2.1 4 (by decide))
    have e8 := (hk2 12 (by omega)).trans (hN.2.1 5 (by decide))
    have e9 := (hk2 13 (by omega)).trans (hN.2.1 6 (by decide))
    refine lv_aload_n hx hb d_Nodes_append_28 rfl (lv_at hl 1 rfl) ?_
    refine mw_get (ci := 1) (i := 6) (v := .ref (L 7)) (C := R_Nodes) (T := T_Nodes) (N := 9) hx hb hts in_Nodes hown hK hM e2 rfl rfl 0 (by decide) (hts _ m_131) rfl d_Nodes_append_29 ?_
    refine lv_iload hx hb d_Nodes_append_32 (lv_at hl 0 rfl) ?_
    refine lv_iload_n hx hb d_Nodes_append_34 rfl (lv_at hl 2 rfl) ?_
    refine mw_iast (a := cnt) (v := k) (i := 7) hx hb hK hM hS 1 e3 rfl rfl (by omega) (by decide) d_Nodes_append_35 (fun κ10 H locs e10 hk10 hM hS => ?_)
    have e11 := (hk10 6 (by omega)).trans e2
    have e12 := (hk10 8 (by omega)).trans e4
    have e13 := (hk10 9 (by omega)).trans e5
    have e14 := (hk10 10 (by omega)).trans e6
    have e15 := (hk10 11 (by omega)).trans e7
    have e16 := (hk10 12 (by omega)).trans e8
    have e17 := (hk10 13 (by omega)).trans e9
    refine lv_aload_n hx hb d_Nodes_append_36 rfl (lv_at hl 1 rfl) ?_
    refine mw_get (ci := 1) (i := 6) (v := .ref (L 8)) (C := R_Nodes) (T := T_Nodes) (N := 9) hx hb hts in_Nodes hown hK hM e11 rfl rfl 1 (by decide) (hts _ m_132) rfl d_Nodes_append_37 ?_
    refine lv_iload hx hb d_Nodes_append_40 (lv_at hl 0 rfl) ?_
    refine lv_iload_n hx hb d_Nodes_append_42 rfl (lv_at hl 3 rfl) ?_
    refine mw_iast (a := cnt) (v := pa) (i := 8) hx hb hK hM hS 1 e12 rfl rfl (by omega) (by decide) d_Nodes_append_43 (fun κ18 H locs e18 hk18 hM hS => ?_)
    have e19 := (hk18 6 (by omega)).trans e11
    have e20 := (hk18 7 (by omega)).trans e10
    have e21 := (hk18 9 (by omega)).trans e13
    have e22 := (hk18 10 (by omega)).trans e14
    have e23 := (hk18 11 (by omega)).trans e15
    have e24 := (hk18 12 (by omega)).trans e16
    have e25 := (hk18 13 (by omega)).trans e17
    refine lv_aload_n hx hb d_Nodes_append_44 rfl (lv_at hl 1 rfl) ?_
    refine mw_get (ci := 1) (i := 6) (v := .ref (L 9)) (C := R_Nodes) (T := T_Nodes) (N := 9) hx hb hts in_Nodes hown hK hM e19 rfl rfl 2 (by decide) (hts _ m_133) rfl d_Nodes_append_45 ?_
    refine lv_iload hx hb d_Nodes_append_48 (lv_at hl 0 rfl) ?_
    refine lv_iload_n hx hb d_Nodes_append_50 rfl (lv_at hl 2 rfl) ?_
    refine mw_rdS (As := [.int (iI k)]) (rest := [.int (iI cnt), .ref (L 9)]) ⟨hx, hb, hml, hown, hts⟩ hK hM hS (c_Kinds_hold l D g lo L κ18 k (by omega)) (va_cwS 1 hts (gT m_267 m_268 m_59 m_269) rfl rfl rfl (by decide +kernel) ⟨Nat.le_of_ble_eq_true rfl, Nat.le_of_ble_eq_true rfl⟩) rfl hl.1 rfl (Nat.le_of_ble_eq_true rfl) d_Nodes_append_51 ⟨Nat.le_of_ble_eq_true rfl, Nat.le_of_ble_eq_true rfl⟩ (fun H locs hM hS => ?_)
    refine ia_ifz_eq (x := kHold k) (tgt := 61) hx hb d_Nodes_append_54 (by decide) (fun c26 => ?_) (fun c26 => ?_)
    · refine lv_iconst (v := iI (0)) hx hb d_Nodes_append_61 rfl ?_
      refine mw_iast (a := cnt) (v := 0) (i := 9) hx hb hK hM hS 1 e21 rfl rfl (by omega) (by decide) d_Nodes_append_62 (fun κ27 H locs e27 hk27 hM hS => ?_)
      have e28 := (hk27 6 (by omega)).trans e19
      have e29 := (hk27 7 (by omega)).trans e20
      have e30 := (hk27 8 (by omega)).trans e18
      have e31 := (hk27 10 (by omega)).trans e22
      have e32 := (hk27 11 (by omega)).trans e23
      have e33 := (hk27 12 (by omega)).trans e24
      have e34 := (hk27 13 (by omega)).trans e25
      refine lv_aload_n hx hb d_Nodes_append_63 rfl (lv_at hl 1 rfl) ?_
      refine mw_get (ci := 1) (i := 6) (v := .ref (L 10)) (C := R_Nodes) (T := T_Nodes) (N := 9) hx hb hts in_Nodes hown hK hM e28 rfl rfl 3 (by decide) (hts _ m_134) rfl d_Nodes_append_64 ?_
      refine lv_iload hx hb d_Nodes_append_67 (lv_at hl 0 rfl) ?_
      refine lv_iload_n hx hb d_Nodes_append_69 rfl (lv_at hl 4 rfl) ?_
      refine mw_iast (a := cnt) (v := nm) (i := 10) hx hb hK hM hS 1 e31 rfl rfl (by omega) (by decide) d_Nodes_append_70 (fun κ35 H locs e35 hk35 hM hS => ?_)
      have e36 := (hk35 6 (by omega)).trans e28
      have e37 := (hk35 7 (by omega)).trans e29
      have e38 := (hk35 8 (by omega)).trans e30
      have e39 := (hk35 9 (by omega)).trans e27
      have e40 := (hk35 11 (by omega)).trans e32
      have e41 := (hk35 12 (by omega)).trans e33
      have e42 := (hk35 13 (by omega)).trans e34
      refine lv_aload_n hx hb d_Nodes_append_71 rfl (lv_at hl 1 rfl) ?_
      refine mw_get (ci := 1) (i := 6) (v := .ref (L 11)) (C := R_Nodes) (T := T_Nodes) (N := 9) hx hb hts in_Nodes hown hK hM e36 rfl rfl 4 (by decide) (hts _ m_135) rfl d_Nodes_append_72 ?_
      refine lv_iload hx hb d_Nodes_append_75 (lv_at hl 0 rfl) ?_
      refine lv_iload hx hb d_Nodes_append_77 (lv_at hl 5 rfl) ?_
      refine mw_iast (a := cnt) (v := va) (i := 11) hx hb hK hM hS 1 e40 rfl rfl (by omega) (by decide) d_Nodes_append_79 (fun κ43 H locs e43 hk43 hM hS => ?_)
      have e44 := (hk43 6 (by omega)).trans e36
      have e45 := (hk43 7 (by omega)).trans e37
      have e46 := (hk43 8 (by omega)).trans e38
      have e47 := (hk43 9 (by omega)).trans e39
      have e48 := (hk43 10 (by omega)).trans e35
      have e49 := (hk43 12 (by omega)).trans e41
      have e50 := (hk43 13 (by omega)).trans e42
      refine lv_aload_n hx hb d_Nodes_append_80 rfl (lv_at hl 1 rfl) ?_
      refine mw_get (ci := 1) (i := 6) (v := .ref (L 12)) (C := R_Nodes) (T := T_Nodes) (N := 9) hx hb hts in_Nodes hown hK hM e44 rfl rfl 5 (by decide) (hts _ m_136) rfl d_Nodes_append_81 ?_
      refine lv_iload hx hb d_Nodes_append_84 (lv_at hl 0 rfl) ?_
      refine lv_iload hx hb d_Nodes_append_86 (lv_at hl 6 rfl) ?_
      refine mw_iast (a := cnt) (v := vl) (i := 12) hx hb hK hM hS 1 e49 rfl rfl (by omega) (by decide) d_Nodes_append_88 (fun κ51 H locs e51 hk51 hM hS => ?_)
      have e52 := (hk51 6 (by omega)).trans e44
      have e53 := (hk51 7 (by omega)).trans e45
      have e54 := (hk51 8 (by omega)).trans e46
      have e55 := (hk51 9 (by omega)).trans e47
      have e56 := (hk51 10 (by omega)).trans e48
      have e57 := (hk51 11 (by omega)).trans e43
      have e58 := (hk51 13 (by omega)).trans e50
      refine lv_aload_n hx hb d_Nodes_append_89 rfl (lv_at hl 1 rfl) ?_
      refine mw_get (ci := 1) (i := 6) (v := .ref (L 13)) (C := R_Nodes) (T := T_Nodes) (N := 9) hx hb hts in_Nodes hown hK hM e52 rfl rfl 6 (by decide) (hts _ m_137) rfl d_Nodes_append_90 ?_
      refine lv_iload hx hb d_Nodes_append_93 (lv_at hl 0 rfl) ?_
      refine lv_iconst (v := iI (0)) hx hb d_Nodes_append_95 rfl ?_
      refine mw_iast (a := cnt) (v := 0) (i := 13) hx hb hK hM hS 1 e58 rfl rfl (by omega) (by decide) d_Nodes_append_96 (fun κ59 H locs e59 hk59 hM hS => ?_)
      have e60 := (hk59 6 (by omega)).trans e52
      have e61 := (hk59 7 (by omega)).trans e53
      have e62 := (hk59 8 (by omega)).trans e54
      have e63 := (hk59 9 (by omega)).trans e55
      have e64 := (hk59 10 (by omega)).trans e56
      have e65 := (hk59 11 (by omega)).trans e57
      have e66 := (hk59 12 (by omega)).trans e51
      refine lv_iload_n hx hb d_Nodes_append_97 rfl (lv_at hl 3 rfl) ?_
      refine ia_if_lt (a := pa) (tgt := 133) hx hb d_Nodes_append_98 (by decide) (by omega) (fun c67 => ?_) (fun c67 => ?_)
      · refine lv_iload hx hb d_Nodes_append_133 (lv_at hl 0 rfl) ?_
        exact mw_iret hx hb hr hM hS hlocks d_Nodes_append_135 ⟨rfl, rfl, nds_app hN hc e60 e61 e62 e63 e64 e65 e66 e59 nApp_eq (nApp_eq2 (show (0 : Int) = bI (kHold k) by rw [show kHold k = false by assumption]; rfl) (by omega)) ha1 ha2 ha3 ha4 ha5, fun r h => by rw [hk59 r (by omega), hk51 r (by omega), hk43 r (by omega), hk35 r (by omega), hk27 r (by omega), hk18 r (by omega), hk10 r (by omega), hk2 r (by omega)]⟩
      · refine lv_iload_n hx hb d_Nodes_append_101 rfl (lv_at hl 3 rfl) ?_
        refine lv_iload hx hb d_Nodes_append_102 (lv_at hl 0 rfl) ?_
        refine ia_icmp_ge (a := pa) (b := cnt) (tgt := 133) hx hb d_Nodes_append_104 (by decide) (by omega) (by omega) (fun c68 => ?_) (fun c68 => ?_)
        · refine lv_iload hx hb d_Nodes_append_133 (lv_at hl 0 rfl) ?_
          exact mw_iret hx hb hr hM hS hlocks d_Nodes_append_135 ⟨rfl, rfl, nds_app hN hc e60 e61 e62 e63 e64 e65 e66 e59 nApp_eq (nApp_eq2 (show (0 : Int) = bI (kHold k) by rw [show kHold k = false by assumption]; rfl) (by omega)) ha1 ha2 ha3 ha4 ha5, fun r h => by rw [hk59 r (by omega), hk51 r (by omega), hk43 r (by omega), hk35 r (by omega), hk27 r (by omega), hk18 r (by omega), hk10 r (by omega), hk2 r (by omega)]⟩
        · refine lv_aload_n hx hb d_Nodes_append_107 rfl (lv_at hl 1 rfl) ?_
          refine mw_get (ci := 1) (i := 6) (v := .ref (L 9)) (C := R_Nodes) (T := T_Nodes) (N := 9) hx hb hts in_Nodes hown hK hM e60 rfl rfl 2 (by decide) (hts _ m_133) rfl d_Nodes_append_108 ?_
          refine lv_iload hx hb d_Nodes_append_111 (lv_at hl 0 rfl) ?_
          refine lv_dup2_11 hx hb d_Nodes_append_113 rfl rfl ?_
          refine mw_iald (a := cnt) (i := 9) hx hb hK hM 1 e63 rfl rfl (by omega) (by decide) d_Nodes_append_114 ?_
          have r69 := hN.2.2.2.1 2 (cnt : Int).toNat
          refine lv_aload_n hx hb d_Nodes_append_115 rfl (lv_at hl 1 rfl) ?_
          refine mw_get (ci := 1) (i := 6) (v := .ref (L 9)) (C := R_Nodes) (T := T_Nodes) (N := 9) hx hb hts in_Nodes hown hK hM e60 rfl rfl 2 (by decide) (hts _ m_133) rfl d_Nodes_append_116 ?_
          refine lv_iload_n hx hb d_Nodes_append_119 rfl (lv_at hl 3 rfl) ?_
          refine mw_iald (a := pa) (i := 9) hx hb hK hM 1 e63 rfl rfl (by omega) (by decide) d_Nodes_append_120 ?_
          have r70 := hN.2.2.2.1 2 (pa : Int).toNat
          refine ia_add hx hb d_Nodes_append_121 ?_
          refine mw_iast (a := cnt) (v := ((va_up (T 2) (cnt : Int).toNat (0)) (cnt : Int).toNat) + ((va_up (T 2) (cnt : Int).toNat (0)) (pa : Int).toNat)) (i := 9) hx hb hK hM hS 1 e63 rfl rfl (by omega) (by decide) d_Nodes_append_122 (fun κ71 H locs e71 hk71 hM hS => ?_)
          have e72 := (hk71 6 (by omega)).trans e60
          have e73 := (hk71 7 (by omega)).trans e61
          have e74 := (hk71 8 (by omega)).trans e62
          have e75 := (hk71 10 (by omega)).trans e64
          have e76 := (hk71 11 (by omega)).trans e65
          have e77 := (hk71 12 (by omega)).trans e66
          have e78 := (hk71 13 (by omega)).trans e59
          refine lv_aload_n hx hb d_Nodes_append_123 rfl (lv_at hl 1 rfl) ?_
          refine mw_get (ci := 1) (i := 6) (v := .ref (L 13)) (C := R_Nodes) (T := T_Nodes) (N := 9) hx hb hts in_Nodes hown hK hM e72 rfl rfl 6 (by decide) (hts _ m_137) rfl d_Nodes_append_124 ?_
          refine lv_iload_n hx hb d_Nodes_append_127 rfl (lv_at hl 3 rfl) ?_
          refine lv_dup2_11 hx hb d_Nodes_append_128 rfl rfl ?_
          refine mw_iald (a := pa) (i := 13) hx hb hK hM 1 e78 rfl rfl (by omega) (by decide) d_Nodes_append_129 ?_
          have r79 := hN.2.2.2.1 6 (pa : Int).toNat
          refine lv_iconst (v := iI (1)) hx hb d_Nodes_append_130 rfl ?_
          refine ia_add hx hb d_Nodes_append_131 ?_
          refine mw_iast (a := pa) (v := ((va_up (T 6) (cnt : Int).toNat (0)) (pa : Int).toNat) + 1) (i := 13) hx hb hK hM hS 1 e78 rfl rfl (by omega) (by decide) d_Nodes_append_132 (fun κ80 H locs e80 hk80 hM hS => ?_)
          have e81 := (hk80 6 (by omega)).trans e72
          have e82 := (hk80 7 (by omega)).trans e73
          have e83 := (hk80 8 (by omega)).trans e74
          have e84 := (hk80 9 (by omega)).trans e71
          have e85 := (hk80 10 (by omega)).trans e75
          have e86 := (hk80 11 (by omega)).trans e76
          have e87 := (hk80 12 (by omega)).trans e77
          refine lv_iload hx hb d_Nodes_append_133 (lv_at hl 0 rfl) ?_
          exact mw_iret hx hb hr hM hS hlocks d_Nodes_append_135 ⟨rfl, rfl, nds_app hN hc e81 e82 e83 e84 e85 e86 e87 e80 nApp_eq (nApp_eq3 (show (0 : Int) = bI (kHold k) by rw [show kHold k = false by assumption]; rfl) (by omega)) ha1 ha2 ha3 ha4 ha5, fun r h => by rw [hk80 r (by omega), hk71 r (by omega), hk59 r (by omega), hk51 r (by omega), hk43 r (by omega), hk35 r (by omega), hk27 r (by omega), hk18 r (by omega), hk10 r (by omega), hk2 r (by omega)]⟩
    · refine lv_iconst (v := iI (1)) hx hb d_Nodes_append_57 rfl ?_
      refine lv_goto (tgt := 62) hx hb d_Nodes_append_58 (by decide) ?_
      refine mw_iast (a := cnt) (v := 1) (i := 9) hx hb hK hM hS 1 e21 rfl rfl (by omega) (by decide) d_Nodes_append_62 (fun κ88 H locs e88 hk88 hM hS => ?_)
      have e89 := (hk88 6 (by omega)).trans e19
      have e90 := (hk88 7 (by omega)).trans e20
      have e91 := (hk88 8 (by omega)).trans e18
      have e92 := (hk88 10 (by omega)).trans e22
      have e93 := (hk88 11 (by omega)).trans e23
      have e94 := (hk88 12 (by omega)).trans e24
      have e95 := (hk88 13 (by omega)).trans e25
      refine lv_aload_n hx hb d_Nodes_append_63 rfl (lv_at hl 1 rfl) ?_
      refine mw_get (ci := 1) (i := 6) (v := .ref (L 10)) (C := R_Nodes) (T := T_Nodes) (N := 9) hx hb hts in_Nodes hown hK hM e89 rfl rfl 3 (by decide) (hts _ m_134) rfl d_Nodes_append_64 ?_
      refine lv_iload hx hb d_Nodes_append_67 (lv_at hl 0 rfl) ?_
      refine lv_iload_n hx hb d_Nodes_append_69 rfl (lv_at hl 4 rfl) ?_
      refine mw_iast (a := cnt) (v := nm) (i := 10) hx hb hK hM hS 1 e92 rfl rfl (by omega) (by decide) d_Nodes_append_70 (fun κ96 H locs e96 hk96 hM hS => ?_)
      have e97 := (hk96 6 (by omega)).trans e89
      have e98 := (hk96 7 (by omega)).trans e90
      have e99 := (hk96 8 (by omega)).trans e91
      have e100 := (hk96 9 (by omega)).trans e88
      have e101 := (hk96 11 (by omega)).trans e93
      have e102 := (hk96 12 (by omega)).trans e94
      have e103 := (hk96 13 (by omega)).trans e95
      refine lv_aload_n hx hb d_Nodes_append_71 rfl (lv_at hl 1 rfl) ?_
      refine mw_get (ci := 1) (i := 6) (v := .ref (L 11)) (C := R_Nodes) (T := T_Nodes) (N := 9) hx hb hts in_Nodes hown hK hM e97 rfl rfl 4 (by decide) (hts _ m_135) rfl d_Nodes_append_72 ?_
      refine lv_iload hx hb d_Nodes_append_75 (lv_at hl 0 rfl) ?_
      refine lv_iload hx hb d_Nodes_append_77 (lv_at hl 5 rfl) ?_
      refine mw_iast (a := cnt) (v := va) (i := 11) hx hb hK hM hS 1 e101 rfl rfl (by omega) (by decide) d_Nodes_append_79 (fun κ104 H locs e104 hk104 hM hS => ?_)
      have e105 := (hk104 6 (by omega)).trans e97
      have e106 := (hk104 7 (by omega)).trans e98
      have e107 := (hk104 8 (by omega)).trans e99
      have e108 := (hk104 9 (by omega)).trans e100
      have e109 := (hk104 10 (by omega)).trans e96
      have e110 := (hk104 12 (by omega)).trans e102
      have e111 := (hk104 13 (by omega)).trans e103
      refine lv_aload_n hx hb d_Nodes_append_80 rfl (lv_at hl 1 rfl) ?_
      refine mw_get (ci := 1) (i := 6) (v := .ref (L 12)) (C := R_Nodes) (T := T_Nodes) (N := 9) hx hb hts in_Nodes hown hK hM e105 rfl rfl 5 (by decide) (hts _ m_136) rfl d_Nodes_append_81 ?_
      refine lv_iload hx hb d_Nodes_append_84 (lv_at hl 0 rfl) ?_
      refine lv_iload hx hb d_Nodes_append_86 (lv_at hl 6 rfl) ?_
      refine mw_iast (a := cnt) (v := vl) (i := 12) hx hb hK hM hS 1 e110 rfl rfl (by omega) (by decide) d_Nodes_append_88 (fun κ112 H locs e112 hk112 hM hS => ?_)
      have e113 := (hk112 6 (by omega)).trans e105
      have e114 := (hk112 7 (by omega)).trans e106
      have e115 := (hk112 8 (by omega)).trans e107
      have e116 := (hk112 9 (by omega)).trans e108
      have e117 := (hk112 10 (by omega)).trans e109
      have e118 := (hk112 11 (by omega)).trans e104
      have e119 := (hk112 13 (by omega)).trans e111
      refine lv_aload_n hx hb d_Nodes_append_89 rfl (lv_at hl 1 rfl) ?_
      refine mw_get (ci := 1) (i := 6) (v := .ref (L 13)) (C := R_Nodes) (T := T_Nodes) (N := 9) hx hb hts in_Nodes hown hK hM e113 rfl rfl 6 (by decide) (hts _ m_137) rfl d_Nodes_append_90 ?_
      refine lv_iload hx hb d_Nodes_append_93 (lv_at hl 0 rfl) ?_
      refine lv_iconst (v := iI (0)) hx hb d_Nodes_append_95 rfl ?_
      refine mw_iast (a := cnt) (v := 0) (i := 13) hx hb hK hM hS 1 e119 rfl rfl (by omega) (by decide) d_Nodes_append_96 (fun κ120 H locs e120 hk120 hM hS => ?_)
      have e121 := (hk120 6 (by omega)).trans e113
      have e122 := (hk120 7 (by omega)).trans e114
      have e123 := (hk120 8 (by omega)).trans e115
      have e124 := (hk120 9 (by omega)).trans e116
      have e125 := (hk120 10 (by omega)).trans e117
      have e126 := (hk120 11 (by omega)).trans e118
      have e127 := (hk120 12 (by omega)).trans e112
      refine lv_iload_n hx hb d_Nodes_append_97 rfl (lv_at hl 3 rfl) ?_
      refine ia_if_lt (a := pa) (tgt := 133) hx hb d_Nodes_append_98 (by decide) (by omega) (fun c128 => ?_) (fun c128 => ?_)
      · refine lv_iload hx hb d_Nodes_append_133 (lv_at hl 0 rfl) ?_
        exact mw_iret hx hb hr hM hS hlocks d_Nodes_append_135 ⟨rfl, rfl, nds_app hN hc e121 e122 e123 e124 e125 e126 e127 e120 nApp_eq (nApp_eq2 (show (1 : Int) = bI (kHold k) by rw [show kHold k = true by assumption]; rfl) (by omega)) ha1 ha2 ha3 ha4 ha5, fun r h => by rw [hk120 r (by omega), hk112 r (by omega), hk104 r (by omega), hk96 r (by omega), hk88 r (by omega), hk18 r (by omega), hk10 r (by omega), hk2 r (by omega)]⟩
      · refine lv_iload_n hx hb d_Nodes_append_101 rfl (lv_at hl 3 rfl) ?_
        refine lv_iload hx hb d_Nodes_append_102 (lv_at hl 0 rfl) ?_
        refine ia_icmp_ge (a := pa) (b := cnt) (tgt := 133) hx hb d_Nodes_append_104 (by decide) (by omega) (by omega) (fun c129 => ?_) (fun c129 => ?_)
        · refine lv_iload hx hb d_Nodes_append_133 (lv_at hl 0 rfl) ?_
          exact mw_iret hx hb hr hM hS hlocks d_Nodes_append_135 ⟨rfl, rfl, nds_app hN hc e121 e122 e123 e124 e125 e126 e127 e120 nApp_eq (nApp_eq2 (show (1 : Int) = bI (kHold k) by rw [show kHold k = true by assumption]; rfl) (by omega)) ha1 ha2 ha3 ha4 ha5, fun r h => by rw [hk120 r (by omega), hk112 r (by omega), hk104 r (by omega), hk96 r (by omega), hk88 r (by omega), hk18 r (by omega), hk10 r (by omega), hk2 r (by omega)]⟩
        · refine lv_aload_n hx hb d_Nodes_append_107 rfl (lv_at hl 1 rfl) ?_
          refine mw_get (ci := 1) (i := 6) (v := .ref (L 9)) (C := R_Nodes) (T := T_Nodes) (N := 9) hx hb hts in_Nodes hown hK hM e121 rfl rfl 2 (by decide) (hts _ m_133) rfl d_Nodes_append_108 ?_
          refine lv_iload hx hb d_Nodes_append_111 (lv_at hl 0 rfl) ?_
          refine lv_dup2_11 hx hb d_Nodes_append_113 rfl rfl ?_
          refine mw_iald (a := cnt) (i := 9) hx hb hK hM 1 e124 rfl rfl (by omega) (by decide) d_Nodes_append_114 ?_
          have r130 := hN.2.2.2.1 2 (cnt : Int).toNat
          refine lv_aload_n hx hb d_Nodes_append_115 rfl (lv_at hl 1 rfl) ?_
          refine mw_get (ci := 1) (i := 6) (v := .ref (L 9)) (C := R_Nodes) (T := T_Nodes) (N := 9) hx hb hts in_Nodes hown hK hM e121 rfl rfl 2 (by decide) (hts _ m_133) rfl d_Nodes_append_116 ?_
          refine lv_iload_n hx hb d_Nodes_append_119 rfl (lv_at hl 3 rfl) ?_
          refine mw_iald (a := pa) (i := 9) hx hb hK hM 1 e124 rfl rfl (by omega) (by decide) d_Nodes_append_120 ?_
          have r131 := hN.2.2.2.1 2 (pa : Int).toNat
          refine ia_add hx hb d_Nodes_append_121 ?_
          refine mw_iast (a := cnt) (v := ((va_up (T 2) (cnt : Int).toNat (1)) (cnt : Int).toNat) + ((va_up (T 2) (cnt : Int).toNat (1)) (pa : Int).toNat)) (i := 9) hx hb hK hM hS 1 e124 rfl rfl (by omega) (by decide) d_Nodes_append_122 (fun κ132 H locs e132 hk132 hM hS => ?_)
          have e133 := (hk132 6 (by omega)).trans e121
          have e134 := (hk132 7 (by omega)).trans e122
          have e135 := (hk132 8 (by omega)).trans e123
          have e136 := (hk132 10 (by omega)).trans e125
          have e137 := (hk132 11 (by omega)).trans e126
          have e138 := (hk132 12 (by omega)).trans e127
          have e139 := (hk132 13 (by omega)).trans e120
          refine lv_aload_n hx hb d_Nodes_append_123 rfl (lv_at hl 1 rfl) ?_
          refine mw_get (ci := 1) (i := 6) (v := .ref (L 13)) (C := R_Nodes) (T := T_Nodes) (N := 9) hx hb hts in_Nodes hown hK hM e133 rfl rfl 6 (by decide) (hts _ m_137) rfl d_Nodes_append_124 ?_
          refine lv_iload_n hx hb d_Nodes_append_127 rfl (lv_at hl 3 rfl) ?_
          refine lv_dup2_11 hx hb d_Nodes_append_128 rfl rfl ?_
          refine mw_iald (a := pa) (i := 13) hx hb hK hM 1 e139 rfl rfl (by omega) (by decide) d_Nodes_append_129 ?_
          have r140 := hN.2.2.2.1 6 (pa : Int).toNat
          refine lv_iconst (v := iI (1)) hx hb d_Nodes_append_130 rfl ?_
          refine ia_add hx hb d_Nodes_append_131 ?_
          refine mw_iast (a := pa) (v := ((va_up (T 6) (cnt : Int).toNat (0)) (pa : Int).toNat) + 1) (i := 13) hx hb hK hM hS 1 e139 rfl rfl (by omega) (by decide) d_Nodes_append_132 (fun κ141 H locs e141 hk141 hM hS => ?_)
          have e142 := (hk141 6 (by omega)).trans e133
          have e143 := (hk141 7 (by omega)).trans e134
          have e144 := (hk141 8 (by omega)).trans e135
          have e145 := (hk141 9 (by omega)).trans e132
          have e146 := (hk141 10 (by omega)).trans e136
          have e147 := (hk141 11 (by omega)).trans e137
          have e148 := (hk141 12 (by omega)).trans e138
          refine lv_iload hx hb d_Nodes_append_133 (lv_at hl 0 rfl) ?_
          exact mw_iret hx hb hr hM hS hlocks d_Nodes_append_135 ⟨rfl, rfl, nds_app hN hc e142 e143 e144 e145 e146 e147 e148 e141 nApp_eq (nApp_eq3 (show (1 : Int) = bI (kHold k) by rw [show kHold k = true by assumption]; rfl) (by omega)) ha1 ha2 ha3 ha4 ha5, fun r h => by rw [hk141 r (by omega), hk132 r (by omega), hk120 r (by omega), hk112 r (by omega), hk104 r (by omega), hk96 r (by omega), hk88 r (by omega), hk18 r (by omega), hk10 r (by omega), hk2 r (by omega)]⟩
  · exfalso; omega
end
section
theorem d_Reader_init_0 : decode b_Reader_init 0 = .ok (.aload_n 0, 1) := by decide +kernel
theorem d_Reader_init_1 : decode b_Reader_init 1 = .ok (.invokespecial 3, 3) := by decide +kernel
theorem d_Reader_init_4 : decode b_Reader_init 4 = .ok (.aload_n 0, 1) := by decide +kernel
theorem d_Reader_init_5 : decode b_Reader_init 5 = .ok (.aload_n 1, 1) := by decide +kernel
theorem d_Reader_init_6 : decode b_Reader_init 6 = .ok (.putfield 9, 3) := by decide +kernel
theorem d_Reader_init_9 : decode b_Reader_init 9 = .ok (.aload_n 0, 1) := by decide +kernel
theorem d_Reader_init_10 : decode b_Reader_init 10 = .ok (.aload_n 2, 1) := by decide +kernel
theorem d_Reader_init_11 : decode b_Reader_init 11 = .ok (.putfield 15, 3) := by decide +kernel
theorem d_Reader_init_14 : decode b_Reader_init 14 = .ok (.aload_n 0, 1) := by decide +kernel
theorem d_Reader_init_15 : decode b_Reader_init 15 = .ok (.iconst 0, 1) := by decide +kernel
theorem d_Reader_init_16 : decode b_Reader_init 16 = .ok (.putfield 19, 3) := by decide +kernel
theorem d_Reader_init_19 : decode b_Reader_init 19 = .ok (.aload_n 0, 1) := by decide +kernel
theorem d_Reader_init_20 : decode b_Reader_init 20 = .ok (.iconst (-1), 1) := by decide +kernel
theorem d_Reader_init_21 : decode b_Reader_init 21 = .ok (.putfield 23, 3) := by decide +kernel
theorem d_Reader_init_24 : decode b_Reader_init 24 = .ok (.aload_n 0, 1) := by decide +kernel
theorem d_Reader_init_25 : decode b_Reader_init 25 = .ok (.iconst 0, 1) := by decide +kernel
theorem d_Reader_init_26 : decode b_Reader_init 26 = .ok (.putfield 26, 3) := by decide +kernel
theorem d_Reader_init_29 : decode b_Reader_init 29 = .ok (.aload_n 0, 1) := by decide +kernel
theorem d_Reader_init_30 : decode b_Reader_init 30 = .ok (.iconst (-1), 1) := by decide +kernel
theorem d_Reader_init_31 : decode b_Reader_init 31 = .ok (.putfield 29, 3) := by decide +kernel
theorem d_Reader_init_34 : decode b_Reader_init 34 = .ok (.return_, 1) := by decide +kernel
theorem d_Reader_faultPlace_0 : decode b_Reader_faultPlace 0 = .ok (.aload_n 0, 1) := by decide +kernel
theorem d_Reader_faultPlace_1 : decode b_Reader_faultPlace 1 = .ok (.getfield 29, 3) := by decide +kernel
theorem d_Reader_faultPlace_4 : decode b_Reader_faultPlace 4 = .ok (.ireturn, 1) := by decide +kernel
theorem d_Reader_readAll_0 : decode b_Reader_readAll 0 = .ok (.aload_n 0, 1) := by decide +kernel
theorem d_Reader_readAll_1 : decode b_Reader_readAll 1 = .ok (.iconst 0, 1) := by decide +kernel
theorem d_Reader_readAll_2 : decode b_Reader_readAll 2 = .ok (.putfield 26, 3) := by decide +kernel
theorem d_Reader_readAll_5 : decode b_Reader_readAll 5 = .ok (.aload_n 0, 1) := by decide +kernel
theorem d_Reader_readAll_6 : decode b_Reader_readAll 6 = .ok (.iconst (-1), 1) := by decide +kernel
theorem d_Reader_readAll_7 : decode b_Reader_readAll 7 = .ok (.putfield 29, 3) := by decide +kernel
theorem d_Reader_readAll_10 : decode b_Reader_readAll 10 = .ok (.aload_n 0, 1) := by decide +kernel
theorem d_Reader_readAll_11 : decode b_Reader_readAll 11 = .ok (.iconst 0, 1) := by decide +kernel
theorem d_Reader_readAll_12 : decode b_Reader_readAll 12 = .ok (.putfield 19, 3) := by decide +kernel
theorem d_Reader_readAll_15 : decode b_Reader_readAll 15 = .ok (.aload_n 0, 1) := by decide +kernel
theorem d_Reader_readAll_16 : decode b_Reader_readAll 16 = .ok (.iconst (-1), 1) := by decide +kernel
theorem d_Reader_readAll_17 : decode b_Reader_readAll 17 = .ok (.putfield 23, 3) := by decide +kernel
theorem d_Reader_readAll_20 : decode b_Reader_readAll 20 = .ok (.aload_n 0, 1) := by decide +kernel
theorem d_Reader_readAll_21 : decode b_Reader_readAll 21 = .ok (.getfield 9, 3) := by decide +kernel
theorem d_Reader_readAll_24 : decode b_Reader_readAll 24 = .ok (.aload_n 0, 1) := by decide +kernel
theorem d_Reader_readAll_25 : decode b_Reader_readAll 25 = .ok (.getfield 15, 3) := by decide +kernel
theorem d_Reader_readAll_28 : decode b_Reader_readAll 28 = .ok (.invokevirtual 32, 3) := by decide +kernel
theorem d_Reader_readAll_31 : decode b_Reader_readAll 31 = .ok (.aload_n 0, 1) := by decide +kernel
theorem d_Reader_readAll_32 : decode b_Reader_readAll 32 = .ok (.iconst 3, 1) := by decide +kernel
theorem d_Reader_readAll_33 : decode b_Reader_readAll 33 = .ok (.iconst (-1), 1) := by decide +kernel
theorem d_Reader_readAll_34 : decode b_Reader_readAll 34 = .ok (.iload_n 1, 1) := by decide +kernel
theorem d_Reader_readAll_35 : decode b_Reader_readAll 35 = .ok (.invokevirtual 38, 3) := by decide +kernel
theorem d_Reader_readAll_38 : decode b_Reader_readAll 38 = .ok (.iconst 0, 1) := by decide +kernel
theorem d_Reader_readAll_39 : decode b_Reader_readAll 39 = .ok (.istore_n 2, 1) := by decide +kernel
theorem d_Reader_readAll_40 : decode b_Reader_readAll 40 = .ok (.iload_n 2, 1) := by decide +kernel
theorem d_Reader_readAll_41 : decode b_Reader_readAll 41 = .ok (.sipush 2000, 3) := by decide +kernel
theorem d_Reader_readAll_44 : decode b_Reader_readAll 44 = .ok (.if_icmp .ge 55, 3) := by decide +kernel
theorem d_Reader_readAll_47 : decode b_Reader_readAll 47 = .ok (.aload_n 0, 1) := by decide +kernel
theorem d_Reader_readAll_48 : decode b_Reader_readAll 48 = .ok (.getfield 26, 3) := by decide +kernel
theorem d_Reader_readAll_51 : decode b_Reader_readAll 51 = .ok (.ifCond .ne 48, 3) := by decide +kernel
theorem d_Reader_readAll_54 : decode b_Reader_readAll 54 = .ok (.aload_n 0, 1) := by decide +kernel
theorem d_Reader_readAll_55 : decode b_Reader_readAll 55 = .ok (.getfield 23, 3) := by decide +kernel
theorem d_Reader_readAll_58 : decode b_Reader_readAll 58 = .ok (.ifCond .lt 41, 3) := by decide +kernel
theorem d_Reader_readAll_61 : decode b_Reader_readAll 61 = .ok (.aload_n 0, 1) := by decide +kernel
theorem d_Reader_readAll_62 : decode b_Reader_readAll 62 = .ok (.getfield 9, 3) := by decide +kernel
theorem d_Reader_readAll_65 : decode b_Reader_readAll 65 = .ok (.aload_n 0, 1) := by decide +kernel
theorem d_Reader_readAll_66 : decode b_Reader_readAll 66 = .ok (.getfield 23, 3) := by decide +kernel
theorem d_Reader_readAll_69 : decode b_Reader_readAll 69 = .ok (.invokevirtual 42, 3) := by decide +kernel
theorem d_Reader_readAll_72 : decode b_Reader_readAll 72 = .ok (.istore_n 3, 1) := by decide +kernel
theorem d_Reader_readAll_73 : decode b_Reader_readAll 73 = .ok (.aload_n 0, 1) := by decide +kernel
theorem d_Reader_readAll_74 : decode b_Reader_readAll 74 = .ok (.getfield 19, 3) := by decide +kernel
theorem d_Reader_readAll_77 : decode b_Reader_readAll 77 = .ok (.iload_n 3, 1) := by decide +kernel
theorem d_Reader_readAll_78 : decode b_Reader_readAll 78 = .ok (.if_icmp .lt 10, 3) := by decide +kernel
theorem d_Reader_readAll_81 : decode b_Reader_readAll 81 = .ok (.aload_n 0, 1) := by decide +kernel
theorem d_Reader_readAll_82 : decode b_Reader_readAll 82 = .ok (.invokevirtual 46, 3) := by decide +kernel
theorem d_Reader_readAll_85 : decode b_Reader_readAll 85 = .ok (.goto 8, 3) := by decide +kernel
theorem d_Reader_readAll_88 : decode b_Reader_readAll 88 = .ok (.aload_n 0, 1) := by decide +kernel
theorem d_Reader_readAll_89 : decode b_Reader_readAll 89 = .ok (.iload_n 3, 1) := by decide +kernel
theorem d_Reader_readAll_90 : decode b_Reader_readAll 90 = .ok (.invokevirtual 49, 3) := by decide +kernel
theorem d_Reader_readAll_93 : decode b_Reader_readAll 93 = .ok (.iinc 2 1, 3) := by decide +kernel
theorem d_Reader_readAll_96 : decode b_Reader_readAll 96 = .ok (.goto (-56), 3) := by decide +kernel
theorem d_Reader_readAll_99 : decode b_Reader_readAll 99 = .ok (.aload_n 0, 1) := by decide +kernel
theorem d_Reader_readAll_100 : decode b_Reader_readAll 100 = .ok (.getfield 26, 3) := by decide +kernel
theorem d_Reader_readAll_103 : decode b_Reader_readAll 103 = .ok (.ireturn, 1) := by decide +kernel
theorem d_Reader_refuse_0 : decode b_Reader_refuse 0 = .ok (.aload_n 0, 1) := by decide +kernel
theorem d_Reader_refuse_1 : decode b_Reader_refuse 1 = .ok (.iload_n 1, 1) := by decide +kernel
theorem d_Reader_refuse_2 : decode b_Reader_refuse 2 = .ok (.putfield 26, 3) := by decide +kernel
theorem d_Reader_refuse_5 : decode b_Reader_refuse 5 = .ok (.aload_n 0, 1) := by decide +kernel
theorem d_Reader_refuse_6 : decode b_Reader_refuse 6 = .ok (.iload_n 2, 1) := by decide +kernel
theorem d_Reader_refuse_7 : decode b_Reader_refuse 7 = .ok (.putfield 29, 3) := by decide +kernel
theorem d_Reader_refuse_10 : decode b_Reader_refuse 10 = .ok (.return_, 1) := by decide +kernel
theorem d_Reader_readLastByte_0 : decode b_Reader_readLastByte 0 = .ok (.aload_n 0, 1) := by decide +kernel
theorem d_Reader_readLastByte_1 : decode b_Reader_readLastByte 1 = .ok (.getfield 15, 3) := by decide +kernel
theorem d_Reader_readLastByte_4 : decode b_Reader_readLastByte 4 = .ok (.aload_n 0, 1) := by decide +kernel
theorem d_Reader_readLastByte_5 : decode b_Reader_readLastByte 5 = .ok (.getfield 19, 3) := by decide +kernel
theorem d_Reader_readLastByte_8 : decode b_Reader_readLastByte 8 = .ok (.invokevirtual 53, 3) := by decide +kernel
theorem d_Reader_readLastByte_11 : decode b_Reader_readLastByte 11 = .ok (.ifCond .eq 13, 3) := by decide +kernel
theorem d_Reader_readLastByte_14 : decode b_Reader_readLastByte 14 = .ok (.aload_n 0, 1) := by decide +kernel
theorem d_Reader_readLastByte_15 : decode b_Reader_readLastByte 15 = .ok (.iconst 2, 1) := by decide +kernel
theorem d_Reader_readLastByte_16 : decode b_Reader_readLastByte 16 = .ok (.aload_n 0, 1) := by decide +kernel
theorem d_Reader_readLastByte_17 : decode b_Reader_readLastByte 17 = .ok (.getfield 19, 3) := by decide +kernel
theorem d_Reader_readLastByte_20 : decode b_Reader_readLastByte 20 = .ok (.invokevirtual 58, 3) := by decide +kernel
theorem d_Reader_readLastByte_23 : decode b_Reader_readLastByte 23 = .ok (.return_, 1) := by decide +kernel
theorem d_Reader_readLastByte_24 : decode b_Reader_readLastByte 24 = .ok (.aload_n 0, 1) := by decide +kernel
theorem d_Reader_readLastByte_25 : decode b_Reader_readLastByte 25 = .ok (.dup, 1) := by decide +kernel
theorem d_Reader_readLastByte_26 : decode b_Reader_readLastByte 26 = .ok (.getfield 19, 3) := by decide +kernel
theorem d_Reader_readLastByte_29 : decode b_Reader_readLastByte 29 = .ok (.iconst 1, 1) := by decide +kernel
theorem d_Reader_readLastByte_30 : decode b_Reader_readLastByte 30 = .ok (.iadd, 1) := by decide +kernel
theorem d_Reader_readLastByte_31 : decode b_Reader_readLastByte 31 = .ok (.putfield 19, 3) := by decide +kernel
theorem d_Reader_readLastByte_34 : decode b_Reader_readLastByte 34 = .ok (.aload_n 0, 1) := by decide +kernel
theorem d_Reader_readLastByte_35 : decode b_Reader_readLastByte 35 = .ok (.aload_n 0, 1) := by decide +kernel
theorem d_Reader_readLastByte_36 : decode b_Reader_readLastByte 36 = .ok (.getfield 9, 3) := by decide +kernel
theorem d_Reader_readLastByte_39 : decode b_Reader_readLastByte 39 = .ok (.aload_n 0, 1) := by decide +kernel
theorem d_Reader_readLastByte_40 : decode b_Reader_readLastByte 40 = .ok (.getfield 23, 3) := by decide +kernel
theorem d_Reader_readLastByte_43 : decode b_Reader_readLastByte 43 = .ok (.invokevirtual 62, 3) := by decide +kernel
theorem d_Reader_readLastByte_46 : decode b_Reader_readLastByte 46 = .ok (.putfield 23, 3) := by decide +kernel
theorem d_Reader_readLastByte_49 : decode b_Reader_readLastByte 49 = .ok (.return_, 1) := by decide +kernel
theorem d_Reader_readElement_0 : decode b_Reader_readElement 0 = .ok (.aload_n 0, 1) := by decide +kernel
theorem d_Reader_readElement_1 : decode b_Reader_readElement 1 = .ok (.getfield 15, 3) := by decide +kernel
theorem d_Reader_readElement_4 : decode b_Reader_readElement 4 = .ok (.aload_n 0, 1) := by decide +kernel
theorem d_Reader_readElement_5 : decode b_Reader_readElement 5 = .ok (.getfield 19, 3) := by decide +kernel
theorem d_Reader_readElement_8 : decode b_Reader_readElement 8 = .ok (.invokevirtual 53, 3) := by decide +kernel
theorem d_Reader_readElement_11 : decode b_Reader_readElement 11 = .ok (.istore_n 2, 1) := by decide +kernel
theorem d_Reader_readElement_12 : decode b_Reader_readElement 12 = .ok (.iload_n 2, 1) := by decide +kernel
theorem d_Reader_readElement_13 : decode b_Reader_readElement 13 = .ok (.invokestatic 65, 3) := by decide +kernel
theorem d_Reader_readElement_16 : decode b_Reader_readElement 16 = .ok (.ifCond .ne 21, 3) := by decide +kernel
theorem d_Reader_readElement_19 : decode b_Reader_readElement 19 = .ok (.aload_n 0, 1) := by decide +kernel
theorem d_Reader_readElement_20 : decode b_Reader_readElement 20 = .ok (.iload_n 2, 1) := by decide +kernel
theorem d_Reader_readElement_21 : decode b_Reader_readElement 21 = .ok (.ifCond .ne 7, 3) := by decide +kernel
theorem d_Reader_readElement_24 : decode b_Reader_readElement 24 = .ok (.iconst 2, 1) := by decide +kernel
theorem d_Reader_readElement_25 : decode b_Reader_readElement 25 = .ok (.goto 4, 3) := by decide +kernel
theorem d_Reader_readElement_28 : decode b_Reader_readElement 28 = .ok (.iconst 3, 1) := by decide +kernel
theorem d_Reader_readElement_29 : decode b_Reader_readElement 29 = .ok (.aload_n 0, 1) := by decide +kernel
theorem d_Reader_readElement_30 : decode b_Reader_readElement 30 = .ok (.getfield 19, 3) := by decide +kernel
theorem d_Reader_readElement_33 : decode b_Reader_readElement 33 = .ok (.invokevirtual 58, 3) := by decide +kernel
theorem d_Reader_readElement_36 : decode b_Reader_readElement 36 = .ok (.return_, 1) := by decide +kernel
theorem d_Reader_readElement_37 : decode b_Reader_readElement 37 = .ok (.aload_n 0, 1) := by decide +kernel
theorem d_Reader_readElement_38 : decode b_Reader_readElement 38 = .ok (.dup, 1) := by decide +kernel
theorem d_Reader_readElement_39 : decode b_Reader_readElement 39 = .ok (.getfield 19, 3) := by decide +kernel
theorem d_Reader_readElement_42 : decode b_Reader_readElement 42 = .ok (.iconst 1, 1) := by decide +kernel
theorem d_Reader_readElement_43 : decode b_Reader_readElement 43 = .ok (.iadd, 1) := by decide +kernel
theorem d_Reader_readElement_44 : decode b_Reader_readElement 44 = .ok (.putfield 19, 3) := by decide +kernel
theorem d_Reader_readElement_47 : decode b_Reader_readElement 47 = .ok (.aload_n 0, 1) := by decide +kernel
theorem d_Reader_readElement_48 : decode b_Reader_readElement 48 = .ok (.getfield 19, 3) := by decide +kernel
theorem d_Reader_readElement_51 : decode b_Reader_readElement 51 = .ok (.istore_n 3, 1) := by decide +kernel
theorem d_Reader_readElement_52 : decode b_Reader_readElement 52 = .ok (.aload_n 0, 1) := by decide +kernel
theorem d_Reader_readElement_53 : decode b_Reader_readElement 53 = .ok (.iload_n 1, 1) := by decide +kernel
theorem d_Reader_readElement_54 : decode b_Reader_readElement 54 = .ok (.invokevirtual 71, 3) := by decide +kernel
theorem d_Reader_readElement_57 : decode b_Reader_readElement 57 = .ok (.aload_n 0, 1) := by decide +kernel
theorem d_Reader_readElement_58 : decode b_Reader_readElement 58 = .ok (.getfield 26, 3) := by decide +kernel
theorem d_Reader_readElement_61 : decode b_Reader_readElement 61 = .ok (.ifCond .eq 4, 3) := by decide +kernel
theorem d_Reader_readElement_64 : decode b_Reader_readElement 64 = .ok (.return_, 1) := by decide +kernel
theorem d_Reader_readElement_65 : decode b_Reader_readElement 65 = .ok (.iload_n 2, 1) := by decide +kernel
theorem d_Reader_readElement_66 : decode b_Reader_readElement 66 = .ok (.invokestatic 74, 3) := by decide +kernel
theorem d_Reader_readElement_69 : decode b_Reader_readElement 69 = .ok (.ifCond .eq 16, 3) := by decide +kernel
theorem d_Reader_readElement_72 : decode b_Reader_readElement 72 = .ok (.aload_n 0, 1) := by decide +kernel
theorem d_Reader_readElement_73 : decode b_Reader_readElement 73 = .ok (.iload_n 2, 1) := by decide +kernel
theorem d_Reader_readElement_74 : decode b_Reader_readElement 74 = .ok (.iload_n 3, 1) := by decide +kernel
theorem d_Reader_readElement_75 : decode b_Reader_readElement 75 = .ok (.iload_n 1, 1) := by decide +kernel
theorem d_Reader_readElement_76 : decode b_Reader_readElement 76 = .ok (.aload_n 0, 1) := by decide +kernel
theorem d_Reader_readElement_77 : decode b_Reader_readElement 77 = .ok (.getfield 19, 3) := by decide +kernel
theorem d_Reader_readElement_80 : decode b_Reader_readElement 80 = .ok (.isub, 1) := by decide +kernel
theorem d_Reader_readElement_81 : decode b_Reader_readElement 81 = .ok (.invokevirtual 38, 3) := by decide +kernel
theorem d_Reader_readElement_84 : decode b_Reader_readElement 84 = .ok (.return_, 1) := by decide +kernel
theorem d_Reader_readElement_85 : decode b_Reader_readElement 85 = .ok (.aload_n 0, 1) := by decide +kernel
theorem d_Reader_readElement_86 : decode b_Reader_readElement 86 = .ok (.getfield 19, 3) := by decide +kernel
theorem d_Reader_readElement_89 : decode b_Reader_readElement 89 = .ok (.istore 4, 2) := by decide +kernel
theorem d_Reader_readElement_91 : decode b_Reader_readElement 91 = .ok (.iload_n 2, 1) := by decide +kernel
theorem d_Reader_readElement_92 : decode b_Reader_readElement 92 = .ok (.iconst 2, 1) := by decide +kernel
theorem d_Reader_readElement_93 : decode b_Reader_readElement 93 = .ok (.if_icmp .ne 16, 3) := by decide +kernel
theorem d_Reader_readElement_96 : decode b_Reader_readElement 96 = .ok (.aload_n 0, 1) := by decide +kernel
theorem d_Reader_readElement_97 : decode b_Reader_readElement 97 = .ok (.iload_n 1, 1) := by decide +kernel
theorem d_Reader_readElement_98 : decode b_Reader_readElement 98 = .ok (.aload_n 0, 1) := by decide +kernel
theorem d_Reader_readElement_99 : decode b_Reader_readElement 99 = .ok (.getfield 19, 3) := by decide +kernel
theorem d_Reader_readElement_102 : decode b_Reader_readElement 102 = .ok (.isub, 1) := by decide +kernel
theorem d_Reader_readElement_103 : decode b_Reader_readElement 103 = .ok (.invokevirtual 77, 3) := by decide +kernel
theorem d_Reader_readElement_106 : decode b_Reader_readElement 106 = .ok (.goto 14, 3) := by decide +kernel
theorem d_Reader_readElement_109 : decode b_Reader_readElement 109 = .ok (.aload_n 0, 1) := by decide +kernel
theorem d_Reader_readElement_110 : decode b_Reader_readElement 110 = .ok (.iload_n 2, 1) := by decide +kernel
theorem d_Reader_readElement_111 : decode b_Reader_readElement 111 = .ok (.iload_n 1, 1) := by decide +kernel
theorem d_Reader_readElement_112 : decode b_Reader_readElement 112 = .ok (.aload_n 0, 1) := by decide +kernel
theorem d_Reader_readElement_113 : decode b_Reader_readElement 113 = .ok (.getfield 19, 3) := by decide +kernel
theorem d_Reader_readElement_116 : decode b_Reader_readElement 116 = .ok (.isub, 1) := by decide +kernel
theorem d_Reader_readElement_117 : decode b_Reader_readElement 117 = .ok (.invokevirtual 80, 3) := by decide +kernel
theorem d_Reader_readElement_120 : decode b_Reader_readElement 120 = .ok (.aload_n 0, 1) := by decide +kernel
theorem d_Reader_readElement_121 : decode b_Reader_readElement 121 = .ok (.getfield 9, 3) := by decide +kernel
theorem d_Reader_readElement_124 : decode b_Reader_readElement 124 = .ok (.iload_n 2, 1) := by decide +kernel
theorem d_Reader_readElement_125 : decode b_Reader_readElement 125 = .ok (.aload_n 0, 1) := by decide +kernel
theorem d_Reader_readElement_126 : decode b_Reader_readElement 126 = .ok (.getfield 23, 3) := by decide +kernel
theorem d_Reader_readElement_129 : decode b_Reader_readElement 129 = .ok (.iload_n 3, 1) := by decide +kernel
theorem d_Reader_readElement_130 : decode b_Reader_readElement 130 = .ok (.iload 4, 2) := by decide +kernel
theorem d_Reader_readElement_132 : decode b_Reader_readElement 132 = .ok (.aload_n 0, 1) := by decide +kernel
theorem d_Reader_readElement_133 : decode b_Reader_readElement 133 = .ok (.getfield 19, 3) := by decide +kernel
theorem d_Reader_readElement_136 : decode b_Reader_readElement 136 = .ok (.iload 4, 2) := by decide +kernel
theorem d_Reader_readElement_138 : decode b_Reader_readElement 138 = .ok (.isub, 1) := by decide +kernel
theorem d_Reader_readElement_139 : decode b_Reader_readElement 139 = .ok (.invokevirtual 83, 3) := by decide +kernel
theorem d_Reader_readElement_142 : decode b_Reader_readElement 142 = .ok (.pop, 1) := by decide +kernel
theorem d_Reader_readElement_143 : decode b_Reader_readElement 143 = .ok (.return_, 1) := by decide +kernel
theorem d_Reader_readName_0 : decode b_Reader_readName 0 = .ok (.aload_n 0, 1) := by decide +kernel
theorem d_Reader_readName_1 : decode b_Reader_readName 1 = .ok (.getfield 15, 3) := by decide +kernel
theorem d_Reader_readName_4 : decode b_Reader_readName 4 = .ok (.aload_n 0, 1) := by decide +kernel
theorem d_Reader_readName_5 : decode b_Reader_readName 5 = .ok (.getfield 19, 3) := by decide +kernel
theorem d_Reader_readName_8 : decode b_Reader_readName 8 = .ok (.iload_n 1, 1) := by decide +kernel
theorem d_Reader_readName_9 : decode b_Reader_readName 9 = .ok (.invokevirtual 87, 3) := by decide +kernel
theorem d_Reader_readName_12 : decode b_Reader_readName 12 = .ok (.istore_n 2, 1) := by decide +kernel
theorem d_Reader_readName_13 : decode b_Reader_readName 13 = .ok (.iload_n 2, 1) := by decide +kernel
theorem d_Reader_readName_14 : decode b_Reader_readName 14 = .ok (.iconst (-1), 1) := by decide +kernel
theorem d_Reader_readName_15 : decode b_Reader_readName 15 = .ok (.if_icmp .ne 13, 3) := by decide +kernel
theorem d_Reader_readName_18 : decode b_Reader_readName 18 = .ok (.aload_n 0, 1) := by decide +kernel
theorem d_Reader_readName_19 : decode b_Reader_readName 19 = .ok (.iconst 1, 1) := by decide +kernel
theorem d_Reader_readName_20 : decode b_Reader_readName 20 = .ok (.aload_n 0, 1) := by decide +kernel
theorem d_Reader_readName_21 : decode b_Reader_readName 21 = .ok (.getfield 19, 3) := by decide +kernel
theorem d_Reader_readName_24 : decode b_Reader_readName 24 = .ok (.invokevirtual 58, 3) := by decide +kernel
theorem d_Reader_readName_27 : decode b_Reader_readName 27 = .ok (.return_, 1) := by decide +kernel
theorem d_Reader_readName_28 : decode b_Reader_readName 28 = .ok (.aload_n 0, 1) := by decide +kernel
theorem d_Reader_readName_29 : decode b_Reader_readName 29 = .ok (.getfield 15, 3) := by decide +kernel
theorem d_Reader_readName_32 : decode b_Reader_readName 32 = .ok (.aload_n 0, 1) := by decide +kernel
theorem d_Reader_readName_33 : decode b_Reader_readName 33 = .ok (.getfield 19, 3) := by decide +kernel
theorem d_Reader_readName_36 : decode b_Reader_readName 36 = .ok (.iload_n 2, 1) := by decide +kernel
theorem d_Reader_readName_37 : decode b_Reader_readName 37 = .ok (.invokestatic 91, 3) := by decide +kernel
theorem d_Reader_readName_40 : decode b_Reader_readName 40 = .ok (.istore_n 3, 1) := by decide +kernel
theorem d_Reader_readName_41 : decode b_Reader_readName 41 = .ok (.iload_n 3, 1) := by decide +kernel
theorem d_Reader_readName_42 : decode b_Reader_readName 42 = .ok (.iconst (-1), 1) := by decide +kernel
theorem d_Reader_readName_43 : decode b_Reader_readName 43 = .ok (.if_icmp .eq 10, 3) := by decide +kernel
theorem d_Reader_readName_46 : decode b_Reader_readName 46 = .ok (.aload_n 0, 1) := by decide +kernel
theorem d_Reader_readName_47 : decode b_Reader_readName 47 = .ok (.iconst 4, 1) := by decide +kernel
theorem d_Reader_readName_48 : decode b_Reader_readName 48 = .ok (.iload_n 3, 1) := by decide +kernel
theorem d_Reader_readName_49 : decode b_Reader_readName 49 = .ok (.invokevirtual 58, 3) := by decide +kernel
theorem d_Reader_readName_52 : decode b_Reader_readName 52 = .ok (.return_, 1) := by decide +kernel
theorem d_Reader_readName_53 : decode b_Reader_readName 53 = .ok (.aload_n 0, 1) := by decide +kernel
theorem d_Reader_readName_54 : decode b_Reader_readName 54 = .ok (.getfield 9, 3) := by decide +kernel
theorem d_Reader_readName_57 : decode b_Reader_readName 57 = .ok (.aload_n 0, 1) := by decide +kernel
theorem d_Reader_readName_58 : decode b_Reader_readName 58 = .ok (.getfield 23, 3) := by decide +kernel
theorem d_Reader_readName_61 : decode b_Reader_readName 61 = .ok (.invokevirtual 97, 3) := by decide +kernel
theorem d_Reader_readName_64 : decode b_Reader_readName 64 = .ok (.iconst 4, 1) := by decide +kernel
theorem d_Reader_readName_65 : decode b_Reader_readName 65 = .ok (.if_icmp .ne 34, 3) := by decide +kernel
theorem d_Reader_readName_68 : decode b_Reader_readName 68 = .ok (.aload_n 0, 1) := by decide +kernel
theorem d_Reader_readName_69 : decode b_Reader_readName 69 = .ok (.getfield 15, 3) := by decide +kernel
theorem d_Reader_readName_72 : decode b_Reader_readName 72 = .ok (.aload_n 0, 1) := by decide +kernel
theorem d_Reader_readName_73 : decode b_Reader_readName 73 = .ok (.getfield 19, 3) := by decide +kernel
theorem d_Reader_readName_76 : decode b_Reader_readName 76 = .ok (.iload_n 2, 1) := by decide +kernel
theorem d_Reader_readName_77 : decode b_Reader_readName 77 = .ok (.aload_n 0, 1) := by decide +kernel
theorem d_Reader_readName_78 : decode b_Reader_readName 78 = .ok (.getfield 19, 3) := by decide +kernel
theorem d_Reader_readName_81 : decode b_Reader_readName 81 = .ok (.isub, 1) := by decide +kernel
theorem d_Reader_readName_82 : decode b_Reader_readName 82 = .ok (.aload_n 0, 1) := by decide +kernel
theorem d_Reader_readName_83 : decode b_Reader_readName 83 = .ok (.getfield 9, 3) := by decide +kernel
theorem d_Reader_readName_86 : decode b_Reader_readName 86 = .ok (.aload_n 0, 1) := by decide +kernel
theorem d_Reader_readName_87 : decode b_Reader_readName 87 = .ok (.getfield 23, 3) := by decide +kernel
theorem d_Reader_readName_90 : decode b_Reader_readName 90 = .ok (.invokevirtual 100, 3) := by decide +kernel
theorem d_Reader_readName_93 : decode b_Reader_readName 93 = .ok (.invokevirtual 103, 3) := by decide +kernel
theorem d_Reader_readName_96 : decode b_Reader_readName 96 = .ok (.goto 37, 3) := by decide +kernel
theorem d_Reader_readName_99 : decode b_Reader_readName 99 = .ok (.aload_n 0, 1) := by decide +kernel
theorem d_Reader_readName_100 : decode b_Reader_readName 100 = .ok (.getfield 9, 3) := by decide +kernel
theorem d_Reader_readName_103 : decode b_Reader_readName 103 = .ok (.aload_n 0, 1) := by decide +kernel
theorem d_Reader_readName_104 : decode b_Reader_readName 104 = .ok (.getfield 23, 3) := by decide +kernel
theorem d_Reader_readName_107 : decode b_Reader_readName 107 = .ok (.aload_n 0, 1) := by decide +kernel
theorem d_Reader_readName_108 : decode b_Reader_readName 108 = .ok (.getfield 15, 3) := by decide +kernel
theorem d_Reader_readName_111 : decode b_Reader_readName 111 = .ok (.aload_n 0, 1) := by decide +kernel
theorem d_Reader_readName_112 : decode b_Reader_readName 112 = .ok (.getfield 19, 3) := by decide +kernel
theorem d_Reader_readName_115 : decode b_Reader_readName 115 = .ok (.iload_n 2, 1) := by decide +kernel
theorem d_Reader_readName_116 : decode b_Reader_readName 116 = .ok (.aload_n 0, 1) := by decide +kernel
theorem d_Reader_readName_117 : decode b_Reader_readName 117 = .ok (.getfield 19, 3) := by decide +kernel
theorem d_Reader_readName_120 : decode b_Reader_readName 120 = .ok (.isub, 1) := by decide +kernel
theorem d_Reader_readName_121 : decode b_Reader_readName 121 = .ok (.invokevirtual 107, 3) := by decide +kernel
theorem d_Reader_readName_124 : decode b_Reader_readName 124 = .ok (.iconst (-1), 1) := by decide +kernel
theorem d_Reader_readName_125 : decode b_Reader_readName 125 = .ok (.if_icmp .ne 7, 3) := by decide +kernel
theorem d_Reader_readName_128 : decode b_Reader_readName 128 = .ok (.iconst 1, 1) := by decide +kernel
theorem d_Reader_readName_129 : decode b_Reader_readName 129 = .ok (.goto 4, 3) := by decide +kernel
theorem d_Reader_readName_132 : decode b_Reader_readName 132 = .ok (.iconst 0, 1) := by decide +kernel
theorem d_Reader_readName_133 : decode b_Reader_readName 133 = .ok (.istore 4, 2) := by decide +kernel
theorem d_Reader_readName_135 : decode b_Reader_readName 135 = .ok (.iload 4, 2) := by decide +kernel
theorem d_Reader_readName_137 : decode b_Reader_readName 137 = .ok (.ifCond .eq 13, 3) := by decide +kernel
theorem d_Reader_readName_140 : decode b_Reader_readName 140 = .ok (.aload_n 0, 1) := by decide +kernel
theorem d_Reader_readName_141 : decode b_Reader_readName 141 = .ok (.iload_n 2, 1) := by decide +kernel
theorem d_Reader_readName_142 : decode b_Reader_readName 142 = .ok (.iconst 1, 1) := by decide +kernel
theorem d_Reader_readName_143 : decode b_Reader_readName 143 = .ok (.iadd, 1) := by decide +kernel
theorem d_Reader_readName_144 : decode b_Reader_readName 144 = .ok (.putfield 19, 3) := by decide +kernel
theorem d_Reader_readName_147 : decode b_Reader_readName 147 = .ok (.goto 13, 3) := by decide +kernel
theorem d_Reader_readName_150 : decode b_Reader_readName 150 = .ok (.aload_n 0, 1) := by decide +kernel
theorem d_Reader_readName_151 : decode b_Reader_readName 151 = .ok (.bipush 7, 2) := by decide +kernel
theorem d_Reader_readName_153 : decode b_Reader_readName 153 = .ok (.aload_n 0, 1) := by decide +kernel
theorem d_Reader_readName_154 : decode b_Reader_readName 154 = .ok (.getfield 19, 3) := by decide +kernel
theorem d_Reader_readName_157 : decode b_Reader_readName 157 = .ok (.invokevirtual 58, 3) := by decide +kernel
theorem d_Reader_readName_160 : decode b_Reader_readName 160 = .ok (.return_, 1) := by decide +kernel
theorem d_Reader_readSize_0 : decode b_Reader_readSize 0 = .ok (.iload_n 3, 1) := by decide +kernel
theorem d_Reader_readSize_1 : decode b_Reader_readSize 1 = .ok (.iconst 4, 1) := by decide +kernel
theorem d_Reader_readSize_2 : decode b_Reader_readSize 2 = .ok (.if_icmp .ge 13, 3) := by decide +kernel
theorem d_Reader_readSize_5 : decode b_Reader_readSize 5 = .ok (.aload_n 0, 1) := by decide +kernel
theorem d_Reader_readSize_6 : decode b_Reader_readSize 6 = .ok (.iconst 1, 1) := by decide +kernel
theorem d_Reader_readSize_7 : decode b_Reader_readSize 7 = .ok (.aload_n 0, 1) := by decide +kernel
theorem d_Reader_readSize_8 : decode b_Reader_readSize 8 = .ok (.getfield 19, 3) := by decide +kernel
theorem d_Reader_readSize_11 : decode b_Reader_readSize 11 = .ok (.invokevirtual 58, 3) := by decide +kernel
theorem d_Reader_readSize_14 : decode b_Reader_readSize 14 = .ok (.return_, 1) := by decide +kernel
theorem d_Reader_readSize_15 : decode b_Reader_readSize 15 = .ok (.aload_n 0, 1) := by decide +kernel
theorem d_Reader_readSize_16 : decode b_Reader_readSize 16 = .ok (.getfield 15, 3) := by decide +kernel
theorem d_Reader_readSize_19 : decode b_Reader_readSize 19 = .ok (.aload_n 0, 1) := by decide +kernel
theorem d_Reader_readSize_20 : decode b_Reader_readSize 20 = .ok (.getfield 19, 3) := by decide +kernel
theorem d_Reader_readSize_23 : decode b_Reader_readSize 23 = .ok (.iconst 4, 1) := by decide +kernel
theorem d_Reader_readSize_24 : decode b_Reader_readSize 24 = .ok (.invokevirtual 111, 3) := by decide +kernel
theorem d_Reader_readSize_27 : decode b_Reader_readSize 27 = .ok (.lstore 4, 2) := by decide +kernel
theorem d_Reader_readSize_29 : decode b_Reader_readSize 29 = .ok (.aload_n 0, 1) := by decide +kernel
theorem d_Reader_readSize_30 : decode b_Reader_readSize 30 = .ok (.getfield 23, 3) := by decide +kernel
theorem d_Reader_readSize_33 : decode b_Reader_readSize 33 = .ok (.iconst (-1), 1) := by decide +kernel
theorem d_Reader_readSize_34 : decode b_Reader_readSize 34 = .ok (.if_icmp .ne 7, 3) := by decide +kernel
theorem d_Reader_readSize_37 : decode b_Reader_readSize 37 = .ok (.iconst 1, 1) := by decide +kernel
theorem d_Reader_readSize_38 : decode b_Reader_readSize 38 = .ok (.goto 4, 3) := by decide +kernel
theorem d_Reader_readSize_41 : decode b_Reader_readSize 41 = .ok (.iconst 0, 1) := by decide +kernel
theorem d_Reader_readSize_42 : decode b_Reader_readSize 42 = .ok (.istore 6, 2) := by decide +kernel
theorem d_Reader_readSize_44 : decode b_Reader_readSize 44 = .ok (.lload 4, 2) := by decide +kernel
theorem d_Reader_readSize_46 : decode b_Reader_readSize 46 = .ok (.ldc2_w 115, 3) := by decide +kernel
theorem d_Reader_readSize_49 : decode b_Reader_readSize 49 = .ok (.lcmp, 1) := by decide +kernel
theorem d_Reader_readSize_50 : decode b_Reader_readSize 50 = .ok (.ifCond .lt 16, 3) := by decide +kernel
theorem d_Reader_readSize_53 : decode b_Reader_readSize 53 = .ok (.iload 6, 2) := by decide +kernel
theorem d_Reader_readSize_55 : decode b_Reader_readSize 55 = .ok (.ifCond .eq 23, 3) := by decide +kernel
theorem d_Reader_readSize_58 : decode b_Reader_readSize 58 = .ok (.lload 4, 2) := by decide +kernel
theorem d_Reader_readSize_60 : decode b_Reader_readSize 60 = .ok (.iload_n 3, 1) := by decide +kernel
theorem d_Reader_readSize_61 : decode b_Reader_readSize 61 = .ok (.i2l, 1) := by decide +kernel
theorem d_Reader_readSize_62 : decode b_Reader_readSize 62 = .ok (.lcmp, 1) := by decide +kernel
theorem d_Reader_readSize_63 : decode b_Reader_readSize 63 = .ok (.ifCond .ge 15, 3) := by decide +kernel
theorem d_Reader_readSize_66 : decode b_Reader_readSize 66 = .ok (.aload_n 0, 1) := by decide +kernel
theorem d_Reader_readSize_67 : decode b_Reader_readSize 67 = .ok (.iconst 2, 1) := by decide +kernel
theorem d_Reader_readSize_68 : decode b_Reader_readSize 68 = .ok (.aload_n 0, 1) := by decide +kernel
theorem d_Reader_readSize_69 : decode b_Reader_readSize 69 = .ok (.getfield 19, 3) := by decide +kernel
theorem d_Reader_readSize_72 : decode b_Reader_readSize 72 = .ok (.invokevirtual 58, 3) := by decide +kernel
theorem d_Reader_readSize_75 : decode b_Reader_readSize 75 = .ok (.goto 86, 3) := by decide +kernel
theorem d_Reader_readSize_78 : decode b_Reader_readSize 78 = .ok (.lload 4, 2) := by decide +kernel
theorem d_Reader_readSize_80 : decode b_Reader_readSize 80 = .ok (.iload_n 3, 1) := by decide +kernel
theorem d_Reader_readSize_81 : decode b_Reader_readSize 81 = .ok (.i2l, 1) := by decide +kernel
theorem d_Reader_readSize_82 : decode b_Reader_readSize 82 = .ok (.lcmp, 1) := by decide +kernel
theorem d_Reader_readSize_83 : decode b_Reader_readSize 83 = .ok (.ifCond .le 15, 3) := by decide +kernel
theorem d_Reader_readSize_86 : decode b_Reader_readSize 86 = .ok (.aload_n 0, 1) := by decide +kernel
theorem d_Reader_readSize_87 : decode b_Reader_readSize 87 = .ok (.iconst 1, 1) := by decide +kernel
theorem d_Reader_readSize_88 : decode b_Reader_readSize 88 = .ok (.aload_n 0, 1) := by decide +kernel
theorem d_Reader_readSize_89 : decode b_Reader_readSize 89 = .ok (.getfield 19, 3) := by decide +kernel
theorem d_Reader_readSize_92 : decode b_Reader_readSize 92 = .ok (.invokevirtual 58, 3) := by decide +kernel
theorem d_Reader_readSize_95 : decode b_Reader_readSize 95 = .ok (.goto 66, 3) := by decide +kernel
theorem d_Reader_readSize_98 : decode b_Reader_readSize 98 = .ok (.aload_n 0, 1) := by decide +kernel
theorem d_Reader_readSize_99 : decode b_Reader_readSize 99 = .ok (.getfield 9, 3) := by decide +kernel
theorem d_Reader_readSize_102 : decode b_Reader_readSize 102 = .ok (.aload_n 0, 1) := by decide +kernel
theorem d_Reader_readSize_103 : decode b_Reader_readSize 103 = .ok (.getfield 23, 3) := by decide +kernel
theorem d_Reader_readSize_106 : decode b_Reader_readSize 106 = .ok (.invokevirtual 117, 3) := by decide +kernel
theorem d_Reader_readSize_109 : decode b_Reader_readSize 109 = .ok (.bipush 16, 2) := by decide +kernel
theorem d_Reader_readSize_111 : decode b_Reader_readSize 111 = .ok (.if_icmp .lt 16, 3) := by decide +kernel
theorem d_Reader_readSize_114 : decode b_Reader_readSize 114 = .ok (.aload_n 0, 1) := by decide +kernel
theorem d_Reader_readSize_115 : decode b_Reader_readSize 115 = .ok (.bipush 8, 2) := by decide +kernel
theorem d_Reader_readSize_117 : decode b_Reader_readSize 117 = .ok (.aload_n 0, 1) := by decide +kernel
theorem d_Reader_readSize_118 : decode b_Reader_readSize 118 = .ok (.getfield 19, 3) := by decide +kernel
theorem d_Reader_readSize_121 : decode b_Reader_readSize 121 = .ok (.invokevirtual 58, 3) := by decide +kernel
theorem d_Reader_readSize_124 : decode b_Reader_readSize 124 = .ok (.goto 37, 3) := by decide +kernel
theorem d_Reader_readSize_127 : decode b_Reader_readSize 127 = .ok (.aload_n 0, 1) := by decide +kernel
theorem d_Reader_readSize_128 : decode b_Reader_readSize 128 = .ok (.aload_n 0, 1) := by decide +kernel
theorem d_Reader_readSize_129 : decode b_Reader_readSize 129 = .ok (.getfield 9, 3) := by decide +kernel
theorem d_Reader_readSize_132 : decode b_Reader_readSize 132 = .ok (.iload_n 1, 1) := by decide +kernel
theorem d_Reader_readSize_133 : decode b_Reader_readSize 133 = .ok (.aload_n 0, 1) := by decide +kernel
theorem d_Reader_readSize_134 : decode b_Reader_readSize 134 = .ok (.getfield 23, 3) := by decide +kernel
theorem d_Reader_readSize_137 : decode b_Reader_readSize 137 = .ok (.iload_n 2, 1) := by decide +kernel
theorem d_Reader_readSize_138 : decode b_Reader_readSize 138 = .ok (.aload_n 0, 1) := by decide +kernel
theorem d_Reader_readSize_139 : decode b_Reader_readSize 139 = .ok (.getfield 19, 3) := by decide +kernel
theorem d_Reader_readSize_142 : decode b_Reader_readSize 142 = .ok (.lload 4, 2) := by decide +kernel
theorem d_Reader_readSize_144 : decode b_Reader_readSize 144 = .ok (.l2i, 1) := by decide +kernel
theorem d_Reader_readSize_145 : decode b_Reader_readSize 145 = .ok (.invokevirtual 83, 3) := by decide +kernel
theorem d_Reader_readSize_148 : decode b_Reader_readSize 148 = .ok (.putfield 23, 3) := by decide +kernel
theorem d_Reader_readSize_151 : decode b_Reader_readSize 151 = .ok (.aload_n 0, 1) := by decide +kernel
theorem d_Reader_readSize_152 : decode b_Reader_readSize 152 = .ok (.dup, 1) := by decide +kernel
theorem d_Reader_readSize_153 : decode b_Reader_readSize 153 = .ok (.getfield 19, 3) := by decide +kernel
theorem d_Reader_readSize_156 : decode b_Reader_readSize 156 = .ok (.iconst 4, 1) := by decide +kernel
theorem d_Reader_readSize_157 : decode b_Reader_readSize 157 = .ok (.iadd, 1) := by decide +kernel
theorem d_Reader_readSize_158 : decode b_Reader_readSize 158 = .ok (.putfield 19, 3) := by decide +kernel
theorem d_Reader_readSize_161 : decode b_Reader_readSize 161 = .ok (.return_, 1) := by decide +kernel
theorem d_Reader_readText_0 : decode b_Reader_readText 0 = .ok (.iload_n 1, 1) := by decide +kernel
theorem d_Reader_readText_1 : decode b_Reader_readText 1 = .ok (.iconst 4, 1) := by decide +kernel
theorem d_Reader_readText_2 : decode b_Reader_readText 2 = .ok (.if_icmp .ge 13, 3) := by decide +kernel
theorem d_Reader_readText_5 : decode b_Reader_readText 5 = .ok (.aload_n 0, 1) := by decide +kernel
theorem d_Reader_readText_6 : decode b_Reader_readText 6 = .ok (.iconst 1, 1) := by decide +kernel
theorem d_Reader_readText_7 : decode b_Reader_readText 7 = .ok (.aload_n 0, 1) := by decide +kernel
theorem d_Reader_readText_8 : decode b_Reader_readText 8 = .ok (.getfield 19, 3) := by decide +kernel
theorem d_Reader_readText_11 : decode b_Reader_readText 11 = .ok (.invokevirtual 58, 3) := by decide +kernel
theorem d_Reader_readText_14 : decode b_Reader_readText 14 = .ok (.return_, 1) := by decide +kernel
theorem d_Reader_readText_15 : decode b_Reader_readText 15 = .ok (.aload_n 0, 1) := by decide +kernel
theorem d_Reader_readText_16 : decode b_Reader_readText 16 = .ok (.getfield 15, 3) := by decide +kernel
theorem d_Reader_readText_19 : decode b_Reader_readText 19 = .ok (.aload_n 0, 1) := by decide +kernel
theorem d_Reader_readText_20 : decode b_Reader_readText 20 = .ok (.getfield 19, 3) := by decide +kernel
theorem d_Reader_readText_23 : decode b_Reader_readText 23 = .ok (.iconst 4, 1) := by decide +kernel
theorem d_Reader_readText_24 : decode b_Reader_readText 24 = .ok (.invokevirtual 111, 3) := by decide +kernel
theorem d_Reader_readText_27 : decode b_Reader_readText 27 = .ok (.lstore_n 2, 1) := by decide +kernel
theorem d_Reader_readText_28 : decode b_Reader_readText 28 = .ok (.lload_n 2, 1) := by decide +kernel
theorem d_Reader_readText_29 : decode b_Reader_readText 29 = .ok (.lconst 1, 1) := by decide +kernel
theorem d_Reader_readText_30 : decode b_Reader_readText 30 = .ok (.lcmp, 1) := by decide +kernel
theorem d_Reader_readText_31 : decode b_Reader_readText 31 = .ok (.ifCond .lt 12, 3) := by decide +kernel
theorem d_Reader_readText_34 : decode b_Reader_readText 34 = .ok (.lload_n 2, 1) := by decide +kernel
theorem d_Reader_readText_35 : decode b_Reader_readText 35 = .ok (.iload_n 1, 1) := by decide +kernel
theorem d_Reader_readText_36 : decode b_Reader_readText 36 = .ok (.iconst 4, 1) := by decide +kernel
theorem d_Reader_readText_37 : decode b_Reader_readText 37 = .ok (.isub, 1) := by decide +kernel
theorem d_Reader_readText_38 : decode b_Reader_readText 38 = .ok (.i2l, 1) := by decide +kernel
theorem d_Reader_readText_39 : decode b_Reader_readText 39 = .ok (.lcmp, 1) := by decide +kernel
theorem d_Reader_readText_40 : decode b_Reader_readText 40 = .ok (.ifCond .le 24, 3) := by decide +kernel
theorem d_Reader_readText_43 : decode b_Reader_readText 43 = .ok (.aload_n 0, 1) := by decide +kernel
theorem d_Reader_readText_44 : decode b_Reader_readText 44 = .ok (.lload_n 2, 1) := by decide +kernel
theorem d_Reader_readText_45 : decode b_Reader_readText 45 = .ok (.lconst 1, 1) := by decide +kernel
theorem d_Reader_readText_46 : decode b_Reader_readText 46 = .ok (.lcmp, 1) := by decide +kernel
theorem d_Reader_readText_47 : decode b_Reader_readText 47 = .ok (.ifCond .ge 8, 3) := by decide +kernel
theorem d_Reader_readText_50 : decode b_Reader_readText 50 = .ok (.bipush 6, 2) := by decide +kernel
theorem d_Reader_readText_52 : decode b_Reader_readText 52 = .ok (.goto 4, 3) := by decide +kernel
theorem d_Reader_readText_55 : decode b_Reader_readText 55 = .ok (.iconst 1, 1) := by decide +kernel
theorem d_Reader_readText_56 : decode b_Reader_readText 56 = .ok (.aload_n 0, 1) := by decide +kernel
theorem d_Reader_readText_57 : decode b_Reader_readText 57 = .ok (.getfield 19, 3) := by decide +kernel
theorem d_Reader_readText_60 : decode b_Reader_readText 60 = .ok (.invokevirtual 58, 3) := by decide +kernel
theorem d_Reader_readText_63 : decode b_Reader_readText 63 = .ok (.return_, 1) := by decide +kernel
theorem d_Reader_readText_64 : decode b_Reader_readText 64 = .ok (.aload_n 0, 1) := by decide +kernel
theorem d_Reader_readText_65 : decode b_Reader_readText 65 = .ok (.getfield 19, 3) := by decide +kernel
theorem d_Reader_readText_68 : decode b_Reader_readText 68 = .ok (.iconst 4, 1) := by decide +kernel
theorem d_Reader_readText_69 : decode b_Reader_readText 69 = .ok (.iadd, 1) := by decide +kernel
theorem d_Reader_readText_70 : decode b_Reader_readText 70 = .ok (.istore 4, 2) := by decide +kernel
theorem d_Reader_readText_72 : decode b_Reader_readText 72 = .ok (.iload 4, 2) := by decide +kernel
theorem d_Reader_readText_74 : decode b_Reader_readText 74 = .ok (.lload_n 2, 1) := by decide +kernel
theorem d_Reader_readText_75 : decode b_Reader_readText 75 = .ok (.l2i, 1) := by decide +kernel
theorem d_Reader_readText_76 : decode b_Reader_readText 76 = .ok (.iadd, 1) := by decide +kernel
theorem d_Reader_readText_77 : decode b_Reader_readText 77 = .ok (.iconst 1, 1) := by decide +kernel
theorem d_Reader_readText_78 : decode b_Reader_readText 78 = .ok (.isub, 1) := by decide +kernel
theorem d_Reader_readText_79 : decode b_Reader_readText 79 = .ok (.istore 5, 2) := by decide +kernel
theorem d_Reader_readText_81 : decode b_Reader_readText 81 = .ok (.aload_n 0, 1) := by decide +kernel
theorem d_Reader_readText_82 : decode b_Reader_readText 82 = .ok (.getfield 15, 3) := by decide +kernel
theorem d_Reader_readText_85 : decode b_Reader_readText 85 = .ok (.iload 5, 2) := by decide +kernel
theorem d_Reader_readText_87 : decode b_Reader_readText 87 = .ok (.invokevirtual 53, 3) := by decide +kernel
theorem d_Reader_readText_90 : decode b_Reader_readText 90 = .ok (.ifCond .eq 12, 3) := by decide +kernel
theorem d_Reader_readText_93 : decode b_Reader_readText 93 = .ok (.aload_n 0, 1) := by decide +kernel
theorem d_Reader_readText_94 : decode b_Reader_readText 94 = .ok (.bipush 6, 2) := by decide +kernel
theorem d_Reader_readText_96 : decode b_Reader_readText 96 = .ok (.iload 5, 2) := by decide +kernel
theorem d_Reader_readText_98 : decode b_Reader_readText 98 = .ok (.invokevirtual 58, 3) := by decide +kernel
theorem d_Reader_readText_101 : decode b_Reader_readText 101 = .ok (.return_, 1) := by decide +kernel
theorem d_Reader_readText_102 : decode b_Reader_readText 102 = .ok (.aload_n 0, 1) := by decide +kernel
theorem d_Reader_readText_103 : decode b_Reader_readText 103 = .ok (.getfield 15, 3) := by decide +kernel
theorem d_Reader_readText_106 : decode b_Reader_readText 106 = .ok (.iload 4, 2) := by decide +kernel
theorem d_Reader_readText_108 : decode b_Reader_readText 108 = .ok (.iload 5, 2) := by decide +kernel
theorem d_Reader_readText_110 : decode b_Reader_readText 110 = .ok (.invokestatic 91, 3) := by decide +kernel
theorem d_Reader_readText_113 : decode b_Reader_readText 113 = .ok (.istore 6, 2) := by decide +kernel
theorem d_Reader_readText_115 : decode b_Reader_readText 115 = .ok (.iload 6, 2) := by decide +kernel
theorem d_Reader_readText_117 : decode b_Reader_readText 117 = .ok (.iconst (-1), 1) := by decide +kernel
theorem d_Reader_readText_118 : decode b_Reader_readText 118 = .ok (.if_icmp .eq 13, 3) := by decide +kernel
theorem d_Reader_readText_121 : decode b_Reader_readText 121 = .ok (.aload_n 0, 1) := by decide +kernel
theorem d_Reader_readText_122 : decode b_Reader_readText 122 = .ok (.iconst 4, 1) := by decide +kernel
theorem d_Reader_readText_123 : decode b_Reader_readText 123 = .ok (.iload 6, 2) := by decide +kernel
theorem d_Reader_readText_125 : decode b_Reader_readText 125 = .ok (.invokevirtual 58, 3) := by decide +kernel
theorem d_Reader_readText_128 : decode b_Reader_readText 128 = .ok (.goto 11, 3) := by decide +kernel
theorem d_Reader_readText_131 : decode b_Reader_readText 131 = .ok (.aload_n 0, 1) := by decide +kernel
theorem d_Reader_readText_132 : decode b_Reader_readText 132 = .ok (.iload 5, 2) := by decide +kernel
theorem d_Reader_readText_134 : decode b_Reader_readText 134 = .ok (.iconst 1, 1) := by decide +kernel
theorem d_Reader_readText_135 : decode b_Reader_readText 135 = .ok (.iadd, 1) := by decide +kernel
theorem d_Reader_readText_136 : decode b_Reader_readText 136 = .ok (.putfield 19, 3) := by decide +kernel
theorem d_Reader_readText_139 : decode b_Reader_readText 139 = .ok (.return_, 1) := by decide +kernel
theorem d_Reader_readNumber_0 : decode b_Reader_readNumber 0 = .ok (.iload_n 1, 1) := by decide +kernel
theorem d_Reader_readNumber_1 : decode b_Reader_readNumber 1 = .ok (.invokestatic 120, 3) := by decide +kernel
theorem d_Reader_readNumber_4 : decode b_Reader_readNumber 4 = .ok (.istore_n 3, 1) := by decide +kernel
theorem d_Reader_readNumber_5 : decode b_Reader_readNumber 5 = .ok (.iload_n 2, 1) := by decide +kernel
theorem d_Reader_readNumber_6 : decode b_Reader_readNumber 6 = .ok (.iload_n 3, 1) := by decide +kernel
theorem d_Reader_readNumber_7 : decode b_Reader_readNumber 7 = .ok (.if_icmp .ge 15, 3) := by decide +kernel
theorem d_Reader_readNumber_10 : decode b_Reader_readNumber 10 = .ok (.aload_n 0, 1) := by decide +kernel
theorem d_Reader_readNumber_11 : decode b_Reader_readNumber 11 = .ok (.iconst 1, 1) := by decide +kernel
theorem d_Reader_readNumber_12 : decode b_Reader_readNumber 12 = .ok (.aload_n 0, 1) := by decide +kernel
theorem d_Reader_readNumber_13 : decode b_Reader_readNumber 13 = .ok (.getfield 19, 3) := by decide +kernel
theorem d_Reader_readNumber_16 : decode b_Reader_readNumber 16 = .ok (.invokevirtual 58, 3) := by decide +kernel
theorem d_Reader_readNumber_19 : decode b_Reader_readNumber 19 = .ok (.goto 46, 3) := by decide +kernel
theorem d_Reader_readNumber_22 : decode b_Reader_readNumber 22 = .ok (.iload_n 1, 1) := by decide +kernel
theorem d_Reader_readNumber_23 : decode b_Reader_readNumber 23 = .ok (.bipush 8, 2) := by decide +kernel
theorem d_Reader_readNumber_25 : decode b_Reader_readNumber 25 = .ok (.if_icmp .ne 30, 3) := by decide +kernel
theorem d_Reader_readNumber_28 : decode b_Reader_readNumber 28 = .ok (.aload_n 0, 1) := by decide +kernel
theorem d_Reader_readNumber_29 : decode b_Reader_readNumber 29 = .ok (.getfield 15, 3) := by decide +kernel
theorem d_Reader_readNumber_32 : decode b_Reader_readNumber 32 = .ok (.aload_n 0, 1) := by decide +kernel
theorem d_Reader_readNumber_33 : decode b_Reader_readNumber 33 = .ok (.getfield 19, 3) := by decide +kernel
theorem d_Reader_readNumber_36 : decode b_Reader_readNumber 36 = .ok (.invokevirtual 53, 3) := by decide +kernel
theorem d_Reader_readNumber_39 : decode b_Reader_readNumber 39 = .ok (.iconst 1, 1) := by decide +kernel
theorem d_Reader_readNumber_40 : decode b_Reader_readNumber 40 = .ok (.if_icmp .le 15, 3) := by decide +kernel
theorem d_Reader_readNumber_43 : decode b_Reader_readNumber 43 = .ok (.aload_n 0, 1) := by decide +kernel
theorem d_Reader_readNumber_44 : decode b_Reader_readNumber 44 = .ok (.iconst 5, 1) := by decide +kernel
theorem d_Reader_readNumber_45 : decode b_Reader_readNumber 45 = .ok (.aload_n 0, 1) := by decide +kernel
theorem d_Reader_readNumber_46 : decode b_Reader_readNumber 46 = .ok (.getfield 19, 3) := by decide +kernel
theorem d_Reader_readNumber_49 : decode b_Reader_readNumber 49 = .ok (.invokevirtual 58, 3) := by decide +kernel
theorem d_Reader_readNumber_52 : decode b_Reader_readNumber 52 = .ok (.goto 13, 3) := by decide +kernel
theorem d_Reader_readNumber_55 : decode b_Reader_readNumber 55 = .ok (.aload_n 0, 1) := by decide +kernel
theorem d_Reader_readNumber_56 : decode b_Reader_readNumber 56 = .ok (.dup, 1) := by decide +kernel
theorem d_Reader_readNumber_57 : decode b_Reader_readNumber 57 = .ok (.getfield 19, 3) := by decide +kernel
theorem d_Reader_readNumber_60 : decode b_Reader_readNumber 60 = .ok (.iload_n 3, 1) := by decide +kernel
theorem d_Reader_readNumber_61 : decode b_Reader_readNumber 61 = .ok (.iadd, 1) := by decide +kernel
theorem d_Reader_readNumber_62 : decode b_Reader_readNumber 62 = .ok (.putfield 19, 3) := by decide +kernel
theorem d_Reader_readNumber_65 : decode b_Reader_readNumber 65 = .ok (.return_, 1) := by decide +kernel
end
section
set_option maxHeartbeats 4000000 in
set_option maxRecDepth 100000 in
theorem c_Reader_faultPlace (l : Launch) (D : va_G) (g : Nat → ClassId) (lo : Nat) (L : Nat → Nat) (κ : Nat → Option va_E) (T : Nat → Nat → Int) (cnt : Nat) (hN : nds g L κ T cnt 2) (mo n sz : Nat) (b : Nat → Int) (hB : bxs g L κ 2 3 mo n sz b) (ra ri rf rp : Int) (hR : rds L κ ra ri rf rp) (hra : 0 ≤ ra ∧ ra ≤ 100000) (hri : -1 ≤ ri ∧ ri ≤ 1000) : Met l y_Reader_faultPlace w_Reader_faultPlace ({ frames := 0, cells := 0, slots := 0, locals := 0 }) (mwP D vwCl (tyL g) lo L κ [.ref (L 14)]) (mwQ D vwCl lo (mwR (some (.int (iI rp))) L κ)) 0 0 (fun q => lo ≤ q) := by
  have hc0 := hN.2.2.1
  obtain ⟨hz1, hz2, hz3⟩ := hB.2.2.1
  refine Met.ofW (cc := b_Reader_faultPlace) (maxL := 1) (ret := (Option.some Jvm.ClassFile.FieldType.int)) (by decide) rfl ?_
  intro p e s m args below meth c s₁ B hml hpre
  obtain ⟨hargs, hM, hK⟩ := hpre
  have hx := B.exec
  have hb := B.bytes
  have hr := B.returns
  have hts : ∀ w ∈ wA, w.before args s = true := fun w h => atoms_spec (ws := w_Reader_faultPlace) B.pre w (List.mem_cons_of_mem _ h)
  have hown : s.vm.findClass R_Reader = some m.cls := findClass_of_methodNamed B.named
  have hlocks := B.notSynchronized
  have hS : va_S (fun q => lo ≤ q) s.heap s.heap [] := va_S.rf
  obtain ⟨ls, hls, hl⟩ := mw_entry (m := m) [.ref (L 14)] (n := 1) (Nat.le_of_ble_eq_true rfl) hargs
  refine W.eq hls ?_
  have hl : lv_has ls 1 [(0, .ref (L 14))] := hl
  refine lv_aload_n hx hb d_Reader_faultPlace_0 rfl (lv_at hl 0 rfl) ?_
  refine mw_get (ci := 2) (i := 14) (v := .int (iI rp)) (C := R_Reader) (T := T_Reader) (N := 6) hx hb hts in_Reader hown hK hM hR rfl rfl 5 (by decide) (hts _ m_171) rfl d_Reader_faultPlace_1 ?_
  exact mw_iret hx hb hr hM hS hlocks d_Reader_faultPlace_4 (mwR_i (by rfl))
set_option maxHeartbeats 4000000 in
set_option maxRecDepth 100000 in
theorem c_Reader_refuse (l : Launch) (D : va_G) (g : Nat → ClassId) (lo : Nat) (L : Nat → Nat) (κ : Nat → Option va_E) (T : Nat → Nat → Int) (cnt : Nat) (hN : nds g L κ T cnt 2) (mo n sz : Nat) (b : Nat → Int) (hB : bxs g L κ 2 3 mo n sz b) (ra ri rf rp : Int) (hR : rds L κ ra ri rf rp) (hra : 0 ≤ ra ∧ ra ≤ 100000) (hri : -1 ≤ ri ∧ ri ≤ 1000) (f2 p2 : Int) : Met l y_Reader_refuse w_Reader_refuse ({ frames := 0, cells := 0, slots := 0, locals := 0 }) (mwP D vwCl (tyL g) lo L κ [.ref (L 14), .int (iI f2), .int (iI p2)]) (mwQ D vwCl lo (rdQ g L κ (ra, ri, f2, p2, T, cnt))) 0 0 (fun q => lo ≤ q) := by
  have hc0 := hN.2.2.1
  obtain ⟨hz1, hz2, hz3⟩ := hB.2.2.1
  refine Met.ofW (cc := b_Reader_refuse) (maxL := 3) (ret := (Option.none : Option Jvm.ClassFile.FieldType)) (by decide) rfl ?_
  intro p e s m args below meth c s₁ B hml hpre
  obtain ⟨hargs, hM, hK⟩ := hpre
  have hx := B.exec
  have hb := B.bytes
  have hr := B.returns
  have hts : ∀ w ∈ wA, w.before args s = true := fun w h => atoms_spec (ws := w_Reader_refuse) B.pre w (List.mem_cons_of_mem _ h)
  have hown : s.vm.findClass R_Reader = some m.cls := findClass_of_methodNamed B.named
  have hlocks := B.notSynchronized
  have hS : va_S (fun q => lo ≤ q) s.heap s.heap [] := va_S.rf
  obtain ⟨ls, hls, hl⟩ := mw_entry (m := m) [.ref (L 14), .int (iI f2), .int (iI p2)] (n := 3) (Nat.le_of_ble_eq_true rfl) hargs
  refine W.eq hls ?_
  have hl : lv_has ls 3 [(0, .ref (L 14)), (1, .int (iI f2)), (2, .int (iI p2))] := hl
  refine lv_aload_n hx hb d_Reader_refuse_0 rfl (lv_at hl 0 rfl) ?_
  refine lv_iload_n hx hb d_Reader_refuse_1 rfl (lv_at hl 1 rfl) ?_
  refine mw_put (ci := 2) (i := 14) (v := .int (iI f2)) (C := R_Reader) (T := T_Reader) (N := 6) hx hb hts in_Reader ty_Reader ty_Reader_ok nm_Reader hown hK hM hS hR rfl rfl 4 (by decide) (hts _ m_170) rfl (ty_Reader_ok 4 (by decide)) rfl rfl (Nat.le_of_ble_eq_true rfl) d_Reader_refuse_2 (fun κ1 H locs e1 hk1 hM hS => ?_)
  have e1 : κ1 14 = some (.inr (2, [.ref (L 6), .ref (L 2), .int (iI ra), .int (iI ri), .int (iI f2), .int (iI rp)])) := e1
  have hN2 := nds_keep hN (fun r h1 h2 => hk1 r (by omega)) (fun r h1 h2 => rfl) rfl
  have hB3 := bxs_keep hB (hk1 2 (by omega)) (hk1 3 (by omega)) rfl
  refine lv_aload_n hx hb d_Reader_refuse_5 rfl (lv_at hl 0 rfl) ?_
  refine lv_iload_n hx hb d_Reader_refuse_6 rfl (lv_at hl 2 rfl) ?_
  refine mw_put (ci := 2) (i := 14) (v := .int (iI p2)) (C := R_Reader) (T := T_Reader) (N := 6) hx hb hts in_Reader ty_Reader ty_Reader_ok nm_Reader hown hK hM hS e1 rfl rfl 5 (by decide) (hts _ m_171) rfl (ty_Reader_ok 5 (by decide)) rfl rfl (Nat.le_of_ble_eq_true rfl) d_Reader_refuse_7 (fun κ4 H locs e4 hk4 hM hS => ?_)
  have e4 : κ4 14 = some (.inr (2, [.ref (L 6), .ref (L 2), .int (iI ra), .int (iI ri), .int (iI f2), .int (iI p2)])) := e4
  have hN5 := nds_keep hN2 (fun r h1 h2 => hk4 r (by omega)) (fun r h1 h2 => rfl) rfl
  have hB6 := bxs_keep hB3 (hk4 2 (by omega)) (hk4 3 (by omega)) rfl
  exact mw_vret hx hb hr hM hS hlocks d_Reader_refuse_10 (by rw [show (ra, ri, f2, p2, T, cnt) = ((ra : Int), (ri : Int), (f2 : Int), (p2 : Int), T, cnt) by rfl]; exact ⟨rfl, rfl, e4, hN5, fun r h => by rw [hk4 r (by omega), hk1 r (by omega)]⟩)
set_option maxHeartbeats 4000000 in
set_option maxRecDepth 100000 in
theorem c_Reader_readLastByte (l : Launch) (D : va_G) (g : Nat → ClassId) (lo : Nat) (L : Nat → Nat) (κ : Nat → Option va_E) (T : Nat → Nat → Int) (cnt : Nat) (hN : nds g L κ T cnt 2) (mo n sz : Nat) (b : Nat → Int) (hB : bxs g L κ 2 3 mo n sz b) (ra ri rf rp : Int) (hR : rds L κ ra ri rf rp) (hra : 0 ≤ ra ∧ ra ≤ 100000) (hri : -1 ≤ ri ∧ ri ≤ 1000) : Met l y_Reader_readLastByte w_Reader_readLastByte ({ frames := 2, cells := 0, slots := 0, locals := 43 }) (mwP D vwCl (tyL g) lo L κ [.ref (L 14)]) (mwQ D vwCl lo (rdQ g L κ (rLastB b sz ra ri rf rp T cnt))) 0 0 (fun q => lo ≤ q) := by
  have hc0 := hN.2.2.1
  obtain ⟨hz1, hz2, hz3⟩ := hB.2.2.1
  refine Met.ofW (cc := b_Reader_readLastByte) (maxL := 1) (ret := (Option.none : Option Jvm.ClassFile.FieldType)) (by decide) rfl ?_
  intro p e s m args below meth c s₁ B hml hpre
  obtain ⟨hargs, hM, hK⟩ := hpre
  have hx := B.exec
  have hb := B.bytes
  have hr := B.returns
  have hts : ∀ w ∈ wA, w.before args s = true := fun w h => atoms_spec (ws := w_Reader_readLastByte) B.pre w (List.mem_cons_of_mem _ h)
  have hown : s.vm.findClass R_Reader = some m.cls := findClass_of_methodNamed B.named
  have hlocks := B.notSynchronized
  have hS : va_S (fun q => lo ≤ q) s.heap s.heap [] := va_S.rf
  obtain ⟨ls, hls, hl⟩ := mw_entry (m := m) [.ref (L 14)] (n := 1) (Nat.le_of_ble_eq_true rfl) hargs
  refine W.eq hls ?_
  have hl : lv_has ls 1 [(0, .ref (L 14))] := hl
  refine lv_aload_n hx hb d_Reader_readLastByte_0 rfl (lv_at hl 0 rfl) ?_
  refine mw_get (ci := 2) (i := 14) (v := .ref (L 2)) (C := R_Reader) (T := T_Reader) (N := 6) hx hb hts in_Reader hown hK hM hR rfl rfl 1 (by decide) (hts _ m_167) rfl d_Reader_readLastByte_1 ?_
  refine lv_aload_n hx hb d_Reader_readLastByte_4 rfl (lv_at hl 0 rfl) ?_
  refine mw_get (ci := 2) (i := 14) (v := .int (iI ra)) (C := R_Reader) (T := T_Reader) (N := 6) hx hb hts in_Reader hown hK hM hR rfl rfl 2 (by decide) (hts _ m_168) rfl d_Reader_readLastByte_5 ?_
  refine mw_rdV (i := 2) (As := [.int (iI ra)]) (rest := []) ⟨hx, hb, hml, hown, hts⟩ hK hM hS rfl hB.1 rfl (c_Bytes_get l D g lo L κ 2 3 mo n sz b hB ra (by omega)) (cwV 1 hts (gV m_278 m_251 m_252 m_52 m_253) rfl rfl rfl (by decide +kernel) ⟨Nat.le_of_ble_eq_true rfl, Nat.le_of_ble_eq_true rfl⟩) rfl hl.1 rfl (Nat.le_of_ble_eq_true rfl) d_Reader_readLastByte_8 ⟨Nat.le_of_ble_eq_true rfl, Nat.le_of_ble_eq_true rfl⟩ (fun H locs hM hS => ?_)
  have r1 := bGet_r (sz := sz) hB.2.2.2.1 ra
  refine ia_if_eq (a := bGet b sz ra) (tgt := 24) hx hb d_Reader_readLastByte_11 (by decide) (by omega) (fun c2 => ?_) (fun c2 => ?_)
  · refine lv_aload_n hx hb d_Reader_readLastByte_24 rfl (lv_at hl 0 rfl) ?_
    refine lv_dup hx hb d_Reader_readLastByte_25 rfl ?_
    refine mw_get (ci := 2) (i := 14) (v := .int (iI ra)) (C := R_Reader) (T := T_Reader) (N := 6) hx hb hts in_Reader hown hK hM hR rfl rfl 2 (by decide) (hts _ m_168) rfl d_Reader_readLastByte_26 ?_
    refine lv_iconst (v := iI (1)) hx hb d_Reader_readLastByte_29 rfl ?_
    refine ia_add hx hb d_Reader_readLastByte_30 ?_
    refine mw_put (ci := 2) (i := 14) (v := .int (iI (ra + 1))) (C := R_Reader) (T := T_Reader) (N := 6) hx hb hts in_Reader ty_Reader ty_Reader_ok nm_Reader hown hK hM hS hR rfl rfl 2 (by decide) (hts _ m_168) rfl (ty_Reader_ok 2 (by decide)) rfl rfl (Nat.le_of_ble_eq_true rfl) d_Reader_readLastByte_31 (fun κ3 H locs e3 hk3 hM hS => ?_)
    have e3 : κ3 14 = some (.inr (2, [.ref (L 6), .ref (L 2), .int (iI (ra + 1)), .int (iI ri), .int (iI rf), .int (iI rp)])) := e3
    have hN4 := nds_keep hN (fun r h1 h2 => hk3 r (by omega)) (fun r h1 h2 => rfl) rfl
    have hB5 := bxs_keep hB (hk3 2 (by omega)) (hk3 3 (by omega)) rfl
    refine lv_aload_n hx hb d_Reader_readLastByte_34 rfl (lv_at hl 0 rfl) ?_
    refine lv_aload_n hx hb d_Reader_readLastByte_35 rfl (lv_at hl 0 rfl) ?_
    refine mw_get (ci := 2) (i := 14) (v := .ref (L 6)) (C := R_Reader) (T := T_Reader) (N := 6) hx hb hts in_Reader hown hK hM e3 rfl rfl 0 (by decide) (hts _ m_166) rfl d_Reader_readLastByte_36 ?_
    refine lv_aload_n hx hb d_Reader_readLastByte_39 rfl (lv_at hl 0 rfl) ?_
    refine mw_get (ci := 2) (i := 14) (v := .int (iI ri)) (C := R_Reader) (T := T_Reader) (N := 6) hx hb hts in_Reader hown hK hM e3 rfl rfl 3 (by decide) (hts _ m_169) rfl d_Reader_readLastByte_40 ?_
    refine mw_rdV (i := 6) (As := [.int (iI ri)]) (rest := [.ref (L 14)]) ⟨hx, hb, hml, hown, hts⟩ hK hM hS rfl hN4.1 rfl (c_Nodes_parent l D g lo L κ3 T cnt 2 hN4 ri (by omega)) (cwV 1 hts (gV m_279 m_280 m_281 m_56 m_282) rfl rfl rfl (by decide +kernel) ⟨Nat.le_of_ble_eq_true rfl, Nat.le_of_ble_eq_true rfl⟩) rfl hl.1 rfl (Nat.le_of_ble_eq_true rfl) d_Reader_readLastByte_43 ⟨Nat.le_of_ble_eq_true rfl, Nat.le_of_ble_eq_true rfl⟩ (fun H locs hM hS => ?_)
    have r6 := nCell_r (cnt := cnt) hN4.2.2.2.1 1 ri
    refine mw_put (ci := 2) (i := 14) (v := .int (iI (nCell T cnt 1 ri))) (C := R_Reader) (T := T_Reader) (N := 6) hx hb hts in_Reader ty_Reader ty_Reader_ok nm_Reader hown hK hM hS e3 rfl rfl 3 (by decide) (hts _ m_169) rfl (ty_Reader_ok 3 (by decide)) rfl rfl (Nat.le_of_ble_eq_true rfl) d_Reader_readLastByte_46 (fun κ7 H locs e7 hk7 hM hS => ?_)
    have e7 : κ7 14 = some (.inr (2, [.ref (L 6), .ref (L 2), .int (iI (ra + 1)), .int (iI (nCell T cnt 1 ri)), .int (iI rf), .int (iI rp)])) := e7
    have hN8 := nds_keep hN4 (fun r h1 h2 => hk7 r (by omega)) (fun r h1 h2 => rfl) rfl
    have hB9 := bxs_keep hB5 (hk7 2 (by omega)) (hk7 3 (by omega)) rfl
    exact mw_vret hx hb hr hM hS hlocks d_Reader_readLastByte_49 (by rw [show rLastB b sz ra ri rf rp T cnt = ((ra + 1 : Int), (nCell T cnt 1 ri : Int), (rf : Int), (rp : Int), T, cnt) by unfold rLastB; rw [if_pos (by omega)]]; exact ⟨rfl, rfl, e7, hN8, fun r h => by rw [hk7 r (by omega), hk3 r (by omega)]⟩)
  · refine lv_aload_n hx hb d_Reader_readLastByte_14 rfl (lv_at hl 0 rfl) ?_
    refine lv_iconst (v := iI (2)) hx hb d_Reader_readLastByte_15 rfl ?_
    refine lv_aload_n hx hb d_Reader_readLastByte_16 rfl (lv_at hl 0 rfl) ?_
    refine mw_get (ci := 2) (i := 14) (v := .int (iI ra)) (C := R_Reader) (T := T_Reader) (N := 6) hx hb hts in_Reader hown hK hM hR rfl rfl 2 (by decide) (hts _ m_168) rfl d_Reader_readLastByte_17 ?_
    refine mw_callV (i := 14) (As := [.int (iI 2), .int (iI ra)]) (rest := []) ⟨hx, hb, hml, hown, hts⟩ hK hM hS rfl hR rfl (c_Reader_refuse l D g lo L κ T cnt hN mo n sz b hB ra ri rf rp hR (by omega) (by omega) 2 ra) (cwV 2 hts (gV m_242 m_244 m_1 m_57 m_245) rfl rfl rfl (by decide +kernel) ⟨Nat.le_of_ble_eq_true rfl, Nat.le_of_ble_eq_true rfl⟩) rfl hl.1 rfl (Nat.le_of_ble_eq_true rfl) d_Reader_readLastByte_20 ⟨Nat.le_of_ble_eq_true rfl, Nat.le_of_ble_eq_true rfl⟩ (fun v10 L10 κ10 H locs hp10 hM hS => ?_)
    obtain ⟨rfl, rfl, hR10, hN10, hk10⟩ := hp10
    have hR10 : rds L κ10 ra ri 2 ra := hR10
    have hN10 : nds g L κ10 T cnt 2 := hN10
    have hB11 := bxs_keep hB (hk10 2 (by omega)) (hk10 3 (by omega)) rfl
    exact mw_vret hx hb hr hM hS hlocks d_Reader_readLastByte_23 (by rw [show rLastB b sz ra ri rf rp T cnt = ((ra : Int), (ri : Int), (2 : Int), (ra : Int), T, cnt) by unfold rLastB; rw [if_neg (by omega)]]; exact ⟨rfl, rfl, hR10, hN10, fun r h => by rw [hk10 r (by omega)]⟩)
set_option maxHeartbeats 4000000 in
set_option maxRecDepth 100000 in
theorem c_Reader_readName (l : Launch) (D : va_G) (g : Nat → ClassId) (lo : Nat) (L : Nat → Nat) (κ : Nat → Option va_E) (T : Nat → Nat → Int) (cnt : Nat) (hN : nds g L κ T cnt 2) (mo n sz : Nat) (b : Nat → Int) (hB : bxs g L κ 2 3 mo n sz b) (ra ri rf rp : Int) (hR : rds L κ ra ri rf rp) (hra : 0 ≤ ra ∧ ra ≤ 100000) (hri : -1 ≤ ri ∧ ri ≤ 1000) (last : Int) (hri0 : 0 ≤ ri ∧ ri < cnt) (hla : -100000 ≤ last ∧ last ≤ 100000) : Met l y_Reader_readName w_Reader_readName ({ frames := 3, cells := 0, slots := 0, locals := 73 }) (mwP D vwCl (tyL g) lo L κ [.ref (L 14), .int (iI last)]) (mwQ D vwCl lo (rdQ g L κ (rName b sz last ra ri rf rp T cnt))) 0 0 (fun q => lo ≤ q) := by
  have hc0 := hN.2.2.1
  obtain ⟨hz1, hz2, hz3⟩ := hB.2.2.1
  have hel : 0 ≤ nCell T cnt 6 ri := by rw [nCell_in (by omega)]; exact hN.2.2.2.2.2.2 _
  refine Met.ofW (cc := b_Reader_readName) (maxL := 5) (ret := (Option.none : Option Jvm.ClassFile.FieldType)) (by decide) rfl ?_
  intro p e s m args below meth c s₁ B hml hpre
  obtain ⟨hargs, hM, hK⟩ := hpre
  have hx := B.exec
  have hb := B.bytes
  have hr := B.returns
  have hts : ∀ w ∈ wA, w.before args s = true := fun w h => atoms_spec (ws := w_Reader_readName) B.pre w (List.mem_cons_of_mem _ h)
  have hown : s.vm.findClass R_Reader = some m.cls := findClass_of_methodNamed B.named
  have hlocks := B.notSynchronized
  have hS : va_S (fun q => lo ≤ q) s.heap s.heap [] := va_S.rf
  obtain ⟨ls, hls, hl⟩ := mw_entry (m := m) [.ref (L 14), .int (iI last)] (n := 5) (Nat.le_of_ble_eq_true rfl) hargs
  refine W.eq hls ?_
  have hl : lv_has ls 5 [(0, .ref (L 14)), (1, .int (iI last))] := hl
  refine lv_aload_n hx hb d_Reader_readName_0 rfl (lv_at hl 0 rfl) ?_
  refine mw_get (ci := 2) (i := 14) (v := .ref (L 2)) (C := R_Reader) (T := T_Reader) (N := 6) hx hb hts in_Reader hown hK hM hR rfl rfl 1 (by decide) (hts _ m_167) rfl d_Reader_readName_1 ?_
  refine lv_aload_n hx hb d_Reader_readName_4 rfl (lv_at hl 0 rfl) ?_
  refine mw_get (ci := 2) (i := 14) (v := .int (iI ra)) (C := R_Reader) (T := T_Reader) (N := 6) hx hb hts in_Reader hown hK hM hR rfl rfl 2 (by decide) (hts _ m_168) rfl d_Reader_readName_5 ?_
  refine lv_iload_n hx hb d_Reader_readName_8 rfl (lv_at hl 1 rfl) ?_
  refine mw_rdV (i := 2) (As := [.int (iI ra), .int (iI last)]) (rest := []) ⟨hx, hb, hml, hown, hts⟩ hK hM hS rfl hB.1 rfl (c_Bytes_firstZero l D g lo L κ 2 3 mo n sz b hB ra last (by omega) (by omega)) (cwV 2 hts (gV m_298 m_299 m_300 m_52 m_301) rfl rfl rfl (by decide +kernel) ⟨Nat.le_of_ble_eq_true rfl, Nat.le_of_ble_eq_true rfl⟩) rfl hl.1 rfl (Nat.le_of_ble_eq_true rfl) d_Reader_readName_9 ⟨Nat.le_of_ble_eq_true rfl, Nat.le_of_ble_eq_true rfl⟩ (fun H locs hM hS => ?_)
  have r1 := bFz_r b sz ra last
  refine lv_istore_n (lv' := [(2, .int (iI (bFz b sz ra last))), (0, .ref (L 14)), (1, .int (iI last))]) hx hb d_Reader_readName_12 rfl hl (by decide) rfl (fun ls hl => ?_)
  refine lv_iload_n hx hb d_Reader_readName_13 rfl (lv_at hl 0 rfl) ?_
  refine lv_iconst (v := iI (-1)) hx hb d_Reader_readName_14 rfl ?_
  refine ia_icmp_ne (a := bFz b sz ra last) (b := -1) (tgt := 28) hx hb d_Reader_readName_15 (by decide) (by omega) (by omega) (fun c2 => ?_) (fun c2 => ?_)
  · refine lv_aload_n hx hb d_Reader_readName_28 rfl (lv_at hl 1 rfl) ?_
    refine mw_get (ci := 2) (i := 14) (v := .ref (L 2)) (C := R_Reader) (T := T_Reader) (N := 6) hx hb hts in_Reader hown hK hM hR rfl rfl 1 (by decide) (hts _ m_167) rfl d_Reader_readName_29 ?_
    refine lv_aload_n hx hb d_Reader_readName_32 rfl (lv_at hl 1 rfl) ?_
    refine mw_get (ci := 2) (i := 14) (v := .int (iI ra)) (C := R_Reader) (T := T_Reader) (N := 6) hx hb hts in_Reader hown hK hM hR rfl rfl 2 (by decide) (hts _ m_168) rfl d_Reader_readName_33 ?_
    refine lv_iload_n hx hb d_Reader_readName_36 rfl (lv_at hl 0 rfl) ?_
    refine mw_rdS (As := [.ref (L 2), .int (iI ra), .int (iI (bFz b sz ra last))]) (rest := []) ⟨hx, hb, hml, hown, hts⟩ hK hM hS (c_Utf8_firstWrong l D g lo L κ 2 3 mo n sz b hB ra (bFz b sz ra last) (by omega) (by omega)) (va_cwS 3 hts (gT m_302 m_303 m_60 m_304) rfl rfl rfl (by decide +kernel) ⟨Nat.le_of_ble_eq_true rfl, Nat.le_of_ble_eq_true rfl⟩) rfl hl.1 rfl (Nat.le_of_ble_eq_true rfl) d_Reader_readName_37 ⟨Nat.le_of_ble_eq_true rfl, Nat.le_of_ble_eq_true rfl⟩ (fun H locs hM hS => ?_)
    have r3 := uWrong_r b sz ra (bFz b sz ra last)
    refine lv_istore_n (lv' := [(3, .int (iI (uWrong b sz ra (bFz b sz ra last)))), (2, .int (iI (bFz b sz ra last))), (0, .ref (L 14)), (1, .int (iI last))]) hx hb d_Reader_readName_40 rfl hl (by decide) rfl (fun ls hl => ?_)
    refine lv_iload_n hx hb d_Reader_readName_41 rfl (lv_at hl 0 rfl) ?_
    refine lv_iconst (v := iI (-1)) hx hb d_Reader_readName_42 rfl ?_
    refine ia_icmp_eq (a := uWrong b sz ra (bFz b sz ra last)) (b := -1) (tgt := 53) hx hb d_Reader_readName_43 (by decide) (by omega) (by omega) (fun c4 => ?_) (fun c4 => ?_)
    · refine lv_aload_n hx hb d_Reader_readName_53 rfl (lv_at hl 2 rfl) ?_
      refine mw_get (ci := 2) (i := 14) (v := .ref (L 6)) (C := R_Reader) (T := T_Reader) (N := 6) hx hb hts in_Reader hown hK hM hR rfl rfl 0 (by decide) (hts _ m_166) rfl d_Reader_readName_54 ?_
      refine lv_aload_n hx hb d_Reader_readName_57 rfl (lv_at hl 2 rfl) ?_
      refine mw_get (ci := 2) (i := 14) (v := .int (iI ri)) (C := R_Reader) (T := T_Reader) (N := 6) hx hb hts in_Reader hown hK hM hR rfl rfl 3 (by decide) (hts _ m_169) rfl d_Reader_readName_58 ?_
      refine mw_rdV (i := 6) (As := [.int (iI ri)]) (rest := []) ⟨hx, hb, hml, hown, hts⟩ hK hM hS rfl hN.1 rfl (c_Nodes_kind l D g lo L κ T cnt 2 hN ri (by omega)) (cwV 1 hts (gV m_312 m_313 m_314 m_56 m_315) rfl rfl rfl (by decide +kernel) ⟨Nat.le_of_ble_eq_true rfl, Nat.le_of_ble_eq_true rfl⟩) rfl hl.1 rfl (Nat.le_of_ble_eq_true rfl) d_Reader_readName_61 ⟨Nat.le_of_ble_eq_true rfl, Nat.le_of_ble_eq_true rfl⟩ (fun H locs hM hS => ?_)
      have r5 := nCell_r (cnt := cnt) hN.2.2.2.1 0 ri
      refine lv_iconst (v := iI (4)) hx hb d_Reader_readName_64 rfl ?_
      refine ia_icmp_ne (a := nCell T cnt 0 ri) (b := 4) (tgt := 99) hx hb d_Reader_readName_65 (by decide) (by omega) (by omega) (fun c6 => ?_) (fun c6 => ?_)
      · refine lv_aload_n hx hb d_Reader_readName_99 rfl (lv_at hl 2 rfl) ?_
        refine mw_get (ci := 2) (i := 14) (v := .ref (L 6)) (C := R_Reader) (T := T_Reader) (N := 6) hx hb hts in_Reader hown hK hM hR rfl rfl 0 (by decide) (hts _ m_166) rfl d_Reader_readName_100 ?_
        refine lv_aload_n hx hb d_Reader_readName_103 rfl (lv_at hl 2 rfl) ?_
        refine mw_get (ci := 2) (i := 14) (v := .int (iI ri)) (C := R_Reader) (T := T_Reader) (N := 6) hx hb hts in_Reader hown hK hM hR rfl rfl 3 (by decide) (hts _ m_169) rfl d_Reader_readName_104 ?_
        refine lv_aload_n hx hb d_Reader_readName_107 rfl (lv_at hl 2 rfl) ?_
        refine mw_get (ci := 2) (i := 14) (v := .ref (L 2)) (C := R_Reader) (T := T_Reader) (N := 6) hx hb hts in_Reader hown hK hM hR rfl rfl 1 (by decide) (hts _ m_167) rfl d_Reader_readName_108 ?_
        refine lv_aload_n hx hb d_Reader_readName_111 rfl (lv_at hl 2 rfl) ?_
        refine mw_get (ci := 2) (i := 14) (v := .int (iI ra)) (C := R_Reader) (T := T_Reader) (N := 6) hx hb hts in_Reader hown hK hM hR rfl rfl 2 (by decide) (hts _ m_168) rfl d_Reader_readName_112 ?_
        refine lv_iload_n hx hb d_Reader_readName_115 rfl (lv_at hl 1 rfl) ?_
        refine lv_aload_n hx hb d_Reader_readName_116 rfl (lv_at hl 2 rfl) ?_
        refine mw_get (ci := 2) (i := 14) (v := .int (iI ra)) (C := R_Reader) (T := T_Reader) (N := 6) hx hb hts in_Reader hown hK hM hR rfl rfl 2 (by decide) (hts _ m_168) rfl d_Reader_readName_117 ?_
        refine ia_sub hx hb d_Reader_readName_120 ?_
        refine mw_rdV (i := 6) (As := [.int (iI ri), .ref (L 2), .int (iI ra), .int (iI ((bFz b sz ra last) - ra))]) (rest := []) ⟨hx, hb, hml, hown, hts⟩ hK hM hS rfl hN.1 rfl (c_Nodes_named l D g lo L κ T cnt 2 hN 3 mo n sz b hB 2 3 mo n sz b hB ri ra ((bFz b sz ra last) - ra) (by omega) (by omega) (by omega)) (cwV 4 hts (gV m_327 m_328 m_329 m_56 m_330) rfl rfl rfl (by decide +kernel) ⟨Nat.le_of_ble_eq_true rfl, Nat.le_of_ble_eq_true rfl⟩) rfl hl.1 rfl (Nat.le_of_ble_eq_true rfl) d_Reader_readName_121 ⟨Nat.le_of_ble_eq_true rfl, Nat.le_of_ble_eq_true rfl⟩ (fun H locs hM hS => ?_)
        have r7 := nNamed_r T cnt b sz ri b sz ra ((bFz b sz ra last) - ra)
        refine lv_iconst (v := iI (-1)) hx hb d_Reader_readName_124 rfl ?_
        refine ia_icmp_ne (a := nNamed T cnt b sz ri b sz ra ((bFz b sz ra last) - ra)) (b := -1) (tgt := 132) hx hb d_Reader_readName_125 (by decide) (by omega) (by omega) (fun c8 => ?_) (fun c8 => ?_)
        · refine lv_iconst (v := iI (0)) hx hb d_Reader_readName_132 rfl ?_
          refine lv_istore (lv' := [(4, .int (iI 0)), (3, .int (iI (uWrong b sz ra (bFz b sz ra last)))), (2, .int (iI (bFz b sz ra last))), (0, .ref (L 14)), (1, .int (iI last))]) hx hb d_Reader_readName_133 hl (by decide) rfl (fun ls hl => ?_)
          refine lv_iload hx hb d_Reader_readName_135 (lv_at hl 0 rfl) ?_
          refine ia_if_eq (a := 0) (tgt := 150) hx hb d_Reader_readName_137 (by decide) (by omega) (fun c9 => ?_) (fun c9 => ?_)
          · refine lv_aload_n hx hb d_Reader_readName_150 rfl (lv_at hl 3 rfl) ?_
            refine lv_bipush (v := iI (7)) hx hb d_Reader_readName_151 (by decide) ?_
            refine lv_aload_n hx hb d_Reader_readName_153 rfl (lv_at hl 3 rfl) ?_
            refine mw_get (ci := 2) (i := 14) (v := .int (iI ra)) (C := R_Reader) (T := T_Reader) (N := 6) hx hb hts in_Reader hown hK hM hR rfl rfl 2 (by decide) (hts _ m_168) rfl d_Reader_readName_154 ?_
            refine mw_callV (i := 14) (As := [.int (iI 7), .int (iI ra)]) (rest := []) ⟨hx, hb, hml, hown, hts⟩ hK hM hS rfl hR rfl (c_Reader_refuse l D g lo L κ T cnt hN mo n sz b hB ra ri rf rp hR (by omega) (by omega) 7 ra) (cwV 2 hts (gV m_242 m_244 m_1 m_57 m_245) rfl rfl rfl (by decide +kernel) ⟨Nat.le_of_ble_eq_true rfl, Nat.le_of_ble_eq_true rfl⟩) rfl hl.1 rfl (Nat.le_of_ble_eq_true rfl) d_Reader_readName_157 ⟨Nat.le_of_ble_eq_true rfl, Nat.le_of_ble_eq_true rfl⟩ (fun v10 L10 κ10 H locs hp10 hM hS => ?_)
            obtain ⟨rfl, rfl, hR10, hN10, hk10⟩ := hp10
            have hR10 : rds L κ10 ra ri 7 ra := hR10
            have hN10 : nds g L κ10 T cnt 2 := hN10
            have hB11 := bxs_keep hB (hk10 2 (by omega)) (hk10 3 (by omega)) rfl
            exact mw_vret hx hb hr hM hS hlocks d_Reader_readName_160 (by rw [show rName b sz last ra ri rf rp T cnt = ((ra : Int), (ri : Int), (7 : Int), (ra : Int), T, cnt) by unfold rName; rw [if_neg (by omega), if_neg (by omega), if_neg (zne (by first | (unfold rNameOk; rw [if_pos (by omega)]; assumption) | (unfold rNameOk; rw [if_neg (by omega)]; exact decide_eq_false (by omega))))]]; exact ⟨rfl, rfl, hR10, hN10, fun r h => by rw [hk10 r (by omega)]⟩)
          · exact absurd (by decide) c9
        · refine lv_iconst (v := iI (1)) hx hb d_Reader_readName_128 rfl ?_
          refine lv_goto (tgt := 133) hx hb d_Reader_readName_129 (by decide) ?_
          refine lv_istore (lv' := [(4, .int (iI 1)), (3, .int (iI (uWrong b sz ra (bFz b sz ra last)))), (2, .int (iI (bFz b sz ra last))), (0, .ref (L 14)), (1, .int (iI last))]) hx hb d_Reader_readName_133 hl (by decide) rfl (fun ls hl => ?_)
          refine lv_iload hx hb d_Reader_readName_135 (lv_at hl 0 rfl) ?_
          refine ia_if_eq (a := 1) (tgt := 150) hx hb d_Reader_readName_137 (by decide) (by omega) (fun c12 => ?_) (fun c12 => ?_)
          · exact absurd c12 (by decide)
          · refine lv_aload_n hx hb d_Reader_readName_140 rfl (lv_at hl 3 rfl) ?_
            refine lv_iload_n hx hb d_Reader_readName_141 rfl (lv_at hl 2 rfl) ?_
            refine lv_iconst (v := iI (1)) hx hb d_Reader_readName_142 rfl ?_
            refine ia_add hx hb d_Reader_readName_143 ?_
            refine mw_put (ci := 2) (i := 14) (v := .int (iI ((bFz b sz ra last) + 1))) (C := R_Reader) (T := T_Reader) (N := 6) hx hb hts in_Reader ty_Reader ty_Reader_ok nm_Reader hown hK hM hS hR rfl rfl 2 (by decide) (hts _ m_168) rfl (ty_Reader_ok 2 (by decide)) rfl rfl (Nat.le_of_ble_eq_true rfl) d_Reader_readName_144 (fun κ13 H locs e13 hk13 hM hS => ?_)
            have e13 : κ13 14 = some (.inr (2, [.ref (L 6), .ref (L 2), .int (iI ((bFz b sz ra last) + 1)), .int (iI ri), .int (iI rf), .int (iI rp)])) := e13
            have hN14 := nds_keep hN (fun r h1 h2 => hk13 r (by omega)) (fun r h1 h2 => rfl) rfl
            have hB15 := bxs_keep hB (hk13 2 (by omega)) (hk13 3 (by omega)) rfl
            refine lv_goto (tgt := 160) hx hb d_Reader_readName_147 (by decide) ?_
            exact mw_vret hx hb hr hM hS hlocks d_Reader_readName_160 (by rw [show rName b sz last ra ri rf rp T cnt = (((bFz b sz ra last) + 1 : Int), (ri : Int), (rf : Int), (rp : Int), T, cnt) by unfold rName; rw [if_neg (by omega), if_neg (by omega), if_pos (by first | (unfold rNameOk; rw [if_pos (by omega)]; assumption) | (unfold rNameOk; rw [if_neg (by omega)]; exact decide_eq_true (by omega)))]]; exact ⟨rfl, rfl, e13, hN14, fun r h => by rw [hk13 r (by omega)]⟩)
      · refine lv_aload_n hx hb d_Reader_readName_68 rfl (lv_at hl 2 rfl) ?_
        refine mw_get (ci := 2) (i := 14) (v := .ref (L 2)) (C := R_Reader) (T := T_Reader) (N := 6) hx hb hts in_Reader hown hK hM hR rfl rfl 1 (by decide) (hts _ m_167) rfl d_Reader_readName_69 ?_
        refine lv_aload_n hx hb d_Reader_readName_72 rfl (lv_at hl 2 rfl) ?_
        refine mw_get (ci := 2) (i := 14) (v := .int (iI ra)) (C := R_Reader) (T := T_Reader) (N := 6) hx hb hts in_Reader hown hK hM hR rfl rfl 2 (by decide) (hts _ m_168) rfl d_Reader_readName_73 ?_
        refine lv_iload_n hx hb d_Reader_readName_76 rfl (lv_at hl 1 rfl) ?_
        refine lv_aload_n hx hb d_Reader_readName_77 rfl (lv_at hl 2 rfl) ?_
        refine mw_get (ci := 2) (i := 14) (v := .int (iI ra)) (C := R_Reader) (T := T_Reader) (N := 6) hx hb hts in_Reader hown hK hM hR rfl rfl 2 (by decide) (hts _ m_168) rfl d_Reader_readName_78 ?_
        refine ia_sub hx hb d_Reader_readName_81 ?_
        refine lv_aload_n hx hb d_Reader_readName_82 rfl (lv_at hl 2 rfl) ?_
        refine mw_get (ci := 2) (i := 14) (v := .ref (L 6)) (C := R_Reader) (T := T_Reader) (N := 6) hx hb hts in_Reader hown hK hM hR rfl rfl 0 (by decide) (hts _ m_166) rfl d_Reader_readName_83 ?_
        refine lv_aload_n hx hb d_Reader_readName_86 rfl (lv_at hl 2 rfl) ?_
        refine mw_get (ci := 2) (i := 14) (v := .int (iI ri)) (C := R_Reader) (T := T_Reader) (N := 6) hx hb hts in_Reader hown hK hM hR rfl rfl 3 (by decide) (hts _ m_169) rfl d_Reader_readName_87 ?_
        refine mw_rdV (i := 6) (As := [.int (iI ri)]) (rest := [.int (iI ((bFz b sz ra last) - ra)), .int (iI ra), .ref (L 2)]) ⟨hx, hb, hml, hown, hts⟩ hK hM hS rfl hN.1 rfl (c_Nodes_elements l D g lo L κ T cnt 2 hN ri (by omega)) (cwV 1 hts (gV m_316 m_317 m_318 m_56 m_319) rfl rfl rfl (by decide +kernel) ⟨Nat.le_of_ble_eq_true rfl, Nat.le_of_ble_eq_true rfl⟩) rfl hl.1 rfl (Nat.le_of_ble_eq_true rfl) d_Reader_readName_90 ⟨Nat.le_of_ble_eq_true rfl, Nat.le_of_ble_eq_true rfl⟩ (fun H locs hM hS => ?_)
        have r16 := nCell_r (cnt := cnt) hN.2.2.2.1 6 ri
        refine mw_rdV (i := 2) (As := [.int (iI ra), .int (iI ((bFz b sz ra last) - ra)), .int (iI (nCell T cnt 6 ri))]) (rest := []) ⟨hx, hb, hml, hown, hts⟩ hK hM hS rfl hB.1 rfl (c_Bytes_hasDecimal l D g lo L κ 2 3 mo n sz b hB ra ((bFz b sz ra last) - ra) (nCell T cnt 6 ri) (by omega) (by omega) (by omega)) (cwV 3 hts (gV m_320 m_321 m_322 m_52 m_323) rfl rfl rfl (by decide +kernel) ⟨Nat.le_of_ble_eq_true rfl, Nat.le_of_ble_eq_true rfl⟩) rfl hl.1 rfl (Nat.le_of_ble_eq_true rfl) d_Reader_readName_93 ⟨Nat.le_of_ble_eq_true rfl, Nat.le_of_ble_eq_true rfl⟩ (fun H locs hM hS => ?_)
        refine lv_goto (tgt := 133) hx hb d_Reader_readName_96 (by decide) ?_
        refine lv_istore (lv' := [(4, .int (iI (bI (bDec b sz ra ((bFz b sz ra last) - ra) (nCell T cnt 6 ri))))), (3, .int (iI (uWrong b sz ra (bFz b sz ra last)))), (2, .int (iI (bFz b sz ra last))), (0, .ref (L 14)), (1, .int (iI last))]) hx hb d_Reader_readName_133 hl (by decide) rfl (fun ls hl => ?_)
        refine lv_iload hx hb d_Reader_readName_135 (lv_at hl 0 rfl) ?_
        refine ia_ifz_eq (x := bDec b sz ra ((bFz b sz ra last) - ra) (nCell T cnt 6 ri)) (tgt := 150) hx hb d_Reader_readName_137 (by decide) (fun c17 => ?_) (fun c17 => ?_)
        · refine lv_aload_n hx hb d_Reader_readName_150 rfl (lv_at hl 3 rfl) ?_
          refine lv_bipush (v := iI (7)) hx hb d_Reader_readName_151 (by decide) ?_
          refine lv_aload_n hx hb d_Reader_readName_153 rfl (lv_at hl 3 rfl) ?_
          refine mw_get (ci := 2) (i := 14) (v := .int (iI ra)) (C := R_Reader) (T := T_Reader) (N := 6) hx hb hts in_Reader hown hK hM hR rfl rfl 2 (by decide) (hts _ m_168) rfl d_Reader_readName_154 ?_
          refine mw_callV (i := 14) (As := [.int (iI 7), .int (iI ra)]) (rest := []) ⟨hx, hb, hml, hown, hts⟩ hK hM hS rfl hR rfl (c_Reader_refuse l D g lo L κ T cnt hN mo n sz b hB ra ri rf rp hR (by omega) (by omega) 7 ra) (cwV 2 hts (gV m_242 m_244 m_1 m_57 m_245) rfl rfl rfl (by decide +kernel) ⟨Nat.le_of_ble_eq_true rfl, Nat.le_of_ble_eq_true rfl⟩) rfl hl.1 rfl (Nat.le_of_ble_eq_true rfl) d_Reader_readName_157 ⟨Nat.le_of_ble_eq_true rfl, Nat.le_of_ble_eq_true rfl⟩ (fun v18 L18 κ18 H locs hp18 hM hS => ?_)
          obtain ⟨rfl, rfl, hR18, hN18, hk18⟩ := hp18
          have hR18 : rds L κ18 ra ri 7 ra := hR18
          have hN18 : nds g L κ18 T cnt 2 := hN18
          have hB19 := bxs_keep hB (hk18 2 (by omega)) (hk18 3 (by omega)) rfl
          exact mw_vret hx hb hr hM hS hlocks d_Reader_readName_160 (by rw [show rName b sz last ra ri rf rp T cnt = ((ra : Int), (ri : Int), (7 : Int), (ra : Int), T, cnt) by unfold rName; rw [if_neg (by omega), if_neg (by omega), if_neg (zne (by first | (unfold rNameOk; rw [if_pos (by omega)]; assumption) | (unfold rNameOk; rw [if_neg (by omega)]; exact decide_eq_false (by omega))))]]; exact ⟨rfl, rfl, hR18, hN18, fun r h => by rw [hk18 r (by omega)]⟩)
        · refine lv_aload_n hx hb d_Reader_readName_140 rfl (lv_at hl 3 rfl) ?_
          refine lv_iload_n hx hb d_Reader_readName_141 rfl (lv_at hl 2 rfl) ?_
          refine lv_iconst (v := iI (1)) hx hb d_Reader_readName_142 rfl ?_
          refine ia_add hx hb d_Reader_readName_143 ?_
          refine mw_put (ci := 2) (i := 14) (v := .int (iI ((bFz b sz ra last) + 1))) (C := R_Reader) (T := T_Reader) (N := 6) hx hb hts in_Reader ty_Reader ty_Reader_ok nm_Reader hown hK hM hS hR rfl rfl 2 (by decide) (hts _ m_168) rfl (ty_Reader_ok 2 (by decide)) rfl rfl (Nat.le_of_ble_eq_true rfl) d_Reader_readName_144 (fun κ20 H locs e20 hk20 hM hS => ?_)
          have e20 : κ20 14 = some (.inr (2, [.ref (L 6), .ref (L 2), .int (iI ((bFz b sz ra last) + 1)), .int (iI ri), .int (iI rf), .int (iI rp)])) := e20
          have hN21 := nds_keep hN (fun r h1 h2 => hk20 r (by omega)) (fun r h1 h2 => rfl) rfl
          have hB22 := bxs_keep hB (hk20 2 (by omega)) (hk20 3 (by omega)) rfl
          refine lv_goto (tgt := 160) hx hb d_Reader_readName_147 (by decide) ?_
          exact mw_vret hx hb hr hM hS hlocks d_Reader_readName_160 (by rw [show rName b sz last ra ri rf rp T cnt = (((bFz b sz ra last) + 1 : Int), (ri : Int), (rf : Int), (rp : Int), T, cnt) by unfold rName; rw [if_neg (by omega), if_neg (by omega), if_pos (by first | (unfold rNameOk; rw [if_pos (by omega)]; assumption) | (unfold rNameOk; rw [if_neg (by omega)]; exact decide_eq_true (by omega)))]]; exact ⟨rfl, rfl, e20, hN21, fun r h => by rw [hk20 r (by omega)]⟩)
    · refine lv_aload_n hx hb d_Reader_readName_46 rfl (lv_at hl 2 rfl) ?_
      refine lv_iconst (v := iI (4)) hx hb d_Reader_readName_47 rfl ?_
      refine lv_iload_n hx hb d_Reader_readName_48 rfl (lv_at hl 0 rfl) ?_
      refine mw_callV (i := 14) (As := [.int (iI 4), .int (iI (uWrong b sz ra (bFz b sz ra last)))]) (rest := []) ⟨hx, hb, hml, hown, hts⟩ hK hM hS rfl hR rfl (c_Reader_refuse l D g lo L κ T cnt hN mo n sz b hB ra ri rf rp hR (by omega) (by omega) 4 (uWrong b sz ra (bFz b sz ra last))) (cwV 2 hts (gV m_242 m_244 m_1 m_57 m_245) rfl rfl rfl (by decide +kernel) ⟨Nat.le_of_ble_eq_true rfl, Nat.le_of_ble_eq_true rfl⟩) rfl hl.1 rfl (Nat.le_of_ble_eq_true rfl) d_Reader_readName_49 ⟨Nat.le_of_ble_eq_true rfl, Nat.le_of_ble_eq_true rfl⟩ (fun v23 L23 κ23 H locs hp23 hM hS => ?_)
      obtain ⟨rfl, rfl, hR23, hN23, hk23⟩ := hp23
      have hR23 : rds L κ23 ra ri 4 (uWrong b sz ra (bFz b sz ra last)) := hR23
      have hN23 : nds g L κ23 T cnt 2 := hN23
      have hB24 := bxs_keep hB (hk23 2 (by omega)) (hk23 3 (by omega)) rfl
      exact mw_vret hx hb hr hM hS hlocks d_Reader_readName_52 (by rw [show rName b sz last ra ri rf rp T cnt = ((ra : Int), (ri : Int), (4 : Int), (uWrong b sz ra (bFz b sz ra last) : Int), T, cnt) by unfold rName; rw [if_neg (by omega), if_pos (by omega)]]; exact ⟨rfl, rfl, hR23, hN23, fun r h => by rw [hk23 r (by omega)]⟩)
  · refine lv_aload_n hx hb d_Reader_readName_18 rfl (lv_at hl 1 rfl) ?_
    refine lv_iconst (v := iI (1)) hx hb d_Reader_readName_19 rfl ?_
    refine lv_aload_n hx hb d_Reader_readName_20 rfl (lv_at hl 1 rfl) ?_
    refine mw_get (ci := 2) (i := 14) (v := .int (iI ra)) (C := R_Reader) (T := T_Reader) (N := 6) hx hb hts in_Reader hown hK hM hR rfl rfl 2 (by decide) (hts _ m_168) rfl d_Reader_readName_21 ?_
    refine mw_callV (i := 14) (As := [.int (iI 1), .int (iI ra)]) (rest := []) ⟨hx, hb, hml, hown, hts⟩ hK hM hS rfl hR rfl (c_Reader_refuse l D g lo L κ T cnt hN mo n sz b hB ra ri rf rp hR (by omega) (by omega) 1 ra) (cwV 2 hts (gV m_242 m_244 m_1 m_57 m_245) rfl rfl rfl (by decide +kernel) ⟨Nat.le_of_ble_eq_true rfl, Nat.le_of_ble_eq_true rfl⟩) rfl hl.1 rfl (Nat.le_of_ble_eq_true rfl) d_Reader_readName_24 ⟨Nat.le_of_ble_eq_true rfl, Nat.le_of_ble_eq_true rfl⟩ (fun v25 L25 κ25 H locs hp25 hM hS => ?_)
    obtain ⟨rfl, rfl, hR25, hN25, hk25⟩ := hp25
    have hR25 : rds L κ25 ra ri 1 ra := hR25
    have hN25 : nds g L κ25 T cnt 2 := hN25
    have hB26 := bxs_keep hB (hk25 2 (by omega)) (hk25 3 (by omega)) rfl
    exact mw_vret hx hb hr hM hS hlocks d_Reader_readName_27 (by rw [show rName b sz last ra ri rf rp T cnt = ((ra : Int), (ri : Int), (1 : Int), (ra : Int), T, cnt) by unfold rName; rw [if_pos (by omega)]]; exact ⟨rfl, rfl, hR25, hN25, fun r h => by rw [hk25 r (by omega)]⟩)
set_option maxHeartbeats 4000000 in
set_option maxRecDepth 100000 in
theorem c_Reader_readSize (l : Launch) (D : va_G) (g : Nat → ClassId) (lo : Nat) (L : Nat → Nat) (κ : Nat → Option va_E) (T : Nat → Nat → Int) (cnt : Nat) (hN : nds g L κ T cnt 2) (mo n sz : Nat) (b : Nat → Int) (hB : bxs g L κ 2 3 mo n sz b) (ra ri rf rp : Int) (hR : rds L κ ra ri rf rp) (hra : 0 ≤ ra ∧ ra ≤ 100000) (hri : -1 ≤ ri ∧ ri ≤ 1000) (k nm left : Int) (hcn : cnt < 700) (hk0 : -1000 ≤ k ∧ k ≤ 1000) (hnm : -1 ≤ nm ∧ nm ≤ 100000) (hle : -100000 ≤ left ∧ left ≤ 100000) : Met l y_Reader_readSize w_Reader_readSize ({ frames := 2, cells := 0, slots := 0, locals := 46 }) (mwP D vwCl (tyL g) lo L κ [.ref (L 14), .int (iI k), .int (iI nm), .int (iI left)]) (mwQ D vwCl lo (rdQ g L κ (rSize b sz k nm left ra ri rf rp T cnt))) 0 0 (fun q => lo ≤ q) := by
  have hc0 := hN.2.2.1
  obtain ⟨hz1, hz2, hz3⟩ := hB.2.2.1
  refine Met.ofW (cc := b_Reader_readSize) (maxL := 7) (ret := (Option.none : Option Jvm.ClassFile.FieldType)) (by decide) rfl ?_
  intro p e s m args below meth c s₁ B hml hpre
  obtain ⟨hargs, hM, hK⟩ := hpre
  have hx := B.exec
  have hb := B.bytes
  have hr := B.returns
  have hts : ∀ w ∈ wA, w.before args s = true := fun w h => atoms_spec (ws := w_Reader_readSize) B.pre w (List.mem_cons_of_mem _ h)
  have hown : s.vm.findClass R_Reader = some m.cls := findClass_of_methodNamed B.named
  have hlocks := B.notSynchronized
  have hS : va_S (fun q => lo ≤ q) s.heap s.heap [] := va_S.rf
  obtain ⟨ls, hls, hl⟩ := mw_entry (m := m) [.ref (L 14), .int (iI k), .int (iI nm), .int (iI left)] (n := 7) (Nat.le_of_ble_eq_true rfl) hargs
  refine W.eq hls ?_
  have hl : lv_has ls 7 [(0, .ref (L 14)), (1, .int (iI k)), (2, .int (iI nm)), (3, .int (iI left))] := hl
  refine lv_iload_n hx hb d_Reader_readSize_0 rfl (lv_at hl 3 rfl) ?_
  refine lv_iconst (v := iI (4)) hx hb d_Reader_readSize_1 rfl ?_
  refine ia_icmp_ge (a := left) (b := 4) (tgt := 15) hx hb d_Reader_readSize_2 (by decide) (by omega) (by omega) (fun c1 => ?_) (fun c1 => ?_)
  · refine lv_aload_n hx hb d_Reader_readSize_15 rfl (lv_at hl 0 rfl) ?_
    refine mw_get (ci := 2) (i := 14) (v := .ref (L 2)) (C := R_Reader) (T := T_Reader) (N := 6) hx hb hts in_Reader hown hK hM hR rfl rfl 1 (by decide) (hts _ m_167) rfl d_Reader_readSize_16 ?_
    refine lv_aload_n hx hb d_Reader_readSize_19 rfl (lv_at hl 0 rfl) ?_
    refine mw_get (ci := 2) (i := 14) (v := .int (iI ra)) (C := R_Reader) (T := T_Reader) (N := 6) hx hb hts in_Reader hown hK hM hR rfl rfl 2 (by decide) (hts _ m_168) rfl d_Reader_readSize_20 ?_
    refine lv_iconst (v := iI (4)) hx hb d_Reader_readSize_23 rfl ?_
    refine mw_rdV (i := 2) (As := [.int (iI ra), .int (iI 4)]) (rest := []) ⟨hx, hb, hml, hown, hts⟩ hK hM hS rfl hB.1 rfl (c_Bytes_numberAt l D g lo L κ 2 3 mo n sz b hB ra 4 (by omega) (by omega)) (cwV 2 hts (gV m_246 m_247 m_248 m_52 m_249) rfl rfl rfl (by decide +kernel) ⟨Nat.le_of_ble_eq_true rfl, Nat.le_of_ble_eq_true rfl⟩) rfl hl.1 rfl (Nat.le_of_ble_eq_true rfl) d_Reader_readSize_24 ⟨Nat.le_of_ble_eq_true rfl, Nat.le_of_ble_eq_true rfl⟩ (fun H locs hM hS => ?_)
    have r2 := bNum4_r b sz ra
    refine lv_lstore (lv' := [(4, .long (lI (bNum b sz ra 3 0))), (0, .ref (L 14)), (1, .int (iI k)), (2, .int (iI nm)), (3, .int (iI left))]) hx hb d_Reader_readSize_27 hl (by decide) rfl (fun ls hl => ?_)
    refine lv_aload_n hx hb d_Reader_readSize_29 rfl (lv_at hl 1 rfl) ?_
    refine mw_get (ci := 2) (i := 14) (v := .int (iI ri)) (C := R_Reader) (T := T_Reader) (N := 6) hx hb hts in_Reader hown hK hM hR rfl rfl 3 (by decide) (hts _ m_169) rfl d_Reader_readSize_30 ?_
    refine lv_iconst (v := iI (-1)) hx hb d_Reader_readSize_33 rfl ?_
    refine ia_icmp_ne (a := ri) (b := -1) (tgt := 41) hx hb d_Reader_readSize_34 (by decide) (by omega) (by omega) (fun c3 => ?_) (fun c3 => ?_)
    · refine lv_iconst (v := iI (0)) hx hb d_Reader_readSize_41 rfl ?_
      refine lv_istore (lv' := [(6, .int (iI 0)), (4, .long (lI (bNum b sz ra 3 0))), (0, .ref (L 14)), (1, .int (iI k)), (2, .int (iI nm)), (3, .int (iI left))]) hx hb d_Reader_readSize_42 hl (by decide) rfl (fun ls hl => ?_)
      refine lv_lload hx hb d_Reader_readSize_44 (lv_at hl 1 rfl) ?_
      refine lv_ldc2 (v := 5) hx hb hown (hts _ m_254) d_Reader_readSize_46 ?_
      refine W.eq (g2 := F0 m 49 ls (.long (lI 5) :: .long (lI (bNum b sz ra 3 0)) :: [])) (by rfl) ?_
      refine ia_lcmp (a := bNum b sz ra 3 0) (b := 5) hx hb (by omega) (by omega) d_Reader_readSize_49 ?_
      have r4 := cmpI_s (bNum b sz ra 3 0) 5
      refine ia_if_lt (a := cmpI (bNum b sz ra 3 0) 5) (tgt := 66) hx hb d_Reader_readSize_50 (by decide) (by omega) (fun c5 => ?_) (fun c5 => ?_)
      · refine lv_aload_n hx hb d_Reader_readSize_66 rfl (lv_at hl 2 rfl) ?_
        refine lv_iconst (v := iI (2)) hx hb d_Reader_readSize_67 rfl ?_
        refine lv_aload_n hx hb d_Reader_readSize_68 rfl (lv_at hl 2 rfl) ?_
        refine mw_get (ci := 2) (i := 14) (v := .int (iI ra)) (C := R_Reader) (T := T_Reader) (N := 6) hx hb hts in_Reader hown hK hM hR rfl rfl 2 (by decide) (hts _ m_168) rfl d_Reader_readSize_69 ?_
        refine mw_callV (i := 14) (As := [.int (iI 2), .int (iI ra)]) (rest := []) ⟨hx, hb, hml, hown, hts⟩ hK hM hS rfl hR rfl (c_Reader_refuse l D g lo L κ T cnt hN mo n sz b hB ra ri rf rp hR (by omega) (by omega) 2 ra) (cwV 2 hts (gV m_242 m_244 m_1 m_57 m_245) rfl rfl rfl (by decide +kernel) ⟨Nat.le_of_ble_eq_true rfl, Nat.le_of_ble_eq_true rfl⟩) rfl hl.1 rfl (Nat.le_of_ble_eq_true rfl) d_Reader_readSize_72 ⟨Nat.le_of_ble_eq_true rfl, Nat.le_of_ble_eq_true rfl⟩ (fun v6 L6 κ6 H locs hp6 hM hS => ?_)
        obtain ⟨rfl, rfl, hR6, hN6, hk6⟩ := hp6
        have hR6 : rds L κ6 ra ri 2 ra := hR6
        have hN6 : nds g L κ6 T cnt 2 := hN6
        have hB7 := bxs_keep hB (hk6 2 (by omega)) (hk6 3 (by omega)) rfl
        refine lv_goto (tgt := 161) hx hb d_Reader_readSize_75 (by decide) ?_
        exact mw_vret hx hb hr hM hS hlocks d_Reader_readSize_161 (by rw [show rSize b sz k nm left ra ri rf rp T cnt = ((ra : Int), (ri : Int), (2 : Int), (ra : Int), T, cnt) by unfold rSize; rw [if_neg (by omega), if_pos (by omega)]]; exact ⟨rfl, rfl, hR6, hN6, fun r h => by rw [hk6 r (by omega)]⟩)
      · refine lv_iload hx hb d_Reader_readSize_53 (lv_at hl 0 rfl) ?_
        refine ia_if_eq (a := 0) (tgt := 78) hx hb d_Reader_readSize_55 (by decide) (by omega) (fun c8 => ?_) (fun c8 => ?_)
        · refine lv_lload hx hb d_Reader_readSize_78 (lv_at hl 1 rfl) ?_
          refine lv_iload_n hx hb d_Reader_readSize_80 rfl (lv_at hl 5 rfl) ?_
          refine ia_i2l hx hb (by omega) d_Reader_readSize_81 ?_
          refine ia_lcmp (a := bNum b sz ra 3 0) (b := left) hx hb (by omega) (by omega) d_Reader_readSize_82 ?_
          have r9 := cmpI_s (bNum b sz ra 3 0) left
          refine ia_if_le (a := cmpI (bNum b sz ra 3 0) left) (tgt := 98) hx hb d_Reader_readSize_83 (by decide) (by omega) (fun c10 => ?_) (fun c10 => ?_)
          · refine lv_aload_n hx hb d_Reader_readSize_98 rfl (lv_at hl 2 rfl) ?_
            refine mw_get (ci := 2) (i := 14) (v := .ref (L 6)) (C := R_Reader) (T := T_Reader) (N := 6) hx hb hts in_Reader hown hK hM hR rfl rfl 0 (by decide) (hts _ m_166) rfl d_Reader_readSize_99 ?_
            refine lv_aload_n hx hb d_Reader_readSize_102 rfl (lv_at hl 2 rfl) ?_
            refine mw_get (ci := 2) (i := 14) (v := .int (iI ri)) (C := R_Reader) (T := T_Reader) (N := 6) hx hb hts in_Reader hown hK hM hR rfl rfl 3 (by decide) (hts _ m_169) rfl d_Reader_readSize_103 ?_
            refine mw_rdV (i := 6) (As := [.int (iI ri)]) (rest := []) ⟨hx, hb, hml, hown, hts⟩ hK hM hS rfl hN.1 rfl (c_Nodes_depth l D g lo L κ T cnt 2 hN ri (by omega)) (cwV 1 hts (gV m_255 m_256 m_257 m_56 m_258) rfl rfl rfl (by decide +kernel) ⟨Nat.le_of_ble_eq_true rfl, Nat.le_of_ble_eq_true rfl⟩) rfl hl.1 rfl (Nat.le_of_ble_eq_true rfl) d_Reader_readSize_106 ⟨Nat.le_of_ble_eq_true rfl, Nat.le_of_ble_eq_true rfl⟩ (fun H locs hM hS => ?_)
            have r11 := nCell_r (cnt := cnt) hN.2.2.2.1 2 ri
            refine lv_bipush (v := iI (16)) hx hb d_Reader_readSize_109 (by decide) ?_
            refine ia_icmp_lt (a := nCell T cnt 2 ri) (b := 16) (tgt := 127) hx hb d_Reader_readSize_111 (by decide) (by omega) (by omega) (fun c12 => ?_) (fun c12 => ?_)
            · refine lv_aload_n hx hb d_Reader_readSize_127 rfl (lv_at hl 2 rfl) ?_
              refine lv_aload_n hx hb d_Reader_readSize_128 rfl (lv_at hl 2 rfl) ?_
              refine mw_get (ci := 2) (i := 14) (v := .ref (L 6)) (C := R_Reader) (T := T_Reader) (N := 6) hx hb hts in_Reader hown hK hM hR rfl rfl 0 (by decide) (hts _ m_166) rfl d_Reader_readSize_129 ?_
              refine lv_iload_n hx hb d_Reader_readSize_132 rfl (lv_at hl 3 rfl) ?_
              refine lv_aload_n hx hb d_Reader_readSize_133 rfl (lv_at hl 2 rfl) ?_
              refine mw_get (ci := 2) (i := 14) (v := .int (iI ri)) (C := R_Reader) (T := T_Reader) (N := 6) hx hb hts in_Reader hown hK hM hR rfl rfl 3 (by decide) (hts _ m_169) rfl d_Reader_readSize_134 ?_
              refine lv_iload_n hx hb d_Reader_readSize_137 rfl (lv_at hl 4 rfl) ?_
              refine lv_aload_n hx hb d_Reader_readSize_138 rfl (lv_at hl 2 rfl) ?_
              refine mw_get (ci := 2) (i := 14) (v := .int (iI ra)) (C := R_Reader) (T := T_Reader) (N := 6) hx hb hts in_Reader hown hK hM hR rfl rfl 2 (by decide) (hts _ m_168) rfl d_Reader_readSize_139 ?_
              refine lv_lload hx hb d_Reader_readSize_142 (lv_at hl 1 rfl) ?_
              refine ia_l2i hx hb d_Reader_readSize_144 ?_
              refine mw_callV (i := 6) (As := [.int (iI k), .int (iI ri), .int (iI nm), .int (iI ra), .int (iI (bNum b sz ra 3 0))]) (rest := [.ref (L 14)]) ⟨hx, hb, hml, hown, hts⟩ hK hM hS rfl hN.1 rfl (c_Nodes_append l D g lo L κ T cnt 2 hN k ri nm ra (bNum b sz ra 3 0) hcn (by omega) (by omega) (by omega) (by omega) (by omega)) (cwV 5 hts (gV m_263 m_264 m_265 m_56 m_266) rfl rfl rfl (by decide +kernel) ⟨Nat.le_of_ble_eq_true rfl, Nat.le_of_ble_eq_true rfl⟩) rfl hl.1 rfl (Nat.le_of_ble_eq_true rfl) d_Reader_readSize_145 ⟨Nat.le_of_ble_eq_true rfl, Nat.le_of_ble_eq_true rfl⟩ (fun v13 L13 κ13 H locs hp13 hM hS => ?_)
              obtain ⟨rfl, rfl, hN13, hk13⟩ := hp13
              have hB14 := bxs_keep hB (hk13 2 (by omega)) (hk13 3 (by omega)) rfl
              have e15 := (hk13 14 (by omega)).trans hR
              refine mw_put (ci := 2) (i := 14) (v := .int (iI cnt)) (C := R_Reader) (T := T_Reader) (N := 6) hx hb hts in_Reader ty_Reader ty_Reader_ok nm_Reader hown hK hM hS e15 rfl rfl 3 (by decide) (hts _ m_169) rfl (ty_Reader_ok 3 (by decide)) rfl rfl (Nat.le_of_ble_eq_true rfl) d_Reader_readSize_148 (fun κ16 H locs e16 hk16 hM hS => ?_)
              have e16 : κ16 14 = some (.inr (2, [.ref (L 6), .ref (L 2), .int (iI ra), .int (iI cnt), .int (iI rf), .int (iI rp)])) := e16
              have hN17 := nds_keep hN13 (fun r h1 h2 => hk16 r (by omega)) (fun r h1 h2 => rfl) rfl
              have hB18 := bxs_keep hB14 (hk16 2 (by omega)) (hk16 3 (by omega)) rfl
              refine lv_aload_n hx hb d_Reader_readSize_151 rfl (lv_at hl 2 rfl) ?_
              refine lv_dup hx hb d_Reader_readSize_152 rfl ?_
              refine mw_get (ci := 2) (i := 14) (v := .int (iI ra)) (C := R_Reader) (T := T_Reader) (N := 6) hx hb hts in_Reader hown hK hM e16 rfl rfl 2 (by decide) (hts _ m_168) rfl d_Reader_readSize_153 ?_
              refine lv_iconst (v := iI (4)) hx hb d_Reader_readSize_156 rfl ?_
              refine ia_add hx hb d_Reader_readSize_157 ?_
              refine mw_put (ci := 2) (i := 14) (v := .int (iI (ra + 4))) (C := R_Reader) (T := T_Reader) (N := 6) hx hb hts in_Reader ty_Reader ty_Reader_ok nm_Reader hown hK hM hS e16 rfl rfl 2 (by decide) (hts _ m_168) rfl (ty_Reader_ok 2 (by decide)) rfl rfl (Nat.le_of_ble_eq_true rfl) d_Reader_readSize_158 (fun κ19 H locs e19 hk19 hM hS => ?_)
              have e19 : κ19 14 = some (.inr (2, [.ref (L 6), .ref (L 2), .int (iI (ra + 4)), .int (iI cnt), .int (iI rf), .int (iI rp)])) := e19
              have hN20 := nds_keep hN17 (fun r h1 h2 => hk19 r (by omega)) (fun r h1 h2 => rfl) rfl
              have hB21 := bxs_keep hB18 (hk19 2 (by omega)) (hk19 3 (by omega)) rfl
              exact mw_vret hx hb hr hM hS hlocks d_Reader_readSize_161 (by rw [show rSize b sz k nm left ra ri rf rp T cnt = ((ra + 4 : Int), (cnt : Int), (rf : Int), (rp : Int), nApp T cnt k ri nm ra (bNum b sz ra 3 0), cnt + 1) by unfold rSize; rw [if_neg (by omega), if_neg (by omega), if_neg (by omega), if_neg (by omega)]]; exact ⟨rfl, rfl, e19, hN20, fun r h => by rw [hk19 r (by omega), hk16 r (by omega), hk13 r (by omega)]⟩)
            · refine lv_aload_n hx hb d_Reader_readSize_114 rfl (lv_at hl 2 rfl) ?_
              refine lv_bipush (v := iI (8)) hx hb d_Reader_readSize_115 (by decide) ?_
              refine lv_aload_n hx hb d_Reader_readSize_117 rfl (lv_at hl 2 rfl) ?_
              refine mw_get (ci := 2) (i := 14) (v := .int (iI ra)) (C := R_Reader) (T := T_Reader) (N := 6) hx hb hts in_Reader hown hK hM hR rfl rfl 2 (by decide) (hts _ m_168) rfl d_Reader_readSize_118 ?_
              refine mw_callV (i := 14) (As := [.int (iI 8), .int (iI ra)]) (rest := []) ⟨hx, hb, hml, hown, hts⟩ hK hM hS rfl hR rfl (c_Reader_refuse l D g lo L κ T cnt hN mo n sz b hB ra ri rf rp hR (by omega) (by omega) 8 ra) (cwV 2 hts (gV m_242 m_244 m_1 m_57 m_245) rfl rfl rfl (by decide +kernel) ⟨Nat.le_of_ble_eq_true rfl, Nat.le_of_ble_eq_true rfl⟩) rfl hl.1 rfl (Nat.le_of_ble_eq_true rfl) d_Reader_readSize_121 ⟨Nat.le_of_ble_eq_true rfl, Nat.le_of_ble_eq_true rfl⟩ (fun v22 L22 κ22 H locs hp22 hM hS => ?_)
              obtain ⟨rfl, rfl, hR22, hN22, hk22⟩ := hp22
              have hR22 : rds L κ22 ra ri 8 ra := hR22
              have hN22 : nds g L κ22 T cnt 2 := hN22
              have hB23 := bxs_keep hB (hk22 2 (by omega)) (hk22 3 (by omega)) rfl
              refine lv_goto (tgt := 161) hx hb d_Reader_readSize_124 (by decide) ?_
              exact mw_vret hx hb hr hM hS hlocks d_Reader_readSize_161 (by rw [show rSize b sz k nm left ra ri rf rp T cnt = ((ra : Int), (ri : Int), (8 : Int), (ra : Int), T, cnt) by unfold rSize; rw [if_neg (by omega), if_neg (by omega), if_neg (by omega), if_pos (by omega)]]; exact ⟨rfl, rfl, hR22, hN22, fun r h => by rw [hk22 r (by omega)]⟩)
          · refine lv_aload_n hx hb d_Reader_readSize_86 rfl (lv_at hl 2 rfl) ?_
            refine lv_iconst (v := iI (1)) hx hb d_Reader_readSize_87 rfl ?_
            refine lv_aload_n hx hb d_Reader_readSize_88 rfl (lv_at hl 2 rfl) ?_
            refine mw_get (ci := 2) (i := 14) (v := .int (iI ra)) (C := R_Reader) (T := T_Reader) (N := 6) hx hb hts in_Reader hown hK hM hR rfl rfl 2 (by decide) (hts _ m_168) rfl d_Reader_readSize_89 ?_
            refine mw_callV (i := 14) (As := [.int (iI 1), .int (iI ra)]) (rest := []) ⟨hx, hb, hml, hown, hts⟩ hK hM hS rfl hR rfl (c_Reader_refuse l D g lo L κ T cnt hN mo n sz b hB ra ri rf rp hR (by omega) (by omega) 1 ra) (cwV 2 hts (gV m_242 m_244 m_1 m_57 m_245) rfl rfl rfl (by decide +kernel) ⟨Nat.le_of_ble_eq_true rfl, Nat.le_of_ble_eq_true rfl⟩) rfl hl.1 rfl (Nat.le_of_ble_eq_true rfl) d_Reader_readSize_92 ⟨Nat.le_of_ble_eq_true rfl, Nat.le_of_ble_eq_true rfl⟩ (fun v24 L24 κ24 H locs hp24 hM hS => ?_)
            obtain ⟨rfl, rfl, hR24, hN24, hk24⟩ := hp24
            have hR24 : rds L κ24 ra ri 1 ra := hR24
            have hN24 : nds g L κ24 T cnt 2 := hN24
            have hB25 := bxs_keep hB (hk24 2 (by omega)) (hk24 3 (by omega)) rfl
            refine lv_goto (tgt := 161) hx hb d_Reader_readSize_95 (by decide) ?_
            exact mw_vret hx hb hr hM hS hlocks d_Reader_readSize_161 (by rw [show rSize b sz k nm left ra ri rf rp T cnt = ((ra : Int), (ri : Int), (1 : Int), (ra : Int), T, cnt) by unfold rSize; rw [if_neg (by omega), if_neg (by omega), if_pos (by omega)]]; exact ⟨rfl, rfl, hR24, hN24, fun r h => by rw [hk24 r (by omega)]⟩)
        · exact absurd (by decide) c8
    · refine lv_iconst (v := iI (1)) hx hb d_Reader_readSize_37 rfl ?_
      refine lv_goto (tgt := 42) hx hb d_Reader_readSize_38 (by decide) ?_
      refine lv_istore (lv' := [(6, .int (iI 1)), (4, .long (lI (bNum b sz ra 3 0))), (0, .ref (L 14)), (1, .int (iI k)), (2, .int (iI nm)), (3, .int (iI left))]) hx hb d_Reader_readSize_42 hl (by decide) rfl (fun ls hl => ?_)
      refine lv_lload hx hb d_Reader_readSize_44 (lv_at hl 1 rfl) ?_
      refine lv_ldc2 (v := 5) hx hb hown (hts _ m_254) d_Reader_readSize_46 ?_
      refine W.eq (g2 := F0 m 49 ls (.long (lI 5) :: .long (lI (bNum b sz ra 3 0)) :: [])) (by rfl) ?_
      refine ia_lcmp (a := bNum b sz ra 3 0) (b := 5) hx hb (by omega) (by omega) d_Reader_readSize_49 ?_
      have r26 := cmpI_s (bNum b sz ra 3 0) 5
      refine ia_if_lt (a := cmpI (bNum b sz ra 3 0) 5) (tgt := 66) hx hb d_Reader_readSize_50 (by decide) (by omega) (fun c27 => ?_) (fun c27 => ?_)
      · refine lv_aload_n hx hb d_Reader_readSize_66 rfl (lv_at hl 2 rfl) ?_
        refine lv_iconst (v := iI (2)) hx hb d_Reader_readSize_67 rfl ?_
        refine lv_aload_n hx hb d_Reader_readSize_68 rfl (lv_at hl 2 rfl) ?_
        refine mw_get (ci := 2) (i := 14) (v := .int (iI ra)) (C := R_Reader) (T := T_Reader) (N := 6) hx hb hts in_Reader hown hK hM hR rfl rfl 2 (by decide) (hts _ m_168) rfl d_Reader_readSize_69 ?_
        refine mw_callV (i := 14) (As := [.int (iI 2), .int (iI ra)]) (rest := []) ⟨hx, hb, hml, hown, hts⟩ hK hM hS rfl hR rfl (c_Reader_refuse l D g lo L κ T cnt hN mo n sz b hB ra ri rf rp hR (by omega) (by omega) 2 ra) (cwV 2 hts (gV m_242 m_244 m_1 m_57 m_245) rfl rfl rfl (by decide +kernel) ⟨Nat.le_of_ble_eq_true rfl, Nat.le_of_ble_eq_true rfl⟩) rfl hl.1 rfl (Nat.le_of_ble_eq_true rfl) d_Reader_readSize_72 ⟨Nat.le_of_ble_eq_true rfl, Nat.le_of_ble_eq_true rfl⟩ (fun v28 L28 κ28 H locs hp28 hM hS => ?_)
        obtain ⟨rfl, rfl, hR28, hN28, hk28⟩ := hp28
        have hR28 : rds L κ28 ra ri 2 ra := hR28
        have hN28 : nds g L κ28 T cnt 2 := hN28
        have hB29 := bxs_keep hB (hk28 2 (by omega)) (hk28 3 (by omega)) rfl
        refine lv_goto (tgt := 161) hx hb d_Reader_readSize_75 (by decide) ?_
        exact mw_vret hx hb hr hM hS hlocks d_Reader_readSize_161 (by rw [show rSize b sz k nm left ra ri rf rp T cnt = ((ra : Int), (ri : Int), (2 : Int), (ra : Int), T, cnt) by unfold rSize; rw [if_neg (by omega), if_pos (by omega)]]; exact ⟨rfl, rfl, hR28, hN28, fun r h => by rw [hk28 r (by omega)]⟩)
      · refine lv_iload hx hb d_Reader_readSize_53 (lv_at hl 0 rfl) ?_
        refine ia_if_eq (a := 1) (tgt := 78) hx hb d_Reader_readSize_55 (by decide) (by omega) (fun c30 => ?_) (fun c30 => ?_)
        · exact absurd c30 (by decide)
        · refine lv_lload hx hb d_Reader_readSize_58 (lv_at hl 1 rfl) ?_
          refine lv_iload_n hx hb d_Reader_readSize_60 rfl (lv_at hl 5 rfl) ?_
          refine ia_i2l hx hb (by omega) d_Reader_readSize_61 ?_
          refine ia_lcmp (a := bNum b sz ra 3 0) (b := left) hx hb (by omega) (by omega) d_Reader_readSize_62 ?_
          have r31 := cmpI_s (bNum b sz ra 3 0) left
          refine ia_if_ge (a := cmpI (bNum b sz ra 3 0) left) (tgt := 78) hx hb d_Reader_readSize_63 (by decide) (by omega) (fun c32 => ?_) (fun c32 => ?_)
          · refine lv_lload hx hb d_Reader_readSize_78 (lv_at hl 1 rfl) ?_
            refine lv_iload_n hx hb d_Reader_readSize_80 rfl (lv_at hl 5 rfl) ?_
            refine ia_i2l hx hb (by omega) d_Reader_readSize_81 ?_
            refine ia_lcmp (a := bNum b sz ra 3 0) (b := left) hx hb (by omega) (by omega) d_Reader_readSize_82 ?_
            have r33 := cmpI_s (bNum b sz ra 3 0) left
            refine ia_if_le (a := cmpI (bNum b sz ra 3 0) left) (tgt := 98) hx hb d_Reader_readSize_83 (by decide) (by omega) (fun c34 => ?_) (fun c34 => ?_)
            · refine lv_aload_n hx hb d_Reader_readSize_98 rfl (lv_at hl 2 rfl) ?_
              refine mw_get (ci := 2) (i := 14) (v := .ref (L 6)) (C := R_Reader) (T := T_Reader) (N := 6) hx hb hts in_Reader hown hK hM hR rfl rfl 0 (by decide) (hts _ m_166) rfl d_Reader_readSize_99 ?_
              refine lv_aload_n hx hb d_Reader_readSize_102 rfl (lv_at hl 2 rfl) ?_
              refine mw_get (ci := 2) (i := 14) (v := .int (iI ri)) (C := R_Reader) (T := T_Reader) (N := 6) hx hb hts in_Reader hown hK hM hR rfl rfl 3 (by decide) (hts _ m_169) rfl d_Reader_readSize_103 ?_
              refine mw_rdV (i := 6) (As := [.int (iI ri)]) (rest := []) ⟨hx, hb, hml, hown, hts⟩ hK hM hS rfl hN.1 rfl (c_Nodes_depth l D g lo L κ T cnt 2 hN ri (by omega)) (cwV 1 hts (gV m_255 m_256 m_257 m_56 m_258) rfl rfl rfl (by decide +kernel) ⟨Nat.le_of_ble_eq_true rfl, Nat.le_of_ble_eq_true rfl⟩) rfl hl.1 rfl (Nat.le_of_ble_eq_true rfl) d_Reader_readSize_106 ⟨Nat.le_of_ble_eq_true rfl, Nat.le_of_ble_eq_true rfl⟩ (fun H locs hM hS => ?_)
              have r35 := nCell_r (cnt := cnt) hN.2.2.2.1 2 ri
              refine lv_bipush (v := iI (16)) hx hb d_Reader_readSize_109 (by decide) ?_
              refine ia_icmp_lt (a := nCell T cnt 2 ri) (b := 16) (tgt := 127) hx hb d_Reader_readSize_111 (by decide) (by omega) (by omega) (fun c36 => ?_) (fun c36 => ?_)
              · refine lv_aload_n hx hb d_Reader_readSize_127 rfl (lv_at hl 2 rfl) ?_
                refine lv_aload_n hx hb d_Reader_readSize_128 rfl (lv_at hl 2 rfl) ?_
                refine mw_get (ci := 2) (i := 14) (v := .ref (L 6)) (C := R_Reader) (T := T_Reader) (N := 6) hx hb hts in_Reader hown hK hM hR rfl rfl 0 (by decide) (hts _ m_166) rfl d_Reader_readSize_129 ?_
                refine lv_iload_n hx hb d_Reader_readSize_132 rfl (lv_at hl 3 rfl) ?_
                refine lv_aload_n hx hb d_Reader_readSize_133 rfl (lv_at hl 2 rfl) ?_
                refine mw_get (ci := 2) (i := 14) (v := .int (iI ri)) (C := R_Reader) (T := T_Reader) (N := 6) hx hb hts in_Reader hown hK hM hR rfl rfl 3 (by decide) (hts _ m_169) rfl d_Reader_readSize_134 ?_
                refine lv_iload_n hx hb d_Reader_readSize_137 rfl (lv_at hl 4 rfl) ?_
                refine lv_aload_n hx hb d_Reader_readSize_138 rfl (lv_at hl 2 rfl) ?_
                refine mw_get (ci := 2) (i := 14) (v := .int (iI ra)) (C := R_Reader) (T := T_Reader) (N := 6) hx hb hts in_Reader hown hK hM hR rfl rfl 2 (by decide) (hts _ m_168) rfl d_Reader_readSize_139 ?_
                refine lv_lload hx hb d_Reader_readSize_142 (lv_at hl 1 rfl) ?_
                refine ia_l2i hx hb d_Reader_readSize_144 ?_
                refine mw_callV (i := 6) (As := [.int (iI k), .int (iI ri), .int (iI nm), .int (iI ra), .int (iI (bNum b sz ra 3 0))]) (rest := [.ref (L 14)]) ⟨hx, hb, hml, hown, hts⟩ hK hM hS rfl hN.1 rfl (c_Nodes_append l D g lo L κ T cnt 2 hN k ri nm ra (bNum b sz ra 3 0) hcn (by omega) (by omega) (by omega) (by omega) (by omega)) (cwV 5 hts (gV m_263 m_264 m_265 m_56 m_266) rfl rfl rfl (by decide +kernel) ⟨Nat.le_of_ble_eq_true rfl, Nat.le_of_ble_eq_true rfl⟩) rfl hl.1 rfl (Nat.le_of_ble_eq_true rfl) d_Reader_readSize_145 ⟨Nat.le_of_ble_eq_true rfl, Nat.le_of_ble_eq_true rfl⟩ (fun v37 L37 κ37 H locs hp37 hM hS => ?_)
                obtain ⟨rfl, rfl, hN37, hk37⟩ := hp37
                have hB38 := bxs_keep hB (hk37 2 (by omega)) (hk37 3 (by omega)) rfl
                have e39 := (hk37 14 (by omega)).trans hR
                refine mw_put (ci := 2) (i := 14) (v := .int (iI cnt)) (C := R_Reader) (T := T_Reader) (N := 6) hx hb hts in_Reader ty_Reader ty_Reader_ok nm_Reader hown hK hM hS e39 rfl rfl 3 (by decide) (hts _ m_169) rfl (ty_Reader_ok 3 (by decide)) rfl rfl (Nat.le_of_ble_eq_true rfl) d_Reader_readSize_148 (fun κ40 H locs e40 hk40 hM hS => ?_)
                have e40 : κ40 14 = some (.inr (2, [.ref (L 6), .ref (L 2), .int (iI ra), .int (iI cnt), .int (iI rf), .int (iI rp)])) := e40
                have hN41 := nds_keep hN37 (fun r h1 h2 => hk40 r (by omega)) (fun r h1 h2 => rfl) rfl
                have hB42 := bxs_keep hB38 (hk40 2 (by omega)) (hk40 3 (by omega)) rfl
                refine lv_aload_n hx hb d_Reader_readSize_151 rfl (lv_at hl 2 rfl) ?_
                refine lv_dup hx hb d_Reader_readSize_152 rfl ?_
                refine mw_get (ci := 2) (i := 14) (v := .int (iI ra)) (C := R_Reader) (T := T_Reader) (N := 6) hx hb hts in_Reader hown hK hM e40 rfl rfl 2 (by decide) (hts _ m_168) rfl d_Reader_readSize_153 ?_
                refine lv_iconst (v := iI (4)) hx hb d_Reader_readSize_156 rfl ?_
                refine ia_add hx hb d_Reader_readSize_157 ?_
                refine mw_put (ci := 2) (i := 14) (v := .int (iI (ra + 4))) (C := R_Reader) (T := T_Reader) (N := 6) hx hb hts in_Reader ty_Reader ty_Reader_ok nm_Reader hown hK hM hS e40 rfl rfl 2 (by decide) (hts _ m_168) rfl (ty_Reader_ok 2 (by decide)) rfl rfl (Nat.le_of_ble_eq_true rfl) d_Reader_readSize_158 (fun κ43 H locs e43 hk43 hM hS => ?_)
                have e43 : κ43 14 = some (.inr (2, [.ref (L 6), .ref (L 2), .int (iI (ra + 4)), .int (iI cnt), .int (iI rf), .int (iI rp)])) := e43
                have hN44 := nds_keep hN41 (fun r h1 h2 => hk43 r (by omega)) (fun r h1 h2 => rfl) rfl
                have hB45 := bxs_keep hB42 (hk43 2 (by omega)) (hk43 3 (by omega)) rfl
                exact mw_vret hx hb hr hM hS hlocks d_Reader_readSize_161 (by rw [show rSize b sz k nm left ra ri rf rp T cnt = ((ra + 4 : Int), (cnt : Int), (rf : Int), (rp : Int), nApp T cnt k ri nm ra (bNum b sz ra 3 0), cnt + 1) by unfold rSize; rw [if_neg (by omega), if_neg (by omega), if_neg (by omega), if_neg (by omega)]]; exact ⟨rfl, rfl, e43, hN44, fun r h => by rw [hk43 r (by omega), hk40 r (by omega), hk37 r (by omega)]⟩)
              · refine lv_aload_n hx hb d_Reader_readSize_114 rfl (lv_at hl 2 rfl) ?_
                refine lv_bipush (v := iI (8)) hx hb d_Reader_readSize_115 (by decide) ?_
                refine lv_aload_n hx hb d_Reader_readSize_117 rfl (lv_at hl 2 rfl) ?_
                refine mw_get (ci := 2) (i := 14) (v := .int (iI ra)) (C := R_Reader) (T := T_Reader) (N := 6) hx hb hts in_Reader hown hK hM hR rfl rfl 2 (by decide) (hts _ m_168) rfl d_Reader_readSize_118 ?_
                refine mw_callV (i := 14) (As := [.int (iI 8), .int (iI ra)]) (rest := []) ⟨hx, hb, hml, hown, hts⟩ hK hM hS rfl hR rfl (c_Reader_refuse l D g lo L κ T cnt hN mo n sz b hB ra ri rf rp hR (by omega) (by omega) 8 ra) (cwV 2 hts (gV m_242 m_244 m_1 m_57 m_245) rfl rfl rfl (by decide +kernel) ⟨Nat.le_of_ble_eq_true rfl, Nat.le_of_ble_eq_true rfl⟩) rfl hl.1 rfl (Nat.le_of_ble_eq_true rfl) d_Reader_readSize_121 ⟨Nat.le_of_ble_eq_true rfl, Nat.le_of_ble_eq_true rfl⟩ (fun v46 L46 κ46 H locs hp46 hM hS => ?_)
                obtain ⟨rfl, rfl, hR46, hN46, hk46⟩ := hp46
                have hR46 : rds L κ46 ra ri 8 ra := hR46
                have hN46 : nds g L κ46 T cnt 2 := hN46
                have hB47 := bxs_keep hB (hk46 2 (by omega)) (hk46 3 (by omega)) rfl
                refine lv_goto (tgt := 161) hx hb d_Reader_readSize_124 (by decide) ?_
                exact mw_vret hx hb hr hM hS hlocks d_Reader_readSize_161 (by rw [show rSize b sz k nm left ra ri rf rp T cnt = ((ra : Int), (ri : Int), (8 : Int), (ra : Int), T, cnt) by unfold rSize; rw [if_neg (by omega), if_neg (by omega), if_neg (by omega), if_pos (by omega)]]; exact ⟨rfl, rfl, hR46, hN46, fun r h => by rw [hk46 r (by omega)]⟩)
            · refine lv_aload_n hx hb d_Reader_readSize_86 rfl (lv_at hl 2 rfl) ?_
              refine lv_iconst (v := iI (1)) hx hb d_Reader_readSize_87 rfl ?_
              refine lv_aload_n hx hb d_Reader_readSize_88 rfl (lv_at hl 2 rfl) ?_
              refine mw_get (ci := 2) (i := 14) (v := .int (iI ra)) (C := R_Reader) (T := T_Reader) (N := 6) hx hb hts in_Reader hown hK hM hR rfl rfl 2 (by decide) (hts _ m_168) rfl d_Reader_readSize_89 ?_
              refine mw_callV (i := 14) (As := [.int (iI 1), .int (iI ra)]) (rest := []) ⟨hx, hb, hml, hown, hts⟩ hK hM hS rfl hR rfl (c_Reader_refuse l D g lo L κ T cnt hN mo n sz b hB ra ri rf rp hR (by omega) (by omega) 1 ra) (cwV 2 hts (gV m_242 m_244 m_1 m_57 m_245) rfl rfl rfl (by decide +kernel) ⟨Nat.le_of_ble_eq_true rfl, Nat.le_of_ble_eq_true rfl⟩) rfl hl.1 rfl (Nat.le_of_ble_eq_true rfl) d_Reader_readSize_92 ⟨Nat.le_of_ble_eq_true rfl, Nat.le_of_ble_eq_true rfl⟩ (fun v48 L48 κ48 H locs hp48 hM hS => ?_)
              obtain ⟨rfl, rfl, hR48, hN48, hk48⟩ := hp48
              have hR48 : rds L κ48 ra ri 1 ra := hR48
              have hN48 : nds g L κ48 T cnt 2 := hN48
              have hB49 := bxs_keep hB (hk48 2 (by omega)) (hk48 3 (by omega)) rfl
              refine lv_goto (tgt := 161) hx hb d_Reader_readSize_95 (by decide) ?_
              exact mw_vret hx hb hr hM hS hlocks d_Reader_readSize_161 (by rw [show rSize b sz k nm left ra ri rf rp T cnt = ((ra : Int), (ri : Int), (1 : Int), (ra : Int), T, cnt) by unfold rSize; rw [if_neg (by omega), if_neg (by omega), if_pos (by omega)]]; exact ⟨rfl, rfl, hR48, hN48, fun r h => by rw [hk48 r (by omega)]⟩)
          · refine lv_aload_n hx hb d_Reader_readSize_66 rfl (lv_at hl 2 rfl) ?_
            refine lv_iconst (v := iI (2)) hx hb d_Reader_readSize_67 rfl ?_
            refine lv_aload_n hx hb d_Reader_readSize_68 rfl (lv_at hl 2 rfl) ?_
            refine mw_get (ci := 2) (i := 14) (v := .int (iI ra)) (C := R_Reader) (T := T_Reader) (N := 6) hx hb hts in_Reader hown hK hM hR rfl rfl 2 (by decide) (hts _ m_168) rfl d_Reader_readSize_69 ?_
            refine mw_callV (i := 14) (As := [.int (iI 2), .int (iI ra)]) (rest := []) ⟨hx, hb, hml, hown, hts⟩ hK hM hS rfl hR rfl (c_Reader_refuse l D g lo L κ T cnt hN mo n sz b hB ra ri rf rp hR (by omega) (by omega) 2 ra) (cwV 2 hts (gV m_242 m_244 m_1 m_57 m_245) rfl rfl rfl (by decide +kernel) ⟨Nat.le_of_ble_eq_true rfl, Nat.le_of_ble_eq_true rfl⟩) rfl hl.1 rfl (Nat.le_of_ble_eq_true rfl) d_Reader_readSize_72 ⟨Nat.le_of_ble_eq_true rfl, Nat.le_of_ble_eq_true rfl⟩ (fun v50 L50 κ50 H locs hp50 hM hS => ?_)
            obtain ⟨rfl, rfl, hR50, hN50, hk50⟩ := hp50
            have hR50 : rds L κ50 ra ri 2 ra := hR50
            have hN50 : nds g L κ50 T cnt 2 := hN50
            have hB51 := bxs_keep hB (hk50 2 (by omega)) (hk50 3 (by omega)) rfl
            refine lv_goto (tgt := 161) hx hb d_Reader_readSize_75 (by decide) ?_
            exact mw_vret hx hb hr hM hS hlocks d_Reader_readSize_161 (by rw [show rSize b sz k nm left ra ri rf rp T cnt = ((ra : Int), (ri : Int), (2 : Int), (ra : Int), T, cnt) by unfold rSize; rw [if_neg (by omega), if_pos (by omega)]]; exact ⟨rfl, rfl, hR50, hN50, fun r h => by rw [hk50 r (by omega)]⟩)
  · refine lv_aload_n hx hb d_Reader_readSize_5 rfl (lv_at hl 0 rfl) ?_
    refine lv_iconst (v := iI (1)) hx hb d_Reader_readSize_6 rfl ?_
    refine lv_aload_n hx hb d_Reader_readSize_7 rfl (lv_at hl 0 rfl) ?_
    refine mw_get (ci := 2) (i := 14) (v := .int (iI ra)) (C := R_Reader) (T := T_Reader) (N := 6) hx hb hts in_Reader hown hK hM hR rfl rfl 2 (by decide) (hts _ m_168) rfl d_Reader_readSize_8 ?_
    refine mw_callV (i := 14) (As := [.int (iI 1), .int (iI ra)]) (rest := []) ⟨hx, hb, hml, hown, hts⟩ hK hM hS rfl hR rfl (c_Reader_refuse l D g lo L κ T cnt hN mo n sz b hB ra ri rf rp hR (by omega) (by omega) 1 ra) (cwV 2 hts (gV m_242 m_244 m_1 m_57 m_245) rfl rfl rfl (by decide +kernel) ⟨Nat.le_of_ble_eq_true rfl, Nat.le_of_ble_eq_true rfl⟩) rfl hl.1 rfl (Nat.le_of_ble_eq_true rfl) d_Reader_readSize_11 ⟨Nat.le_of_ble_eq_true rfl, Nat.le_of_ble_eq_true rfl⟩ (fun v52 L52 κ52 H locs hp52 hM hS => ?_)
    obtain ⟨rfl, rfl, hR52, hN52, hk52⟩ := hp52
    have hR52 : rds L κ52 ra ri 1 ra := hR52
    have hN52 : nds g L κ52 T cnt 2 := hN52
    have hB53 := bxs_keep hB (hk52 2 (by omega)) (hk52 3 (by omega)) rfl
    exact mw_vret hx hb hr hM hS hlocks d_Reader_readSize_14 (by rw [show rSize b sz k nm left ra ri rf rp T cnt = ((ra : Int), (ri : Int), (1 : Int), (ra : Int), T, cnt) by unfold rSize; rw [if_pos (by omega)]]; exact ⟨rfl, rfl, hR52, hN52, fun r h => by rw [hk52 r (by omega)]⟩)
set_option maxHeartbeats 4000000 in
set_option maxRecDepth 100000 in
theorem c_Reader_readText (l : Launch) (D : va_G) (g : Nat → ClassId) (lo : Nat) (L : Nat → Nat) (κ : Nat → Option va_E) (T : Nat → Nat → Int) (cnt : Nat) (hN : nds g L κ T cnt 2) (mo n sz : Nat) (b : Nat → Int) (hB : bxs g L κ 2 3 mo n sz b) (ra ri rf rp : Int) (hR : rds L κ ra ri rf rp) (hra : 0 ≤ ra ∧ ra ≤ 100000) (hri : -1 ≤ ri ∧ ri ≤ 1000) (left : Int) (hle : -100000 ≤ left ∧ left ≤ 100000) : Met l y_Reader_readText w_Reader_readText ({ frames := 3, cells := 0, slots := 0, locals := 73 }) (mwP D vwCl (tyL g) lo L κ [.ref (L 14), .int (iI left)]) (mwQ D vwCl lo (rdQ g L κ (rText b sz left ra ri rf rp T cnt))) 0 0 (fun q => lo ≤ q) := by
  have hc0 := hN.2.2.1
  obtain ⟨hz1, hz2, hz3⟩ := hB.2.2.1
  refine Met.ofW (cc := b_Reader_readText) (maxL := 7) (ret := (Option.none : Option Jvm.ClassFile.FieldType)) (by decide) rfl ?_
  intro p e s m args below meth c s₁ B hml hpre
  obtain ⟨hargs, hM, hK⟩ := hpre
  have hx := B.exec
  have hb := B.bytes
  have hr := B.returns
  have hts : ∀ w ∈ wA, w.before args s = true := fun w h => atoms_spec (ws := w_Reader_readText) B.pre w (List.mem_cons_of_mem _ h)
  have hown : s.vm.findClass R_Reader = some m.cls := findClass_of_methodNamed B.named
  have hlocks := B.notSynchronized
  have hS : va_S (fun q => lo ≤ q) s.heap s.heap [] := va_S.rf
  obtain ⟨ls, hls, hl⟩ := mw_entry (m := m) [.ref (L 14), .int (iI left)] (n := 7) (Nat.le_of_ble_eq_true rfl) hargs
  refine W.eq hls ?_
  have hl : lv_has ls 7 [(0, .ref (L 14)), (1, .int (iI left))] := hl
  refine lv_iload_n hx hb d_Reader_readText_0 rfl (lv_at hl 1 rfl) ?_
  refine lv_iconst (v := iI (4)) hx hb d_Reader_readText_1 rfl ?_
  refine ia_icmp_ge (a := left) (b := 4) (tgt := 15) hx hb d_Reader_readText_2 (by decide) (by omega) (by omega) (fun c1 => ?_) (fun c1 => ?_)
  · refine lv_aload_n hx hb d_Reader_readText_15 rfl (lv_at hl 0 rfl) ?_
    refine mw_get (ci := 2) (i := 14) (v := .ref (L 2)) (C := R_Reader) (T := T_Reader) (N := 6) hx hb hts in_Reader hown hK hM hR rfl rfl 1 (by decide) (hts _ m_167) rfl d_Reader_readText_16 ?_
    refine lv_aload_n hx hb d_Reader_readText_19 rfl (lv_at hl 0 rfl) ?_
    refine mw_get (ci := 2) (i := 14) (v := .int (iI ra)) (C := R_Reader) (T := T_Reader) (N := 6) hx hb hts in_Reader hown hK hM hR rfl rfl 2 (by decide) (hts _ m_168) rfl d_Reader_readText_20 ?_
    refine lv_iconst (v := iI (4)) hx hb d_Reader_readText_23 rfl ?_
    refine mw_rdV (i := 2) (As := [.int (iI ra), .int (iI 4)]) (rest := []) ⟨hx, hb, hml, hown, hts⟩ hK hM hS rfl hB.1 rfl (c_Bytes_numberAt l D g lo L κ 2 3 mo n sz b hB ra 4 (by omega) (by omega)) (cwV 2 hts (gV m_246 m_247 m_248 m_52 m_249) rfl rfl rfl (by decide +kernel) ⟨Nat.le_of_ble_eq_true rfl, Nat.le_of_ble_eq_true rfl⟩) rfl hl.1 rfl (Nat.le_of_ble_eq_true rfl) d_Reader_readText_24 ⟨Nat.le_of_ble_eq_true rfl, Nat.le_of_ble_eq_true rfl⟩ (fun H locs hM hS => ?_)
    have r2 := bNum4_r b sz ra
    refine lv_lstore_n (lv' := [(2, .long (lI (bNum b sz ra 3 0))), (0, .ref (L 14)), (1, .int (iI left))]) hx hb d_Reader_readText_27 rfl hl (by decide) rfl (fun ls hl => ?_)
    refine lv_lload_n hx hb d_Reader_readText_28 rfl (lv_at hl 0 rfl) ?_
    refine lv_lconst (v := lI (1)) hx hb d_Reader_readText_29 (by decide) ?_
    refine ia_lcmp (a := bNum b sz ra 3 0) (b := 1) hx hb (by omega) (by omega) d_Reader_readText_30 ?_
    have r3 := cmpI_s (bNum b sz ra 3 0) 1
    refine ia_if_lt (a := cmpI (bNum b sz ra 3 0) 1) (tgt := 43) hx hb d_Reader_readText_31 (by decide) (by omega) (fun c4 => ?_) (fun c4 => ?_)
    · refine lv_aload_n hx hb d_Reader_readText_43 rfl (lv_at hl 1 rfl) ?_
      refine lv_lload_n hx hb d_Reader_readText_44 rfl (lv_at hl 0 rfl) ?_
      refine lv_lconst (v := lI (1)) hx hb d_Reader_readText_45 (by decide) ?_
      refine ia_lcmp (a := bNum b sz ra 3 0) (b := 1) hx hb (by omega) (by omega) d_Reader_readText_46 ?_
      have r5 := cmpI_s (bNum b sz ra 3 0) 1
      refine ia_if_ge (a := cmpI (bNum b sz ra 3 0) 1) (tgt := 55) hx hb d_Reader_readText_47 (by decide) (by omega) (fun c6 => ?_) (fun c6 => ?_)
      · refine lv_iconst (v := iI (1)) hx hb d_Reader_readText_55 rfl ?_
        refine lv_aload_n hx hb d_Reader_readText_56 rfl (lv_at hl 1 rfl) ?_
        refine mw_get (ci := 2) (i := 14) (v := .int (iI ra)) (C := R_Reader) (T := T_Reader) (N := 6) hx hb hts in_Reader hown hK hM hR rfl rfl 2 (by decide) (hts _ m_168) rfl d_Reader_readText_57 ?_
        refine mw_callV (i := 14) (As := [.int (iI 1), .int (iI ra)]) (rest := []) ⟨hx, hb, hml, hown, hts⟩ hK hM hS rfl hR rfl (c_Reader_refuse l D g lo L κ T cnt hN mo n sz b hB ra ri rf rp hR (by omega) (by omega) 1 ra) (cwV 2 hts (gV m_242 m_244 m_1 m_57 m_245) rfl rfl rfl (by decide +kernel) ⟨Nat.le_of_ble_eq_true rfl, Nat.le_of_ble_eq_true rfl⟩) rfl hl.1 rfl (Nat.le_of_ble_eq_true rfl) d_Reader_readText_60 ⟨Nat.le_of_ble_eq_true rfl, Nat.le_of_ble_eq_true rfl⟩ (fun v7 L7 κ7 H locs hp7 hM hS => ?_)
        obtain ⟨rfl, rfl, hR7, hN7, hk7⟩ := hp7
        have hR7 : rds L κ7 ra ri 1 ra := hR7
        have hN7 : nds g L κ7 T cnt 2 := hN7
        have hB8 := bxs_keep hB (hk7 2 (by omega)) (hk7 3 (by omega)) rfl
        exact mw_vret hx hb hr hM hS hlocks d_Reader_readText_63 (by rw [show rText b sz left ra ri rf rp T cnt = ((ra : Int), (ri : Int), (1 : Int), (ra : Int), T, cnt) by unfold rText; rw [if_neg (by omega), if_neg (by omega), if_pos (by omega)]]; exact ⟨rfl, rfl, hR7, hN7, fun r h => by rw [hk7 r (by omega)]⟩)
      · refine lv_bipush (v := iI (6)) hx hb d_Reader_readText_50 (by decide) ?_
        refine lv_goto (tgt := 56) hx hb d_Reader_readText_52 (by decide) ?_
        refine lv_aload_n hx hb d_Reader_readText_56 rfl (lv_at hl 1 rfl) ?_
        refine mw_get (ci := 2) (i := 14) (v := .int (iI ra)) (C := R_Reader) (T := T_Reader) (N := 6) hx hb hts in_Reader hown hK hM hR rfl rfl 2 (by decide) (hts _ m_168) rfl d_Reader_readText_57 ?_
        refine mw_callV (i := 14) (As := [.int (iI 6), .int (iI ra)]) (rest := []) ⟨hx, hb, hml, hown, hts⟩ hK hM hS rfl hR rfl (c_Reader_refuse l D g lo L κ T cnt hN mo n sz b hB ra ri rf rp hR (by omega) (by omega) 6 ra) (cwV 2 hts (gV m_242 m_244 m_1 m_57 m_245) rfl rfl rfl (by decide +kernel) ⟨Nat.le_of_ble_eq_true rfl, Nat.le_of_ble_eq_true rfl⟩) rfl hl.1 rfl (Nat.le_of_ble_eq_true rfl) d_Reader_readText_60 ⟨Nat.le_of_ble_eq_true rfl, Nat.le_of_ble_eq_true rfl⟩ (fun v9 L9 κ9 H locs hp9 hM hS => ?_)
        obtain ⟨rfl, rfl, hR9, hN9, hk9⟩ := hp9
        have hR9 : rds L κ9 ra ri 6 ra := hR9
        have hN9 : nds g L κ9 T cnt 2 := hN9
        have hB10 := bxs_keep hB (hk9 2 (by omega)) (hk9 3 (by omega)) rfl
        exact mw_vret hx hb hr hM hS hlocks d_Reader_readText_63 (by rw [show rText b sz left ra ri rf rp T cnt = ((ra : Int), (ri : Int), (6 : Int), (ra : Int), T, cnt) by unfold rText; rw [if_neg (by omega), if_pos (by omega)]]; exact ⟨rfl, rfl, hR9, hN9, fun r h => by rw [hk9 r (by omega)]⟩)
    · refine lv_lload_n hx hb d_Reader_readText_34 rfl (lv_at hl 0 rfl) ?_
      refine lv_iload_n hx hb d_Reader_readText_35 rfl (lv_at hl 2 rfl) ?_
      refine lv_iconst (v := iI (4)) hx hb d_Reader_readText_36 rfl ?_
      refine ia_sub hx hb d_Reader_readText_37 ?_
      refine ia_i2l hx hb (by omega) d_Reader_readText_38 ?_
      refine ia_lcmp (a := bNum b sz ra 3 0) (b := left - 4) hx hb (by omega) (by omega) d_Reader_readText_39 ?_
      have r11 := cmpI_s (bNum b sz ra 3 0) (left - 4)
      refine ia_if_le (a := cmpI (bNum b sz ra 3 0) (left - 4)) (tgt := 64) hx hb d_Reader_readText_40 (by decide) (by omega) (fun c12 => ?_) (fun c12 => ?_)
      · refine lv_aload_n hx hb d_Reader_readText_64 rfl (lv_at hl 1 rfl) ?_
        refine mw_get (ci := 2) (i := 14) (v := .int (iI ra)) (C := R_Reader) (T := T_Reader) (N := 6) hx hb hts in_Reader hown hK hM hR rfl rfl 2 (by decide) (hts _ m_168) rfl d_Reader_readText_65 ?_
        refine lv_iconst (v := iI (4)) hx hb d_Reader_readText_68 rfl ?_
        refine ia_add hx hb d_Reader_readText_69 ?_
        refine lv_istore (lv' := [(4, .int (iI (ra + 4))), (2, .long (lI (bNum b sz ra 3 0))), (0, .ref (L 14)), (1, .int (iI left))]) hx hb d_Reader_readText_70 hl (by decide) rfl (fun ls hl => ?_)
        refine lv_iload hx hb d_Reader_readText_72 (lv_at hl 0 rfl) ?_
        refine lv_lload_n hx hb d_Reader_readText_74 rfl (lv_at hl 1 rfl) ?_
        refine ia_l2i hx hb d_Reader_readText_75 ?_
        refine ia_add hx hb d_Reader_readText_76 ?_
        refine lv_iconst (v := iI (1)) hx hb d_Reader_readText_77 rfl ?_
        refine ia_sub hx hb d_Reader_readText_78 ?_
        refine lv_istore (lv' := [(5, .int (iI (((ra + 4) + (bNum b sz ra 3 0)) - 1))), (4, .int (iI (ra + 4))), (2, .long (lI (bNum b sz ra 3 0))), (0, .ref (L 14)), (1, .int (iI left))]) hx hb d_Reader_readText_79 hl (by decide) rfl (fun ls hl => ?_)
        refine lv_aload_n hx hb d_Reader_readText_81 rfl (lv_at hl 3 rfl) ?_
        refine mw_get (ci := 2) (i := 14) (v := .ref (L 2)) (C := R_Reader) (T := T_Reader) (N := 6) hx hb hts in_Reader hown hK hM hR rfl rfl 1 (by decide) (hts _ m_167) rfl d_Reader_readText_82 ?_
        refine lv_iload hx hb d_Reader_readText_85 (lv_at hl 0 rfl) ?_
        refine mw_rdV (i := 2) (As := [.int (iI (((ra + 4) + (bNum b sz ra 3 0)) - 1))]) (rest := []) ⟨hx, hb, hml, hown, hts⟩ hK hM hS rfl hB.1 rfl (c_Bytes_get l D g lo L κ 2 3 mo n sz b hB (((ra + 4) + (bNum b sz ra 3 0)) - 1) (by omega)) (cwV 1 hts (gV m_278 m_251 m_252 m_52 m_253) rfl rfl rfl (by decide +kernel) ⟨Nat.le_of_ble_eq_true rfl, Nat.le_of_ble_eq_true rfl⟩) rfl hl.1 rfl (Nat.le_of_ble_eq_true rfl) d_Reader_readText_87 ⟨Nat.le_of_ble_eq_true rfl, Nat.le_of_ble_eq_true rfl⟩ (fun H locs hM hS => ?_)
        have r13 := bGet_r (sz := sz) hB.2.2.2.1 (((ra + 4) + (bNum b sz ra 3 0)) - 1)
        refine ia_if_eq (a := bGet b sz (((ra + 4) + (bNum b sz ra 3 0)) - 1)) (tgt := 102) hx hb d_Reader_readText_90 (by decide) (by omega) (fun c14 => ?_) (fun c14 => ?_)
        · refine lv_aload_n hx hb d_Reader_readText_102 rfl (lv_at hl 3 rfl) ?_
          refine mw_get (ci := 2) (i := 14) (v := .ref (L 2)) (C := R_Reader) (T := T_Reader) (N := 6) hx hb hts in_Reader hown hK hM hR rfl rfl 1 (by decide) (hts _ m_167) rfl d_Reader_readText_103 ?_
          refine lv_iload hx hb d_Reader_readText_106 (lv_at hl 1 rfl) ?_
          refine lv_iload hx hb d_Reader_readText_108 (lv_at hl 0 rfl) ?_
          refine mw_rdS (As := [.ref (L 2), .int (iI (ra + 4)), .int (iI (((ra + 4) + (bNum b sz ra 3 0)) - 1))]) (rest := []) ⟨hx, hb, hml, hown, hts⟩ hK hM hS (c_Utf8_firstWrong l D g lo L κ 2 3 mo n sz b hB (ra + 4) (((ra + 4) + (bNum b sz ra 3 0)) - 1) (by omega) (by omega)) (va_cwS 3 hts (gT m_302 m_303 m_60 m_304) rfl rfl rfl (by decide +kernel) ⟨Nat.le_of_ble_eq_true rfl, Nat.le_of_ble_eq_true rfl⟩) rfl hl.1 rfl (Nat.le_of_ble_eq_true rfl) d_Reader_readText_110 ⟨Nat.le_of_ble_eq_true rfl, Nat.le_of_ble_eq_true rfl⟩ (fun H locs hM hS => ?_)
          have r15 := uWrong_r b sz (ra + 4) (((ra + 4) + (bNum b sz ra 3 0)) - 1)
          refine lv_istore (lv' := [(6, .int (iI (uWrong b sz (ra + 4) (((ra + 4) + (bNum b sz ra 3 0)) - 1)))), (5, .int (iI (((ra + 4) + (bNum b sz ra 3 0)) - 1))), (4, .int (iI (ra + 4))), (2, .long (lI (bNum b sz ra 3 0))), (0, .ref (L 14)), (1, .int (iI left))]) hx hb d_Reader_readText_113 hl (by decide) rfl (fun ls hl => ?_)
          refine lv_iload hx hb d_Reader_readText_115 (lv_at hl 0 rfl) ?_
          refine lv_iconst (v := iI (-1)) hx hb d_Reader_readText_117 rfl ?_
          refine ia_icmp_eq (a := uWrong b sz (ra + 4) (((ra + 4) + (bNum b sz ra 3 0)) - 1)) (b := -1) (tgt := 131) hx hb d_Reader_readText_118 (by decide) (by omega) (by omega) (fun c16 => ?_) (fun c16 => ?_)
          · refine lv_aload_n hx hb d_Reader_readText_131 rfl (lv_at hl 4 rfl) ?_
            refine lv_iload hx hb d_Reader_readText_132 (lv_at hl 1 rfl) ?_
            refine lv_iconst (v := iI (1)) hx hb d_Reader_readText_134 rfl ?_
            refine ia_add hx hb d_Reader_readText_135 ?_
            refine mw_put (ci := 2) (i := 14) (v := .int (iI ((((ra + 4) + (bNum b sz ra 3 0)) - 1) + 1))) (C := R_Reader) (T := T_Reader) (N := 6) hx hb hts in_Reader ty_Reader ty_Reader_ok nm_Reader hown hK hM hS hR rfl rfl 2 (by decide) (hts _ m_168) rfl (ty_Reader_ok 2 (by decide)) rfl rfl (Nat.le_of_ble_eq_true rfl) d_Reader_readText_136 (fun κ17 H locs e17 hk17 hM hS => ?_)
            have e17 : κ17 14 = some (.inr (2, [.ref (L 6), .ref (L 2), .int (iI ((((ra + 4) + (bNum b sz ra 3 0)) - 1) + 1)), .int (iI ri), .int (iI rf), .int (iI rp)])) := e17
            have hN18 := nds_keep hN (fun r h1 h2 => hk17 r (by omega)) (fun r h1 h2 => rfl) rfl
            have hB19 := bxs_keep hB (hk17 2 (by omega)) (hk17 3 (by omega)) rfl
            exact mw_vret hx hb hr hM hS hlocks d_Reader_readText_139 (by rw [show rText b sz left ra ri rf rp T cnt = (((((ra + 4) + (bNum b sz ra 3 0)) - 1) + 1 : Int), (ri : Int), (rf : Int), (rp : Int), T, cnt) by unfold rText; rw [if_neg (by omega), if_neg (by omega), if_neg (by omega), if_neg (by omega), if_neg (by omega)]]; exact ⟨rfl, rfl, e17, hN18, fun r h => by rw [hk17 r (by omega)]⟩)
          · refine lv_aload_n hx hb d_Reader_readText_121 rfl (lv_at hl 4 rfl) ?_
            refine lv_iconst (v := iI (4)) hx hb d_Reader_readText_122 rfl ?_
            refine lv_iload hx hb d_Reader_readText_123 (lv_at hl 0 rfl) ?_
            refine mw_callV (i := 14) (As := [.int (iI 4), .int (iI (uWrong b sz (ra + 4) (((ra + 4) + (bNum b sz ra 3 0)) - 1)))]) (rest := []) ⟨hx, hb, hml, hown, hts⟩ hK hM hS rfl hR rfl (c_Reader_refuse l D g lo L κ T cnt hN mo n sz b hB ra ri rf rp hR (by omega) (by omega) 4 (uWrong b sz (ra + 4) (((ra + 4) + (bNum b sz ra 3 0)) - 1))) (cwV 2 hts (gV m_242 m_244 m_1 m_57 m_245) rfl rfl rfl (by decide +kernel) ⟨Nat.le_of_ble_eq_true rfl, Nat.le_of_ble_eq_true rfl⟩) rfl hl.1 rfl (Nat.le_of_ble_eq_true rfl) d_Reader_readText_125 ⟨Nat.le_of_ble_eq_true rfl, Nat.le_of_ble_eq_true rfl⟩ (fun v20 L20 κ20 H locs hp20 hM hS => ?_)
            obtain ⟨rfl, rfl, hR20, hN20, hk20⟩ := hp20
            have hR20 : rds L κ20 ra ri 4 (uWrong b sz (ra + 4) (((ra + 4) + (bNum b sz ra 3 0)) - 1)) := hR20
            have hN20 : nds g L κ20 T cnt 2 := hN20
            have hB21 := bxs_keep hB (hk20 2 (by omega)) (hk20 3 (by omega)) rfl
            refine lv_goto (tgt := 139) hx hb d_Reader_readText_128 (by decide) ?_
            exact mw_vret hx hb hr hM hS hlocks d_Reader_readText_139 (by rw [show rText b sz left ra ri rf rp T cnt = ((ra : Int), (ri : Int), (4 : Int), (uWrong b sz (ra + 4) (((ra + 4) + (bNum b sz ra 3 0)) - 1) : Int), T, cnt) by unfold rText; rw [if_neg (by omega), if_neg (by omega), if_neg (by omega), if_neg (by omega), if_pos (by omega)]]; exact ⟨rfl, rfl, hR20, hN20, fun r h => by rw [hk20 r (by omega)]⟩)
        · refine lv_aload_n hx hb d_Reader_readText_93 rfl (lv_at hl 3 rfl) ?_
          refine lv_bipush (v := iI (6)) hx hb d_Reader_readText_94 (by decide) ?_
          refine lv_iload hx hb d_Reader_readText_96 (lv_at hl 0 rfl) ?_
          refine mw_callV (i := 14) (As := [.int (iI 6), .int (iI (((ra + 4) + (bNum b sz ra 3 0)) - 1))]) (rest := []) ⟨hx, hb, hml, hown, hts⟩ hK hM hS rfl hR rfl (c_Reader_refuse l D g lo L κ T cnt hN mo n sz b hB ra ri rf rp hR (by omega) (by omega) 6 (((ra + 4) + (bNum b sz ra 3 0)) - 1)) (cwV 2 hts (gV m_242 m_244 m_1 m_57 m_245) rfl rfl rfl (by decide +kernel) ⟨Nat.le_of_ble_eq_true rfl, Nat.le_of_ble_eq_true rfl⟩) rfl hl.1 rfl (Nat.le_of_ble_eq_true rfl) d_Reader_readText_98 ⟨Nat.le_of_ble_eq_true rfl, Nat.le_of_ble_eq_true rfl⟩ (fun v22 L22 κ22 H locs hp22 hM hS => ?_)
          obtain ⟨rfl, rfl, hR22, hN22, hk22⟩ := hp22
          have hR22 : rds L κ22 ra ri 6 (((ra + 4) + (bNum b sz ra 3 0)) - 1) := hR22
          have hN22 : nds g L κ22 T cnt 2 := hN22
          have hB23 := bxs_keep hB (hk22 2 (by omega)) (hk22 3 (by omega)) rfl
          exact mw_vret hx hb hr hM hS hlocks d_Reader_readText_101 (by rw [show rText b sz left ra ri rf rp T cnt = ((ra : Int), (ri : Int), (6 : Int), (((ra + 4) + (bNum b sz ra 3 0)) - 1 : Int), T, cnt) by unfold rText; rw [if_neg (by omega), if_neg (by omega), if_neg (by omega), if_pos (by omega)]]; exact ⟨rfl, rfl, hR22, hN22, fun r h => by rw [hk22 r (by omega)]⟩)
      · refine lv_aload_n hx hb d_Reader_readText_43 rfl (lv_at hl 1 rfl) ?_
        refine lv_lload_n hx hb d_Reader_readText_44 rfl (lv_at hl 0 rfl) ?_
        refine lv_lconst (v := lI (1)) hx hb d_Reader_readText_45 (by decide) ?_
        refine ia_lcmp (a := bNum b sz ra 3 0) (b := 1) hx hb (by omega) (by omega) d_Reader_readText_46 ?_
        have r24 := cmpI_s (bNum b sz ra 3 0) 1
        refine ia_if_ge (a := cmpI (bNum b sz ra 3 0) 1) (tgt := 55) hx hb d_Reader_readText_47 (by decide) (by omega) (fun c25 => ?_) (fun c25 => ?_)
        · refine lv_iconst (v := iI (1)) hx hb d_Reader_readText_55 rfl ?_
          refine lv_aload_n hx hb d_Reader_readText_56 rfl (lv_at hl 1 rfl) ?_
          refine mw_get (ci := 2) (i := 14) (v := .int (iI ra)) (C := R_Reader) (T := T_Reader) (N := 6) hx hb hts in_Reader hown hK hM hR rfl rfl 2 (by decide) (hts _ m_168) rfl d_Reader_readText_57 ?_
          refine mw_callV (i := 14) (As := [.int (iI 1), .int (iI ra)]) (rest := []) ⟨hx, hb, hml, hown, hts⟩ hK hM hS rfl hR rfl (c_Reader_refuse l D g lo L κ T cnt hN mo n sz b hB ra ri rf rp hR (by omega) (by omega) 1 ra) (cwV 2 hts (gV m_242 m_244 m_1 m_57 m_245) rfl rfl rfl (by decide +kernel) ⟨Nat.le_of_ble_eq_true rfl, Nat.le_of_ble_eq_true rfl⟩) rfl hl.1 rfl (Nat.le_of_ble_eq_true rfl) d_Reader_readText_60 ⟨Nat.le_of_ble_eq_true rfl, Nat.le_of_ble_eq_true rfl⟩ (fun v26 L26 κ26 H locs hp26 hM hS => ?_)
          obtain ⟨rfl, rfl, hR26, hN26, hk26⟩ := hp26
          have hR26 : rds L κ26 ra ri 1 ra := hR26
          have hN26 : nds g L κ26 T cnt 2 := hN26
          have hB27 := bxs_keep hB (hk26 2 (by omega)) (hk26 3 (by omega)) rfl
          exact mw_vret hx hb hr hM hS hlocks d_Reader_readText_63 (by rw [show rText b sz left ra ri rf rp T cnt = ((ra : Int), (ri : Int), (1 : Int), (ra : Int), T, cnt) by unfold rText; rw [if_neg (by omega), if_neg (by omega), if_pos (by omega)]]; exact ⟨rfl, rfl, hR26, hN26, fun r h => by rw [hk26 r (by omega)]⟩)
        · refine lv_bipush (v := iI (6)) hx hb d_Reader_readText_50 (by decide) ?_
          refine lv_goto (tgt := 56) hx hb d_Reader_readText_52 (by decide) ?_
          refine lv_aload_n hx hb d_Reader_readText_56 rfl (lv_at hl 1 rfl) ?_
          refine mw_get (ci := 2) (i := 14) (v := .int (iI ra)) (C := R_Reader) (T := T_Reader) (N := 6) hx hb hts in_Reader hown hK hM hR rfl rfl 2 (by decide) (hts _ m_168) rfl d_Reader_readText_57 ?_
          refine mw_callV (i := 14) (As := [.int (iI 6), .int (iI ra)]) (rest := []) ⟨hx, hb, hml, hown, hts⟩ hK hM hS rfl hR rfl (c_Reader_refuse l D g lo L κ T cnt hN mo n sz b hB ra ri rf rp hR (by omega) (by omega) 6 ra) (cwV 2 hts (gV m_242 m_244 m_1 m_57 m_245) rfl rfl rfl (by decide +kernel) ⟨Nat.le_of_ble_eq_true rfl, Nat.le_of_ble_eq_true rfl⟩) rfl hl.1 rfl (Nat.le_of_ble_eq_true rfl) d_Reader_readText_60 ⟨Nat.le_of_ble_eq_true rfl, Nat.le_of_ble_eq_true rfl⟩ (fun v28 L28 κ28 H locs hp28 hM hS => ?_)
          obtain ⟨rfl, rfl, hR28, hN28, hk28⟩ := hp28
          have hR28 : rds L κ28 ra ri 6 ra := hR28
          have hN28 : nds g L κ28 T cnt 2 := hN28
          have hB29 := bxs_keep hB (hk28 2 (by omega)) (hk28 3 (by omega)) rfl
          exact mw_vret hx hb hr hM hS hlocks d_Reader_readText_63 (by rw [show rText b sz left ra ri rf rp T cnt = ((ra : Int), (ri : Int), (6 : Int), (ra : Int), T, cnt) by unfold rText; rw [if_neg (by omega), if_pos (by omega)]]; exact ⟨rfl, rfl, hR28, hN28, fun r h => by rw [hk28 r (by omega)]⟩)
  · refine lv_aload_n hx hb d_Reader_readText_5 rfl (lv_at hl 0 rfl) ?_
    refine lv_iconst (v := iI (1)) hx hb d_Reader_readText_6 rfl ?_
    refine lv_aload_n hx hb d_Reader_readText_7 rfl (lv_at hl 0 rfl) ?_
    refine mw_get (ci := 2) (i := 14) (v := .int (iI ra)) (C := R_Reader) (T := T_Reader) (N := 6) hx hb hts in_Reader hown hK hM hR rfl rfl 2 (by decide) (hts _ m_168) rfl d_Reader_readText_8 ?_
    refine mw_callV (i := 14) (As := [.int (iI 1), .int (iI ra)]) (rest := []) ⟨hx, hb, hml, hown, hts⟩ hK hM hS rfl hR rfl (c_Reader_refuse l D g lo L κ T cnt hN mo n sz b hB ra ri rf rp hR (by omega) (by omega) 1 ra) (cwV 2 hts (gV m_242 m_244 m_1 m_57 m_245) rfl rfl rfl (by decide +kernel) ⟨Nat.le_of_ble_eq_true rfl, Nat.le_of_ble_eq_true rfl⟩) rfl hl.1 rfl (Nat.le_of_ble_eq_true rfl) d_Reader_readText_11 ⟨Nat.le_of_ble_eq_true rfl, Nat.le_of_ble_eq_true rfl⟩ (fun v30 L30 κ30 H locs hp30 hM hS => ?_)
    obtain ⟨rfl, rfl, hR30, hN30, hk30⟩ := hp30
    have hR30 : rds L κ30 ra ri 1 ra := hR30
    have hN30 : nds g L κ30 T cnt 2 := hN30
    have hB31 := bxs_keep hB (hk30 2 (by omega)) (hk30 3 (by omega)) rfl
    exact mw_vret hx hb hr hM hS hlocks d_Reader_readText_14 (by rw [show rText b sz left ra ri rf rp T cnt = ((ra : Int), (ri : Int), (1 : Int), (ra : Int), T, cnt) by unfold rText; rw [if_pos (by omega)]]; exact ⟨rfl, rfl, hR30, hN30, fun r h => by rw [hk30 r (by omega)]⟩)
set_option maxHeartbeats 4000000 in
set_option maxRecDepth 100000 in
theorem c_Reader_readNumber (l : Launch) (D : va_G) (g : Nat → ClassId) (lo : Nat) (L : Nat → Nat) (κ : Nat → Option va_E) (T : Nat → Nat → Int) (cnt : Nat) (hN : nds g L κ T cnt 2) (mo n sz : Nat) (b : Nat → Int) (hB : bxs g L κ 2 3 mo n sz b) (ra ri rf rp : Int) (hR : rds L κ ra ri rf rp) (hra : 0 ≤ ra ∧ ra ≤ 100000) (hri : -1 ≤ ri ∧ ri ≤ 1000) (k left : Int) (hk0 : -1000 ≤ k ∧ k ≤ 1000) (hle : -100000 ≤ left ∧ left ≤ 100000) : Met l y_Reader_readNumber w_Reader_readNumber ({ frames := 1, cells := 0, slots := 0, locals := 22 }) (mwP D vwCl (tyL g) lo L κ [.ref (L 14), .int (iI k), .int (iI left)]) (mwQ D vwCl lo (rdQ g L κ (rNum b sz k left ra ri rf rp T cnt))) 0 0 (fun q => lo ≤ q) := by
  have hc0 := hN.2.2.1
  obtain ⟨hz1, hz2, hz3⟩ := hB.2.2.1
  refine Met.ofW (cc := b_Reader_readNumber) (maxL := 4) (ret := (Option.none : Option Jvm.ClassFile.FieldType)) (by decide) rfl ?_
  intro p e s m args below meth c s₁ B hml hpre
  obtain ⟨hargs, hM, hK⟩ := hpre
  have hx := B.exec
  have hb := B.bytes
  have hr := B.returns
  have hts : ∀ w ∈ wA, w.before args s = true := fun w h => atoms_spec (ws := w_Reader_readNumber) B.pre w (List.mem_cons_of_mem _ h)
  have hown : s.vm.findClass R_Reader = some m.cls := findClass_of_methodNamed B.named
  have hlocks := B.notSynchronized
  have hS : va_S (fun q => lo ≤ q) s.heap s.heap [] := va_S.rf
  obtain ⟨ls, hls, hl⟩ := mw_entry (m := m) [.ref (L 14), .int (iI k), .int (iI left)] (n := 4) (Nat.le_of_ble_eq_true rfl) hargs
  refine W.eq hls ?_
  have hl : lv_has ls 4 [(0, .ref (L 14)), (1, .int (iI k)), (2, .int (iI left))] := hl
  refine lv_iload_n hx hb d_Reader_readNumber_0 rfl (lv_at hl 1 rfl) ?_
  refine mw_rdS (As := [.int (iI k)]) (rest := []) ⟨hx, hb, hml, hown, hts⟩ hK hM hS (c_Kinds_width l D g lo L κ k (by omega)) (va_cwS 1 hts (gT m_353 m_292 m_59 m_293) rfl rfl rfl (by decide +kernel) ⟨Nat.le_of_ble_eq_true rfl, Nat.le_of_ble_eq_true rfl⟩) rfl hl.1 rfl (Nat.le_of_ble_eq_true rfl) d_Reader_readNumber_1 ⟨Nat.le_of_ble_eq_true rfl, Nat.le_of_ble_eq_true rfl⟩ (fun H locs hM hS => ?_)
  have r1 := kWidth_r k
  refine lv_istore_n (lv' := [(3, .int (iI (kWidth k))), (0, .ref (L 14)), (1, .int (iI k)), (2, .int (iI left))]) hx hb d_Reader_readNumber_4 rfl hl (by decide) rfl (fun ls hl => ?_)
  refine lv_iload_n hx hb d_Reader_readNumber_5 rfl (lv_at hl 3 rfl) ?_
  refine lv_iload_n hx hb d_Reader_readNumber_6 rfl (lv_at hl 0 rfl) ?_
  refine ia_icmp_ge (a := left) (b := kWidth k) (tgt := 22) hx hb d_Reader_readNumber_7 (by decide) (by omega) (by omega) (fun c2 => ?_) (fun c2 => ?_)
  · refine lv_iload_n hx hb d_Reader_readNumber_22 rfl (lv_at hl 2 rfl) ?_
    refine lv_bipush (v := iI (8)) hx hb d_Reader_readNumber_23 (by decide) ?_
    refine ia_icmp_ne (a := k) (b := 8) (tgt := 55) hx hb d_Reader_readNumber_25 (by decide) (by omega) (by omega) (fun c3 => ?_) (fun c3 => ?_)
    · refine lv_aload_n hx hb d_Reader_readNumber_55 rfl (lv_at hl 1 rfl) ?_
      refine lv_dup hx hb d_Reader_readNumber_56 rfl ?_
      refine mw_get (ci := 2) (i := 14) (v := .int (iI ra)) (C := R_Reader) (T := T_Reader) (N := 6) hx hb hts in_Reader hown hK hM hR rfl rfl 2 (by decide) (hts _ m_168) rfl d_Reader_readNumber_57 ?_
      refine lv_iload_n hx hb d_Reader_readNumber_60 rfl (lv_at hl 0 rfl) ?_
      refine ia_add hx hb d_Reader_readNumber_61 ?_
      refine mw_put (ci := 2) (i := 14) (v := .int (iI (ra + (kWidth k)))) (C := R_Reader) (T := T_Reader) (N := 6) hx hb hts in_Reader ty_Reader ty_Reader_ok nm_Reader hown hK hM hS hR rfl rfl 2 (by decide) (hts _ m_168) rfl (ty_Reader_ok 2 (by decide)) rfl rfl (Nat.le_of_ble_eq_true rfl) d_Reader_readNumber_62 (fun κ4 H locs e4 hk4 hM hS => ?_)
      have e4 : κ4 14 = some (.inr (2, [.ref (L 6), .ref (L 2), .int (iI (ra + (kWidth k))), .int (iI ri), .int (iI rf), .int (iI rp)])) := e4
      have hN5 := nds_keep hN (fun r h1 h2 => hk4 r (by omega)) (fun r h1 h2 => rfl) rfl
      have hB6 := bxs_keep hB (hk4 2 (by omega)) (hk4 3 (by omega)) rfl
      exact mw_vret hx hb hr hM hS hlocks d_Reader_readNumber_65 (by rw [show rNum b sz k left ra ri rf rp T cnt = ((ra + (kWidth k) : Int), (ri : Int), (rf : Int), (rp : Int), T, cnt) by unfold rNum; rw [if_neg (by omega), if_neg (by omega)]]; exact ⟨rfl, rfl, e4, hN5, fun r h => by rw [hk4 r (by omega)]⟩)
    · refine lv_aload_n hx hb d_Reader_readNumber_28 rfl (lv_at hl 1 rfl) ?_
      refine mw_get (ci := 2) (i := 14) (v := .ref (L 2)) (C := R_Reader) (T := T_Reader) (N := 6) hx hb hts in_Reader hown hK hM hR rfl rfl 1 (by decide) (hts _ m_167) rfl d_Reader_readNumber_29 ?_
      refine lv_aload_n hx hb d_Reader_readNumber_32 rfl (lv_at hl 1 rfl) ?_
      refine mw_get (ci := 2) (i := 14) (v := .int (iI ra)) (C := R_Reader) (T := T_Reader) (N := 6) hx hb hts in_Reader hown hK hM hR rfl rfl 2 (by decide) (hts _ m_168) rfl d_Reader_readNumber_33 ?_
      refine mw_rdV (i := 2) (As := [.int (iI ra)]) (rest := []) ⟨hx, hb, hml, hown, hts⟩ hK hM hS rfl hB.1 rfl (c_Bytes_get l D g lo L κ 2 3 mo n sz b hB ra (by omega)) (cwV 1 hts (gV m_278 m_251 m_252 m_52 m_253) rfl rfl rfl (by decide +kernel) ⟨Nat.le_of_ble_eq_true rfl, Nat.le_of_ble_eq_true rfl⟩) rfl hl.1 rfl (Nat.le_of_ble_eq_true rfl) d_Reader_readNumber_36 ⟨Nat.le_of_ble_eq_true rfl, Nat.le_of_ble_eq_true rfl⟩ (fun H locs hM hS => ?_)
      have r7 := bGet_r (sz := sz) hB.2.2.2.1 ra
      refine lv_iconst (v := iI (1)) hx hb d_Reader_readNumber_39 rfl ?_
      refine ia_icmp_le (a := bGet b sz ra) (b := 1) (tgt := 55) hx hb d_Reader_readNumber_40 (by decide) (by omega) (by omega) (fun c8 => ?_) (fun c8 => ?_)
      · refine lv_aload_n hx hb d_Reader_readNumber_55 rfl (lv_at hl 1 rfl) ?_
        refine lv_dup hx hb d_Reader_readNumber_56 rfl ?_
        refine mw_get (ci := 2) (i := 14) (v := .int (iI ra)) (C := R_Reader) (T := T_Reader) (N := 6) hx hb hts in_Reader hown hK hM hR rfl rfl 2 (by decide) (hts _ m_168) rfl d_Reader_readNumber_57 ?_
        refine lv_iload_n hx hb d_Reader_readNumber_60 rfl (lv_at hl 0 rfl) ?_
        refine ia_add hx hb d_Reader_readNumber_61 ?_
        refine mw_put (ci := 2) (i := 14) (v := .int (iI (ra + (kWidth k)))) (C := R_Reader) (T := T_Reader) (N := 6) hx hb hts in_Reader ty_Reader ty_Reader_ok nm_Reader hown hK hM hS hR rfl rfl 2 (by decide) (hts _ m_168) rfl (ty_Reader_ok 2 (by decide)) rfl rfl (Nat.le_of_ble_eq_true rfl) d_Reader_readNumber_62 (fun κ9 H locs e9 hk9 hM hS => ?_)
        have e9 : κ9 14 = some (.inr (2, [.ref (L 6), .ref (L 2), .int (iI (ra + (kWidth k))), .int (iI ri), .int (iI rf), .int (iI rp)])) := e9
        have hN10 := nds_keep hN (fun r h1 h2 => hk9 r (by omega)) (fun r h1 h2 => rfl) rfl
        have hB11 := bxs_keep hB (hk9 2 (by omega)) (hk9 3 (by omega)) rfl
        exact mw_vret hx hb hr hM hS hlocks d_Reader_readNumber_65 (by rw [show rNum b sz k left ra ri rf rp T cnt = ((ra + (kWidth k) : Int), (ri : Int), (rf : Int), (rp : Int), T, cnt) by unfold rNum; rw [if_neg (by omega), if_neg (by omega)]]; exact ⟨rfl, rfl, e9, hN10, fun r h => by rw [hk9 r (by omega)]⟩)
      · refine lv_aload_n hx hb d_Reader_readNumber_43 rfl (lv_at hl 1 rfl) ?_
        refine lv_iconst (v := iI (5)) hx hb d_Reader_readNumber_44 rfl ?_
        refine lv_aload_n hx hb d_Reader_readNumber_45 rfl (lv_at hl 1 rfl) ?_
        refine mw_get (ci := 2) (i := 14) (v := .int (iI ra)) (C := R_Reader) (T := T_Reader) (N := 6) hx hb hts in_Reader hown hK hM hR rfl rfl 2 (by decide) (hts _ m_168) rfl d_Reader_readNumber_46 ?_
        refine mw_callV (i := 14) (As := [.int (iI 5), .int (iI ra)]) (rest := []) ⟨hx, hb, hml, hown, hts⟩ hK hM hS rfl hR rfl (c_Reader_refuse l D g lo L κ T cnt hN mo n sz b hB ra ri rf rp hR (by omega) (by omega) 5 ra) (cwV 2 hts (gV m_242 m_244 m_1 m_57 m_245) rfl rfl rfl (by decide +kernel) ⟨Nat.le_of_ble_eq_true rfl, Nat.le_of_ble_eq_true rfl⟩) rfl hl.1 rfl (Nat.le_of_ble_eq_true rfl) d_Reader_readNumber_49 ⟨Nat.le_of_ble_eq_true rfl, Nat.le_of_ble_eq_true rfl⟩ (fun v12 L12 κ12 H locs hp12 hM hS => ?_)
        obtain ⟨rfl, rfl, hR12, hN12, hk12⟩ := hp12
        have hR12 : rds L κ12 ra ri 5 ra := hR12
        have hN12 : nds g L κ12 T cnt 2 := hN12
        have hB13 := bxs_keep hB (hk12 2 (by omega)) (hk12 3 (by omega)) rfl
        refine lv_goto (tgt := 65) hx hb d_Reader_readNumber_52 (by decide) ?_
        exact mw_vret hx hb hr hM hS hlocks d_Reader_readNumber_65 (by rw [show rNum b sz k left ra ri rf rp T cnt = ((ra : Int), (ri : Int), (5 : Int), (ra : Int), T, cnt) by unfold rNum; rw [if_neg (by omega), if_pos (by omega)]]; exact ⟨rfl, rfl, hR12, hN12, fun r h => by rw [hk12 r (by omega)]⟩)
  · refine lv_aload_n hx hb d_Reader_readNumber_10 rfl (lv_at hl 1 rfl) ?_
    refine lv_iconst (v := iI (1)) hx hb d_Reader_readNumber_11 rfl ?_
    refine lv_aload_n hx hb d_Reader_readNumber_12 rfl (lv_at hl 1 rfl) ?_
    refine mw_get (ci := 2) (i := 14) (v := .int (iI ra)) (C := R_Reader) (T := T_Reader) (N := 6) hx hb hts in_Reader hown hK hM hR rfl rfl 2 (by decide) (hts _ m_168) rfl d_Reader_readNumber_13 ?_
    refine mw_callV (i := 14) (As := [.int (iI 1), .int (iI ra)]) (rest := []) ⟨hx, hb, hml, hown, hts⟩ hK hM hS rfl hR rfl (c_Reader_refuse l D g lo L κ T cnt hN mo n sz b hB ra ri rf rp hR (by omega) (by omega) 1 ra) (cwV 2 hts (gV m_242 m_244 m_1 m_57 m_245) rfl rfl rfl (by decide +kernel) ⟨Nat.le_of_ble_eq_true rfl, Nat.le_of_ble_eq_true rfl⟩) rfl hl.1 rfl (Nat.le_of_ble_eq_true rfl) d_Reader_readNumber_16 ⟨Nat.le_of_ble_eq_true rfl, Nat.le_of_ble_eq_true rfl⟩ (fun v14 L14 κ14 H locs hp14 hM hS => ?_)
    obtain ⟨rfl, rfl, hR14, hN14, hk14⟩ := hp14
    have hR14 : rds L κ14 ra ri 1 ra := hR14
    have hN14 : nds g L κ14 T cnt 2 := hN14
    have hB15 := bxs_keep hB (hk14 2 (by omega)) (hk14 3 (by omega)) rfl
    refine lv_goto (tgt := 65) hx hb d_Reader_readNumber_19 (by decide) ?_
    exact mw_vret hx hb hr hM hS hlocks d_Reader_readNumber_65 (by rw [show rNum b sz k left ra ri rf rp T cnt = ((ra : Int), (ri : Int), (1 : Int), (ra : Int), T, cnt) by unfold rNum; rw [if_pos (by omega)]]; exact ⟨rfl, rfl, hR14, hN14, fun r h => by rw [hk14 r (by omega)]⟩)
end
section
theorem znf {x : Bool} (h : x = true) : ¬ x = false := by rw [h]; decide
theorem rName_c (b : Nat → Int) (sz : Nat) (last ra ri rf rp : Int) (T : Nat → Nat → Int) (cnt : Nat) : ∃ a1 f1 p1 : Int, rName b sz last ra ri rf rp T cnt = (a1, ri, f1, p1, T, cnt) ∧ ((f1 = rf ∧ ra < a1 ∧ a1 ≤ last) ∨ (a1 = ra ∧ 1 ≤ f1 ∧ f1 ≤ 7)) := by
  have h1 := bFz_r b sz ra last
  unfold rName
  split
  · exact ⟨_, _, _, rfl, by omega⟩
  · split
    · exact ⟨_, _, _, rfl, by omega⟩
    · split
      · exact ⟨_, _, _, rfl, by omega⟩
      · exact ⟨_, _, _, rfl, by omega⟩
theorem rText_c (b : Nat → Int) (sz : Nat) (left ra ri rf rp : Int) (T : Nat → Nat → Int) (cnt : Nat) : ∃ a1 f1 p1 : Int, rText b sz left ra ri rf rp T cnt = (a1, ri, f1, p1, T, cnt) ∧ ((f1 = rf ∧ ra < a1 ∧ a1 ≤ ra + left) ∨ (a1 = ra ∧ 1 ≤ f1 ∧ f1 ≤ 7)) := by
  have h1 := bNum4_r b sz ra
  unfold rText
  split
  · exact ⟨_, _, _, rfl, by omega⟩
  · split
    · exact ⟨_, _, _, rfl, by omega⟩
    · split
      · exact ⟨_, _, _, rfl, by omega⟩
      · split
        · exact ⟨_, _, _, rfl, by omega⟩
        · split
          · exact ⟨_, _, _, rfl, by omega⟩
          · exact ⟨_, _, _, rfl, by omega⟩
theorem rNum_c (b : Nat → Int) (sz : Nat) (k left ra ri rf rp : Int) (T : Nat → Nat → Int) (cnt : Nat) : ∃ a1 f1 p1 : Int, rNum b sz k left ra ri rf rp T cnt = (a1, ri, f1, p1, T, cnt) ∧ ((f1 = rf ∧ ra ≤ a1 ∧ a1 ≤ ra + left) ∨ (a1 = ra ∧ 1 ≤ f1 ∧ f1 ≤ 7)) := by
  have h1 := kWidth_r k
  unfold rNum
  split
  · exact ⟨_, _, _, rfl, by omega⟩
  · split
    · exact ⟨_, _, _, rfl, by omega⟩
    · exact ⟨_, _, _, rfl, by omega⟩
def rStep (b : Nat → Int) (sz : Nat) (ra ri rf rp : Int) (T : Nat → Nat → Int) (cnt : Nat) : rS :=
  if nLast T cnt ri ≤ ra then rLastB b sz ra ri rf rp T cnt else rElem b sz (nLast T cnt ri) ra ri rf rp T cnt
def rGo (b : Nat → Int) (sz : Nat) : Nat → rS → rS
  | 0, s => s
  | N + 1, s => if s.2.2.1 = 0 ∧ 0 ≤ s.2.1 then rGo b sz N (rStep b sz s.1 s.2.1 s.2.2.1 s.2.2.2.1 s.2.2.2.2.1 s.2.2.2.2.2) else s
def rIn (s : rS) : Prop := (-1000 ≤ s.2.2.1 ∧ s.2.2.1 ≤ 1000) ∧ (-1000000 ≤ s.2.1 ∧ s.2.1 ≤ 1000000)
/-- what the reading's numbers keep to, as long as it goes on -/
def rGood (b : Nat → Int) (sz : Nat) : Nat → rS → Prop
  | 0, s => rIn s
  | N + 1, s => rIn s ∧ (s.2.2.1 = 0 ∧ 0 ≤ s.2.1 → ((0 ≤ s.1 ∧ s.1 ≤ 90000) ∧ s.2.1 < s.2.2.2.2.2 ∧ s.2.2.2.2.2 < 700 ∧ (0 ≤ nLast s.2.2.2.2.1 s.2.2.2.2.2 s.2.1 ∧ nLast s.2.2.2.2.1 s.2.2.2.2.2 s.2.1 ≤ 90000)) ∧ rGood b sz N (rStep b sz s.1 s.2.1 s.2.2.1 s.2.2.2.1 s.2.2.2.2.1 s.2.2.2.2.2))
def rStart (b : Nat → Int) (sz : Nat) (n : Int) (T : Nat → Nat → Int) : rS := rSize b sz 3 (-1) n 0 (-1) 0 (-1) T 0
theorem rGood_in {b : Nat → Int} {sz : Nat} {N : Nat} {s : rS} (h : rGood b sz N s) : rIn s := by
  cases N with
  | zero => exact h
  | succ N => exact h.1
theorem rGo_0 {b : Nat → Int} {sz : Nat} {N : Nat} {s : rS} (h : N = 0) : rGo b sz N s = s := by rw [h]; rfl
theorem rGo_e {b : Nat → Int} {sz : Nat} {N : Nat} {s : rS} (h : (s.2.2.1 = 0 ∧ 0 ≤ s.2.1) → False) : rGo b sz N s = s := by
  cases N with
  | zero => rfl
  | succ N => exact if_neg h
theorem rGo_s {b : Nat → Int} {sz : Nat} {N : Nat} {s : rS} (h : s.2.2.1 = 0 ∧ 0 ≤ s.2.1) : rGo b sz (N + 1) s = rGo b sz N (rStep b sz s.1 s.2.1 s.2.2.1 s.2.2.2.1 s.2.2.2.2.1 s.2.2.2.2.2) := if_pos h
end
section
set_option maxHeartbeats 4000000 in
set_option maxRecDepth 100000 in
theorem c_Reader_readElement (l : Launch) (D : va_G) (g : Nat → ClassId) (lo : Nat) (L : Nat → Nat) (κ : Nat → Option va_E) (T : Nat → Nat → Int) (cnt : Nat) (hN : nds g L κ T cnt 2) (mo n sz : Nat) (b : Nat → Int) (hB : bxs g L κ 2 3 mo n sz b) (ra ri rf rp : Int) (hR : rds L κ ra ri rf rp) (hra : 0 ≤ ra ∧ ra ≤ 100000) (hri : -1 ≤ ri ∧ ri ≤ 1000) (last : Int) (hf0 : rf = 0) (hcn : cnt < 700) (hri0 : 0 ≤ ri ∧ ri < cnt) (hla : ra < last ∧ last ≤ 90000) : Met l y_Reader_readElement w_Reader_readElement ({ frames := 4, cells := 0, slots := 0, locals := 99 }) (mwP D vwCl (tyL g) lo L κ [.ref (L 14), .int (iI last)]) (mwQ D vwCl lo (rdQ g L κ (rElem b sz last ra ri rf rp T cnt))) 0 0 (fun q => lo ≤ q) := by
  have hc0 := hN.2.2.1
  obtain ⟨hz1, hz2, hz3⟩ := hB.2.2.1
  refine Met.ofW (cc := b_Reader_readElement) (maxL := 5) (ret := (Option.none : Option Jvm.ClassFile.FieldType)) (by decide) rfl ?_
  intro p e s m args below meth c s₁ B hml hpre
  obtain ⟨hargs, hM, hK⟩ := hpre
  have hx := B.exec
  have hb := B.bytes
  have hr := B.returns
  have hts : ∀ w ∈ wA, w.before args s = true := fun w h => atoms_spec (ws := w_Reader_readElement) B.pre w (List.mem_cons_of_mem _ h)
  have hown : s.vm.findClass R_Reader = some m.cls := findClass_of_methodNamed B.named
  have hlocks := B.notSynchronized
  have hS : va_S (fun q => lo ≤ q) s.heap s.heap [] := va_S.rf
  obtain ⟨ls, hls, hl⟩ := mw_entry (m := m) [.ref (L 14), .int (iI last)] (n := 5) (Nat.le_of_ble_eq_true rfl) hargs
  refine W.eq hls ?_
  have hl : lv_has ls 5 [(0, .ref (L 14)), (1, .int (iI last))] := hl
  refine lv_aload_n hx hb d_Reader_readElement_0 rfl (lv_at hl 0 rfl) ?_
  refine mw_get (ci := 2) (i := 14) (v := .ref (L 2)) (C := R_Reader) (T := T_Reader) (N := 6) hx hb hts in_Reader hown hK hM hR rfl rfl 1 (by decide) (hts _ m_167) rfl d_Reader_readElement_1 ?_
  refine lv_aload_n hx hb d_Reader_readElement_4 rfl (lv_at hl 0 rfl) ?_
  refine mw_get (ci := 2) (i := 14) (v := .int (iI ra)) (C := R_Reader) (T := T_Reader) (N := 6) hx hb hts in_Reader hown hK hM hR rfl rfl 2 (by decide) (hts _ m_168) rfl d_Reader_readElement_5 ?_
  refine mw_rdV (i := 2) (As := [.int (iI ra)]) (rest := []) ⟨hx, hb, hml, hown, hts⟩ hK hM hS rfl hB.1 rfl (c_Bytes_get l D g lo L κ 2 3 mo n sz b hB ra (by omega)) (cwV 1 hts (gV m_278 m_251 m_252 m_52 m_253) rfl rfl rfl (by decide +kernel) ⟨Nat.le_of_ble_eq_true rfl, Nat.le_of_ble_eq_true rfl⟩) rfl hl.1 rfl (Nat.le_of_ble_eq_true rfl) d_Reader_readElement_8 ⟨Nat.le_of_ble_eq_true rfl, Nat.le_of_ble_eq_true rfl⟩ (fun H locs hM hS => ?_)
  have r1 := bGet_r (sz := sz) hB.2.2.2.1 ra
  refine lv_istore_n (lv' := [(2, .int (iI (bGet b sz ra))), (0, .ref (L 14)), (1, .int (iI last))]) hx hb d_Reader_readElement_11 rfl hl (by decide) rfl (fun ls hl => ?_)
  refine lv_iload_n hx hb d_Reader_readElement_12 rfl (lv_at hl 0 rfl) ?_
  refine mw_rdS (As := [.int (iI (bGet b sz ra))]) (rest := []) ⟨hx, hb, hml, hown, hts⟩ hK hM hS (c_Kinds_isKind l D g lo L κ (bGet b sz ra) (by omega)) (va_cwS 1 hts (gT m_287 m_288 m_59 m_289) rfl rfl rfl (by decide +kernel) ⟨Nat.le_of_ble_eq_true rfl, Nat.le_of_ble_eq_true rfl⟩) rfl hl.1 rfl (Nat.le_of_ble_eq_true rfl) d_Reader_readElement_13 ⟨Nat.le_of_ble_eq_true rfl, Nat.le_of_ble_eq_true rfl⟩ (fun H locs hM hS => ?_)
  refine ia_ifz_ne (x := kIs (bGet b sz ra)) (tgt := 37) hx hb d_Reader_readElement_16 (by decide) (fun c2 => ?_) (fun c2 => ?_)
  · refine lv_aload_n hx hb d_Reader_readElement_37 rfl (lv_at hl 1 rfl) ?_
    refine lv_dup hx hb d_Reader_readElement_38 rfl ?_
    refine mw_get (ci := 2) (i := 14) (v := .int (iI ra)) (C := R_Reader) (T := T_Reader) (N := 6) hx hb hts in_Reader hown hK hM hR rfl rfl 2 (by decide) (hts _ m_168) rfl d_Reader_readElement_39 ?_
    refine lv_iconst (v := iI (1)) hx hb d_Reader_readElement_42 rfl ?_
    refine ia_add hx hb d_Reader_readElement_43 ?_
    refine mw_put (ci := 2) (i := 14) (v := .int (iI (ra + 1))) (C := R_Reader) (T := T_Reader) (N := 6) hx hb hts in_Reader ty_Reader ty_Reader_ok nm_Reader hown hK hM hS hR rfl rfl 2 (by decide) (hts _ m_168) rfl (ty_Reader_ok 2 (by decide)) rfl rfl (Nat.le_of_ble_eq_true rfl) d_Reader_readElement_44 (fun κ3 H locs e3 hk3 hM hS => ?_)
    have e3 : κ3 14 = some (.inr (2, [.ref (L 6), .ref (L 2), .int (iI (ra + 1)), .int (iI ri), .int (iI rf), .int (iI rp)])) := e3
    have hN4 := nds_keep hN (fun r h1 h2 => hk3 r (by omega)) (fun r h1 h2 => rfl) rfl
    have hB5 := bxs_keep hB (hk3 2 (by omega)) (hk3 3 (by omega)) rfl
    refine lv_aload_n hx hb d_Reader_readElement_47 rfl (lv_at hl 1 rfl) ?_
    refine mw_get (ci := 2) (i := 14) (v := .int (iI (ra + 1))) (C := R_Reader) (T := T_Reader) (N := 6) hx hb hts in_Reader hown hK hM e3 rfl rfl 2 (by decide) (hts _ m_168) rfl d_Reader_readElement_48 ?_
    refine lv_istore_n (lv' := [(3, .int (iI (ra + 1))), (2, .int (iI (bGet b sz ra))), (0, .ref (L 14)), (1, .int (iI last))]) hx hb d_Reader_readElement_51 rfl hl (by decide) rfl (fun ls hl => ?_)
    refine lv_aload_n hx hb d_Reader_readElement_52 rfl (lv_at hl 2 rfl) ?_
    refine lv_iload_n hx hb d_Reader_readElement_53 rfl (lv_at hl 3 rfl) ?_
    refine mw_callV (i := 14) (As := [.int (iI last)]) (rest := []) ⟨hx, hb, hml, hown, hts⟩ hK hM hS rfl e3 rfl (c_Reader_readName l D g lo L κ3 T cnt hN4 mo n sz b hB5 (ra + 1) ri rf rp e3 (by omega) (by omega) last (by omega) (by omega)) (cwV 1 hts (gV m_294 m_296 m_5 m_57 m_297) rfl rfl rfl (by decide +kernel) ⟨Nat.le_of_ble_eq_true rfl, Nat.le_of_ble_eq_true rfl⟩) rfl hl.1 rfl (Nat.le_of_ble_eq_true rfl) d_Reader_readElement_54 ⟨Nat.le_of_ble_eq_true rfl, Nat.le_of_ble_eq_true rfl⟩ (fun v6 L6 κ6 H locs hp6 hM hS => ?_)
    obtain ⟨a6, f6, p6, hE6, hF6⟩ := rName_c b sz last (ra + 1) ri rf rp T cnt
    rw [hE6] at hp6
    obtain ⟨rfl, rfl, hR6, hN6, hk6⟩ := hp6
    have hR6 : rds L κ6 a6 ri f6 p6 := hR6
    have hN6 : nds g L κ6 T cnt 2 := hN6
    have hB7 := bxs_keep hB5 (hk6 2 (by omega)) (hk6 3 (by omega)) rfl
    refine lv_aload_n hx hb d_Reader_readElement_57 rfl (lv_at hl 2 rfl) ?_
    refine mw_get (ci := 2) (i := 14) (v := .int (iI f6)) (C := R_Reader) (T := T_Reader) (N := 6) hx hb hts in_Reader hown hK hM hR6 rfl rfl 4 (by decide) (hts _ m_170) rfl d_Reader_readElement_58 ?_
    refine ia_if_eq (a := f6) (tgt := 65) hx hb d_Reader_readElement_61 (by decide) (by omega) (fun c8 => ?_) (fun c8 => ?_)
    · refine lv_iload_n hx hb d_Reader_readElement_65 rfl (lv_at hl 1 rfl) ?_
      refine mw_rdS (As := [.int (iI (bGet b sz ra))]) (rest := []) ⟨hx, hb, hml, hown, hts⟩ hK hM hS (c_Kinds_hold l D g lo L κ6 (bGet b sz ra) (by omega)) (va_cwS 1 hts (gT m_344 m_268 m_59 m_269) rfl rfl rfl (by decide +kernel) ⟨Nat.le_of_ble_eq_true rfl, Nat.le_of_ble_eq_true rfl⟩) rfl hl.1 rfl (Nat.le_of_ble_eq_true rfl) d_Reader_readElement_66 ⟨Nat.le_of_ble_eq_true rfl, Nat.le_of_ble_eq_true rfl⟩ (fun H locs hM hS => ?_)
      refine ia_ifz_eq (x := kHold (bGet b sz ra)) (tgt := 85) hx hb d_Reader_readElement_69 (by decide) (fun c9 => ?_) (fun c9 => ?_)
      · refine lv_aload_n hx hb d_Reader_readElement_85 rfl (lv_at hl 2 rfl) ?_
        refine mw_get (ci := 2) (i := 14) (v := .int (iI a6)) (C := R_Reader) (T := T_Reader) (N := 6) hx hb hts in_Reader hown hK hM hR6 rfl rfl 2 (by decide) (hts _ m_168) rfl d_Reader_readElement_86 ?_
        refine lv_istore (lv' := [(4, .int (iI a6)), (3, .int (iI (ra + 1))), (2, .int (iI (bGet b sz ra))), (0, .ref (L 14)), (1, .int (iI last))]) hx hb d_Reader_readElement_89 hl (by decide) rfl (fun ls hl => ?_)
        refine lv_iload_n hx hb d_Reader_readElement_91 rfl (lv_at hl 2 rfl) ?_
        refine lv_iconst (v := iI (2)) hx hb d_Reader_readElement_92 rfl ?_
        refine ia_icmp_ne (a := bGet b sz ra) (b := 2) (tgt := 109) hx hb d_Reader_readElement_93 (by decide) (by omega) (by omega) (fun c10 => ?_) (fun c10 => ?_)
        · refine lv_aload_n hx hb d_Reader_readElement_109 rfl (lv_at hl 3 rfl) ?_
          refine lv_iload_n hx hb d_Reader_readElement_110 rfl (lv_at hl 2 rfl) ?_
          refine lv_iload_n hx hb d_Reader_readElement_111 rfl (lv_at hl 4 rfl) ?_
          refine lv_aload_n hx hb d_Reader_readElement_112 rfl (lv_at hl 3 rfl) ?_
          refine mw_get (ci := 2) (i := 14) (v := .int (iI a6)) (C := R_Reader) (T := T_Reader) (N := 6) hx hb hts in_Reader hown hK hM hR6 rfl rfl 2 (by decide) (hts _ m_168) rfl d_Reader_readElement_113 ?_
          refine ia_sub hx hb d_Reader_readElement_116 ?_
          refine mw_callV (i := 14) (As := [.int (iI (bGet b sz ra)), .int (iI (last - a6))]) (rest := []) ⟨hx, hb, hml, hown, hts⟩ hK hM hS rfl hR6 rfl (c_Reader_readNumber l D g lo L κ6 T cnt hN6 mo n sz b hB7 a6 ri f6 p6 hR6 (by omega) (by omega) (bGet b sz ra) (last - a6) (by omega) (by omega)) (cwV 2 hts (gV m_349 m_351 m_7 m_57 m_352) rfl rfl rfl (by decide +kernel) ⟨Nat.le_of_ble_eq_true rfl, Nat.le_of_ble_eq_true rfl⟩) rfl hl.1 rfl (Nat.le_of_ble_eq_true rfl) d_Reader_readElement_117 ⟨Nat.le_of_ble_eq_true rfl, Nat.le_of_ble_eq_true rfl⟩ (fun v11 L11 κ11 H locs hp11 hM hS => ?_)
          obtain ⟨a11, f11, p11, hE11, hF11⟩ := rNum_c b sz (bGet b sz ra) (last - a6) a6 ri f6 p6 T cnt
          rw [hE11] at hp11
          obtain ⟨rfl, rfl, hR11, hN11, hk11⟩ := hp11
          have hR11 : rds L κ11 a11 ri f11 p11 := hR11
          have hN11 : nds g L κ11 T cnt 2 := hN11
          have hB12 := bxs_keep hB7 (hk11 2 (by omega)) (hk11 3 (by omega)) rfl
          refine lv_aload_n hx hb d_Reader_readElement_120 rfl (lv_at hl 3 rfl) ?_
          refine mw_get (ci := 2) (i := 14) (v := .ref (L 6)) (C := R_Reader) (T := T_Reader) (N := 6) hx hb hts in_Reader hown hK hM hR11 rfl rfl 0 (by decide) (hts _ m_166) rfl d_Reader_readElement_121 ?_
          refine lv_iload_n hx hb d_Reader_readElement_124 rfl (lv_at hl 2 rfl) ?_
          refine lv_aload_n hx hb d_Reader_readElement_125 rfl (lv_at hl 3 rfl) ?_
          refine mw_get (ci := 2) (i := 14) (v := .int (iI ri)) (C := R_Reader) (T := T_Reader) (N := 6) hx hb hts in_Reader hown hK hM hR11 rfl rfl 3 (by decide) (hts _ m_169) rfl d_Reader_readElement_126 ?_
          refine lv_iload_n hx hb d_Reader_readElement_129 rfl (lv_at hl 1 rfl) ?_
          refine lv_iload hx hb d_Reader_readElement_130 (lv_at hl 0 rfl) ?_
          refine lv_aload_n hx hb d_Reader_readElement_132 rfl (lv_at hl 3 rfl) ?_
          refine mw_get (ci := 2) (i := 14) (v := .int (iI a11)) (C := R_Reader) (T := T_Reader) (N := 6) hx hb hts in_Reader hown hK hM hR11 rfl rfl 2 (by decide) (hts _ m_168) rfl d_Reader_readElement_133 ?_
          refine lv_iload hx hb d_Reader_readElement_136 (lv_at hl 0 rfl) ?_
          refine ia_sub hx hb d_Reader_readElement_138 ?_
          refine mw_callV (i := 6) (As := [.int (iI (bGet b sz ra)), .int (iI ri), .int (iI (ra + 1)), .int (iI a6), .int (iI (a11 - a6))]) (rest := []) ⟨hx, hb, hml, hown, hts⟩ hK hM hS rfl hN11.1 rfl (c_Nodes_append l D g lo L κ11 T cnt 2 hN11 (bGet b sz ra) ri (ra + 1) a6 (a11 - a6) hcn (by omega) (by omega) (by omega) (by omega) (by omega)) (cwV 5 hts (gV m_263 m_264 m_265 m_56 m_266) rfl rfl rfl (by decide +kernel) ⟨Nat.le_of_ble_eq_true rfl, Nat.le_of_ble_eq_true rfl⟩) rfl hl.1 rfl (Nat.le_of_ble_eq_true rfl) d_Reader_readElement_139 ⟨Nat.le_of_ble_eq_true rfl, Nat.le_of_ble_eq_true rfl⟩ (fun v13 L13 κ13 H locs hp13 hM hS => ?_)
          obtain ⟨rfl, rfl, hN13, hk13⟩ := hp13
          have hB14 := bxs_keep hB12 (hk13 2 (by omega)) (hk13 3 (by omega)) rfl
          have e15 := (hk13 14 (by omega)).trans hR11
          refine lv_pop hx hb d_Reader_readElement_142 rfl ?_
          exact mw_vret hx hb hr hM hS hlocks d_Reader_readElement_143 (by rw [show rElem b sz last ra ri rf rp T cnt = ((a11 : Int), (ri : Int), (f11 : Int), (p11 : Int), nApp T cnt (bGet b sz ra) ri (ra + 1) a6 (a11 - a6), cnt + 1) by unfold rElem; rw [if_neg (znf (by assumption)), hE6]; dsimp only; rw [if_neg (by omega), if_neg (zne (by assumption)), if_neg (by omega), hE11]]; exact ⟨rfl, rfl, e15, hN13, fun r h => by rw [hk13 r (by omega), hk11 r (by omega), hk6 r (by omega), hk3 r (by omega)]⟩)
        · refine lv_aload_n hx hb d_Reader_readElement_96 rfl (lv_at hl 3 rfl) ?_
          refine lv_iload_n hx hb d_Reader_readElement_97 rfl (lv_at hl 4 rfl) ?_
          refine lv_aload_n hx hb d_Reader_readElement_98 rfl (lv_at hl 3 rfl) ?_
          refine mw_get (ci := 2) (i := 14) (v := .int (iI a6)) (C := R_Reader) (T := T_Reader) (N := 6) hx hb hts in_Reader hown hK hM hR6 rfl rfl 2 (by decide) (hts _ m_168) rfl d_Reader_readElement_99 ?_
          refine ia_sub hx hb d_Reader_readElement_102 ?_
          refine mw_callV (i := 14) (As := [.int (iI (last - a6))]) (rest := []) ⟨hx, hb, hml, hown, hts⟩ hK hM hS rfl hR6 rfl (c_Reader_readText l D g lo L κ6 T cnt hN6 mo n sz b hB7 a6 ri f6 p6 hR6 (by omega) (by omega) (last - a6) (by omega)) (cwV 1 hts (gV m_345 m_347 m_6 m_57 m_348) rfl rfl rfl (by decide +kernel) ⟨Nat.le_of_ble_eq_true rfl, Nat.le_of_ble_eq_true rfl⟩) rfl hl.1 rfl (Nat.le_of_ble_eq_true rfl) d_Reader_readElement_103 ⟨Nat.le_of_ble_eq_true rfl, Nat.le_of_ble_eq_true rfl⟩ (fun v16 L16 κ16 H locs hp16 hM hS => ?_)
          obtain ⟨a16, f16, p16, hE16, hF16⟩ := rText_c b sz (last - a6) a6 ri f6 p6 T cnt
          rw [hE16] at hp16
          obtain ⟨rfl, rfl, hR16, hN16, hk16⟩ := hp16
          have hR16 : rds L κ16 a16 ri f16 p16 := hR16
          have hN16 : nds g L κ16 T cnt 2 := hN16
          have hB17 := bxs_keep hB7 (hk16 2 (by omega)) (hk16 3 (by omega)) rfl
          refine lv_goto (tgt := 120) hx hb d_Reader_readElement_106 (by decide) ?_
          refine lv_aload_n hx hb d_Reader_readElement_120 rfl (lv_at hl 3 rfl) ?_
          refine mw_get (ci := 2) (i := 14) (v := .ref (L 6)) (C := R_Reader) (T := T_Reader) (N := 6) hx hb hts in_Reader hown hK hM hR16 rfl rfl 0 (by decide) (hts _ m_166) rfl d_Reader_readElement_121 ?_
          refine lv_iload_n hx hb d_Reader_readElement_124 rfl (lv_at hl 2 rfl) ?_
          refine lv_aload_n hx hb d_Reader_readElement_125 rfl (lv_at hl 3 rfl) ?_
          refine mw_get (ci := 2) (i := 14) (v := .int (iI ri)) (C := R_Reader) (T := T_Reader) (N := 6) hx hb hts in_Reader hown hK hM hR16 rfl rfl 3 (by decide) (hts _ m_169) rfl d_Reader_readElement_126 ?_
          refine lv_iload_n hx hb d_Reader_readElement_129 rfl (lv_at hl 1 rfl) ?_
          refine lv_iload hx hb d_Reader_readElement_130 (lv_at hl 0 rfl) ?_
          refine lv_aload_n hx hb d_Reader_readElement_132 rfl (lv_at hl 3 rfl) ?_
          refine mw_get (ci := 2) (i := 14) (v := .int (iI a16)) (C := R_Reader) (T := T_Reader) (N := 6) hx hb hts in_Reader hown hK hM hR16 rfl rfl 2 (by decide) (hts _ m_168) rfl d_Reader_readElement_133 ?_
          refine lv_iload hx hb d_Reader_readElement_136 (lv_at hl 0 rfl) ?_
          refine ia_sub hx hb d_Reader_readElement_138 ?_
          refine mw_callV (i := 6) (As := [.int (iI (bGet b sz ra)), .int (iI ri), .int (iI (ra + 1)), .int (iI a6), .int (iI (a16 - a6))]) (rest := []) ⟨hx, hb, hml, hown, hts⟩ hK hM hS rfl hN16.1 rfl (c_Nodes_append l D g lo L κ16 T cnt 2 hN16 (bGet b sz ra) ri (ra + 1) a6 (a16 - a6) hcn (by omega) (by omega) (by omega) (by omega) (by omega)) (cwV 5 hts (gV m_263 m_264 m_265 m_56 m_266) rfl rfl rfl (by decide +kernel) ⟨Nat.le_of_ble_eq_true rfl, Nat.le_of_ble_eq_true rfl⟩) rfl hl.1 rfl (Nat.le_of_ble_eq_true rfl) d_Reader_readElement_139 ⟨Nat.le_of_ble_eq_true rfl, Nat.le_of_ble_eq_true rfl⟩ (fun v18 L18 κ18 H locs hp18 hM hS => ?_)
          obtain ⟨rfl, rfl, hN18, hk18⟩ := hp18
          have hB19 := bxs_keep hB17 (hk18 2 (by omega)) (hk18 3 (by omega)) rfl
          have e20 := (hk18 14 (by omega)).trans hR16
          refine lv_pop hx hb d_Reader_readElement_142 rfl ?_
          exact mw_vret hx hb hr hM hS hlocks d_Reader_readElement_143 (by rw [show rElem b sz last ra ri rf rp T cnt = ((a16 : Int), (ri : Int), (f16 : Int), (p16 : Int), nApp T cnt (bGet b sz ra) ri (ra + 1) a6 (a16 - a6), cnt + 1) by unfold rElem; rw [if_neg (znf (by assumption)), hE6]; dsimp only; rw [if_neg (by omega), if_neg (zne (by assumption)), if_pos (by omega), hE16]]; exact ⟨rfl, rfl, e20, hN18, fun r h => by rw [hk18 r (by omega), hk16 r (by omega), hk6 r (by omega), hk3 r (by omega)]⟩)
      · refine lv_aload_n hx hb d_Reader_readElement_72 rfl (lv_at hl 2 rfl) ?_
        refine lv_iload_n hx hb d_Reader_readElement_73 rfl (lv_at hl 1 rfl) ?_
        refine lv_iload_n hx hb d_Reader_readElement_74 rfl (lv_at hl 0 rfl) ?_
        refine lv_iload_n hx hb d_Reader_readElement_75 rfl (lv_at hl 3 rfl) ?_
        refine lv_aload_n hx hb d_Reader_readElement_76 rfl (lv_at hl 2 rfl) ?_
        refine mw_get (ci := 2) (i := 14) (v := .int (iI a6)) (C := R_Reader) (T := T_Reader) (N := 6) hx hb hts in_Reader hown hK hM hR6 rfl rfl 2 (by decide) (hts _ m_168) rfl d_Reader_readElement_77 ?_
        refine ia_sub hx hb d_Reader_readElement_80 ?_
        refine mw_callV (i := 14) (As := [.int (iI (bGet b sz ra)), .int (iI (ra + 1)), .int (iI (last - a6))]) (rest := []) ⟨hx, hb, hml, hown, hts⟩ hK hM hS rfl hR6 rfl (c_Reader_readSize l D g lo L κ6 T cnt hN6 mo n sz b hB7 a6 ri f6 p6 hR6 (by omega) (by omega) (bGet b sz ra) (ra + 1) (last - a6) hcn (by omega) (by omega) (by omega)) (cwV 3 hts (gV m_238 m_240 m_0 m_57 m_241) rfl rfl rfl (by decide +kernel) ⟨Nat.le_of_ble_eq_true rfl, Nat.le_of_ble_eq_true rfl⟩) rfl hl.1 rfl (Nat.le_of_ble_eq_true rfl) d_Reader_readElement_81 ⟨Nat.le_of_ble_eq_true rfl, Nat.le_of_ble_eq_true rfl⟩ (fun v21 L21 κ21 H locs hp21 hM hS => ?_)
        obtain ⟨rfl, rfl, hR21, hN21, hk21⟩ := hp21
        have hR21 : rds L κ21 ((rSize b sz (bGet b sz ra) (ra + 1) (last - a6) a6 ri f6 p6 T cnt).1) ((rSize b sz (bGet b sz ra) (ra + 1) (last - a6) a6 ri f6 p6 T cnt).2.1) ((rSize b sz (bGet b sz ra) (ra + 1) (last - a6) a6 ri f6 p6 T cnt).2.2.1) ((rSize b sz (bGet b sz ra) (ra + 1) (last - a6) a6 ri f6 p6 T cnt).2.2.2.1) := hR21
        have hN21 : nds g L κ21 ((rSize b sz (bGet b sz ra) (ra + 1) (last - a6) a6 ri f6 p6 T cnt).2.2.2.2.1) ((rSize b sz (bGet b sz ra) (ra + 1) (last - a6) a6 ri f6 p6 T cnt).2.2.2.2.2) 2 := hN21
        have hB22 := bxs_keep hB7 (hk21 2 (by omega)) (hk21 3 (by omega)) rfl
        exact mw_vret hx hb hr hM hS hlocks d_Reader_readElement_84 (by rw [show rElem b sz last ra ri rf rp T cnt = (((rSize b sz (bGet b sz ra) (ra + 1) (last - a6) a6 ri f6 p6 T cnt).1 : Int), ((rSize b sz (bGet b sz ra) (ra + 1) (last - a6) a6 ri f6 p6 T cnt).2.1 : Int), ((rSize b sz (bGet b sz ra) (ra + 1) (last - a6) a6 ri f6 p6 T cnt).2.2.1 : Int), ((rSize b sz (bGet b sz ra) (ra + 1) (last - a6) a6 ri f6 p6 T cnt).2.2.2.1 : Int), (rSize b sz (bGet b sz ra) (ra + 1) (last - a6) a6 ri f6 p6 T cnt).2.2.2.2.1, (rSize b sz (bGet b sz ra) (ra + 1) (last - a6) a6 ri f6 p6 T cnt).2.2.2.2.2) by unfold rElem; rw [if_neg (znf (by assumption)), hE6]; dsimp only; (rw [if_neg (by omega), if_pos (by assumption)]) <;> rfl]; exact ⟨rfl, rfl, hR21, hN21, fun r h => by rw [hk21 r (by omega), hk6 r (by omega), hk3 r (by omega)]⟩)
    · exact mw_vret hx hb hr hM hS hlocks d_Reader_readElement_64 (by rw [show rElem b sz last ra ri rf rp T cnt = ((a6 : Int), (ri : Int), (f6 : Int), (p6 : Int), T, cnt) by unfold rElem; rw [if_neg (znf (by assumption)), hE6]; dsimp only; rw [if_pos (by omega)]]; exact ⟨rfl, rfl, hR6, hN6, fun r h => by rw [hk6 r (by omega), hk3 r (by omega)]⟩)
  · refine lv_aload_n hx hb d_Reader_readElement_19 rfl (lv_at hl 1 rfl) ?_
    refine lv_iload_n hx hb d_Reader_readElement_20 rfl (lv_at hl 0 rfl) ?_
    refine ia_if_ne (a := bGet b sz ra) (tgt := 28) hx hb d_Reader_readElement_21 (by decide) (by omega) (fun c23 => ?_) (fun c23 => ?_)
    · refine lv_iconst (v := iI (3)) hx hb d_Reader_readElement_28 rfl ?_
      refine lv_aload_n hx hb d_Reader_readElement_29 rfl (lv_at hl 1 rfl) ?_
      refine mw_get (ci := 2) (i := 14) (v := .int (iI ra)) (C := R_Reader) (T := T_Reader) (N := 6) hx hb hts in_Reader hown hK hM hR rfl rfl 2 (by decide) (hts _ m_168) rfl d_Reader_readElement_30 ?_
      refine mw_callV (i := 14) (As := [.int (iI 3), .int (iI ra)]) (rest := []) ⟨hx, hb, hml, hown, hts⟩ hK hM hS rfl hR rfl (c_Reader_refuse l D g lo L κ T cnt hN mo n sz b hB ra ri rf rp hR (by omega) (by omega) 3 ra) (cwV 2 hts (gV m_242 m_244 m_1 m_57 m_245) rfl rfl rfl (by decide +kernel) ⟨Nat.le_of_ble_eq_true rfl, Nat.le_of_ble_eq_true rfl⟩) rfl hl.1 rfl (Nat.le_of_ble_eq_true rfl) d_Reader_readElement_33 ⟨Nat.le_of_ble_eq_true rfl, Nat.le_of_ble_eq_true rfl⟩ (fun v24 L24 κ24 H locs hp24 hM hS => ?_)
      obtain ⟨rfl, rfl, hR24, hN24, hk24⟩ := hp24
      have hR24 : rds L κ24 ra ri 3 ra := hR24
      have hN24 : nds g L κ24 T cnt 2 := hN24
      have hB25 := bxs_keep hB (hk24 2 (by omega)) (hk24 3 (by omega)) rfl
      exact mw_vret hx hb hr hM hS hlocks d_Reader_readElement_36 (by rw [show rElem b sz last ra ri rf rp T cnt = ((ra : Int), (ri : Int), (3 : Int), (ra : Int), T, cnt) by unfold rElem; rw [if_pos (by assumption), if_neg (by omega)]]; exact ⟨rfl, rfl, hR24, hN24, fun r h => by rw [hk24 r (by omega)]⟩)
    · refine lv_iconst (v := iI (2)) hx hb d_Reader_readElement_24 rfl ?_
      refine lv_goto (tgt := 29) hx hb d_Reader_readElement_25 (by decide) ?_
      refine lv_aload_n hx hb d_Reader_readElement_29 rfl (lv_at hl 1 rfl) ?_
      refine mw_get (ci := 2) (i := 14) (v := .int (iI ra)) (C := R_Reader) (T := T_Reader) (N := 6) hx hb hts in_Reader hown hK hM hR rfl rfl 2 (by decide) (hts _ m_168) rfl d_Reader_readElement_30 ?_
      refine mw_callV (i := 14) (As := [.int (iI 2), .int (iI ra)]) (rest := []) ⟨hx, hb, hml, hown, hts⟩ hK hM hS rfl hR rfl (c_Reader_refuse l D g lo L κ T cnt hN mo n sz b hB ra ri rf rp hR (by omega) (by omega) 2 ra) (cwV 2 hts (gV m_242 m_244 m_1 m_57 m_245) rfl rfl rfl (by decide +kernel) ⟨Nat.le_of_ble_eq_true rfl, Nat.le_of_ble_eq_true rfl⟩) rfl hl.1 rfl (Nat.le_of_ble_eq_true rfl) d_Reader_readElement_33 ⟨Nat.le_of_ble_eq_true rfl, Nat.le_of_ble_eq_true rfl⟩ (fun v26 L26 κ26 H locs hp26 hM hS => ?_)
      obtain ⟨rfl, rfl, hR26, hN26, hk26⟩ := hp26
      have hR26 : rds L κ26 ra ri 2 ra := hR26
      have hN26 : nds g L κ26 T cnt 2 := hN26
      have hB27 := bxs_keep hB (hk26 2 (by omega)) (hk26 3 (by omega)) rfl
      exact mw_vret hx hb hr hM hS hlocks d_Reader_readElement_36 (by rw [show rElem b sz last ra ri rf rp T cnt = ((ra : Int), (ri : Int), (2 : Int), (ra : Int), T, cnt) by unfold rElem; rw [if_pos (by assumption), if_pos (by omega)]]; exact ⟨rfl, rfl, hR26, hN26, fun r h => by rw [hk26 r (by omega)]⟩)
set_option maxHeartbeats 4000000 in
set_option maxRecDepth 100000 in
theorem c_Reader_readAll (l : Launch) (D : va_G) (g : Nat → ClassId) (lo : Nat) (L : Nat → Nat) (κ : Nat → Option va_E) (T : Nat → Nat → Int) (cnt d0 : Nat) (hN : nds g L κ T cnt d0) (mo n sz : Nat) (b : Nat → Int) (hB : bxs g L κ 2 3 mo n sz b) (ra ri rf rp : Int) (hR : rds L κ ra ri rf rp)  (n0 : Int) (hn0 : 0 ≤ n0 ∧ n0 ≤ 90000) (hgood : rGood b sz 2000 (rStart b sz n0 T)) : Met l y_Reader_readAll w_Reader_readAll ({ frames := 5, cells := 0, slots := 0, locals := 123 }) (mwP D vwCl (tyL g) lo L κ [.ref (L 14), .int (iI n0)]) (mwQ D vwCl lo (fun v L1 κ1 => v = some (.int (iI (rGo b sz 2000 (rStart b sz n0 T)).2.2.1)) ∧ rdQ g L κ (rGo b sz 2000 (rStart b sz n0 T)) none L1 κ1)) 0 0 (fun q => lo ≤ q) := by
  have hc0 := hN.2.2.1
  obtain ⟨hz1, hz2, hz3⟩ := hB.2.2.1
  have hcn : 0 < 700 := by decide
  refine Met.ofW (cc := b_Reader_readAll) (maxL := 4) (ret := (Option.some Jvm.ClassFile.FieldType.int)) (by decide) rfl ?_
  intro p e s m args below meth c s₁ B hml hpre
  obtain ⟨hargs, hM, hK⟩ := hpre
  have hx := B.exec
  have hb := B.bytes
  have hr := B.returns
  have hts : ∀ w ∈ wA, w.before args s = true := fun w h => atoms_spec (ws := w_Reader_readAll) B.pre w (List.mem_cons_of_mem _ h)
  have hown : s.vm.findClass R_Reader = some m.cls := findClass_of_methodNamed B.named
  have hlocks := B.notSynchronized
  have hS : va_S (fun q => lo ≤ q) s.heap s.heap [] := va_S.rf
  have loop40 : ∀ (N : Nat) (k : Int) (a1 : Int) (i1 : Int) (f1 : Int) (p1 : Int) (T1 : Nat → Nat → Int) (cn1 : Nat) (κ1 : Nat → Option va_E), (2000 - k).toNat < N → (0 ≤ k ∧ k ≤ 2000) → (rds L κ1 a1 i1 f1 p1) → (nds g L κ1 T1 cn1 2) → (bxs g L κ1 2 3 mo n sz b) → (∀ r, (r < 6 ∨ 14 < r) → κ1 r = κ r) → (rGo b sz 2000 (rStart b sz n0 T) = rGo b sz (2000 - k).toNat (a1, i1, f1, p1, T1, cn1)) → (rGood b sz (2000 - k).toNat (a1, i1, f1, p1, T1, cn1)) → ∀ (H : Heap) (locs : List Loc) (ls : Array Slot), mw D vwCl lo L κ1 H → va_S (fun q => lo ≤ q) s.heap H locs → lv_has ls 4 [(2, .int (iI k)), (0, .ref (L 14)), (1, .int (iI n0))] → W p l e (headSpec w_Reader_readAll ({ frames := 5, cells := 0, slots := 0, locals := 123 })).room s m args below meth c H locs 0 0 (MQ below (mwQ D vwCl lo (fun v L1 κ1 => v = some (.int (iI (rGo b sz 2000 (rStart b sz n0 T)).2.2.1)) ∧ rdQ g L κ (rGo b sz 2000 (rStart b sz n0 T)) none L1 κ1)) args s 0 0 (fun q => lo ≤ q)) (F0 m 40 ls []) := by
    intro N
    induction N with
    | zero => intro k a1 i1 f1 p1 T1 cn1 κ1 hms; exact absurd hms (Nat.not_lt_zero _)
    | succ N ih =>
      intro k a1 i1 f1 p1 T1 cn1 κ1 hms hk hR1 hN1 hB1 hf hres hgd H locs ls hM hS hl
      have hin := rGood_in hgd
      have hin1 : (-1000 ≤ f1 ∧ f1 ≤ 1000) ∧ (-1000000 ≤ i1 ∧ i1 ≤ 1000000) := hin
      refine lv_iload_n hx hb d_Reader_readAll_40 rfl (lv_at hl 0 rfl) ?_
      refine lv_sipush (v := iI (2000)) hx hb d_Reader_readAll_41 (by decide) ?_
      refine ia_icmp_ge (a := k) (b := 2000) (tgt := 99) hx hb d_Reader_readAll_44 (by decide) (by omega) (by omega) (fun c1 => ?_) (fun c1 => ?_)
      · refine lv_aload_n hx hb d_Reader_readAll_99 rfl (lv_at hl 1 rfl) ?_
        refine mw_get (ci := 2) (i := 14) (v := .int (iI f1)) (C := R_Reader) (T := T_Reader) (N := 6) hx hb hts in_Reader hown hK hM hR1 rfl rfl 4 (by decide) (hts _ m_170) rfl d_Reader_readAll_100 ?_
        have hS0 : rGo b sz 2000 (rStart b sz n0 T) = (a1, i1, f1, p1, T1, cn1) := hres.trans (rGo_0 (N := (2000 - k).toNat) (by omega))
        exact mw_iret hx hb hr hM hS hlocks d_Reader_readAll_103 (by rw [hS0]; exact ⟨rfl, rfl, rfl, hR1, hN1, hf⟩)
      · refine lv_aload_n hx hb d_Reader_readAll_47 rfl (lv_at hl 1 rfl) ?_
        refine mw_get (ci := 2) (i := 14) (v := .int (iI f1)) (C := R_Reader) (T := T_Reader) (N := 6) hx hb hts in_Reader hown hK hM hR1 rfl rfl 4 (by decide) (hts _ m_170) rfl d_Reader_readAll_48 ?_
        refine ia_if_ne (a := f1) (tgt := 99) hx hb d_Reader_readAll_51 (by decide) (by omega) (fun c2 => ?_) (fun c2 => ?_)
        · refine lv_aload_n hx hb d_Reader_readAll_99 rfl (lv_at hl 1 rfl) ?_
          refine mw_get (ci := 2) (i := 14) (v := .int (iI f1)) (C := R_Reader) (T := T_Reader) (N := 6) hx hb hts in_Reader hown hK hM hR1 rfl rfl 4 (by decide) (hts _ m_170) rfl d_Reader_readAll_100 ?_
          have hS0 : rGo b sz 2000 (rStart b sz n0 T) = (a1, i1, f1, p1, T1, cn1) := hres.trans (rGo_e (s := (a1, i1, f1, p1, T1, cn1)) (fun q => absurd q (by show ¬ (f1 = 0 ∧ 0 ≤ i1); omega)))
          exact mw_iret hx hb hr hM hS hlocks d_Reader_readAll_103 (by rw [hS0]; exact ⟨rfl, rfl, rfl, hR1, hN1, hf⟩)
        · refine lv_aload_n hx hb d_Reader_readAll_54 rfl (lv_at hl 1 rfl) ?_
          refine mw_get (ci := 2) (i := 14) (v := .int (iI i1)) (C := R_Reader) (T := T_Reader) (N := 6) hx hb hts in_Reader hown hK hM hR1 rfl rfl 3 (by decide) (hts _ m_169) rfl d_Reader_readAll_55 ?_
          refine ia_if_lt (a := i1) (tgt := 99) hx hb d_Reader_readAll_58 (by decide) (by omega) (fun c3 => ?_) (fun c3 => ?_)
          · refine lv_aload_n hx hb d_Reader_readAll_99 rfl (lv_at hl 1 rfl) ?_
            refine mw_get (ci := 2) (i := 14) (v := .int (iI f1)) (C := R_Reader) (T := T_Reader) (N := 6) hx hb hts in_Reader hown hK hM hR1 rfl rfl 4 (by decide) (hts _ m_170) rfl d_Reader_readAll_100 ?_
            have hS0 : rGo b sz 2000 (rStart b sz n0 T) = (a1, i1, f1, p1, T1, cn1) := hres.trans (rGo_e (s := (a1, i1, f1, p1, T1, cn1)) (fun q => absurd q (by show ¬ (f1 = 0 ∧ 0 ≤ i1); omega)))
            exact mw_iret hx hb hr hM hS hlocks d_Reader_readAll_103 (by rw [hS0]; exact ⟨rfl, rfl, rfl, hR1, hN1, hf⟩)
          · have hfu : (2000 - k).toNat = (2000 - (k + 1)).toNat + 1 := by omega
            have hgo : ((a1, i1, f1, p1, T1, cn1) : rS).2.2.1 = 0 ∧ 0 ≤ ((a1, i1, f1, p1, T1, cn1) : rS).2.1 := ⟨by show f1 = 0; omega, by show 0 ≤ i1; omega⟩
            have hgd0 : rGood b sz ((2000 - (k + 1)).toNat + 1) (a1, i1, f1, p1, T1, cn1) := by rw [← hfu]; exact hgd
            have hgd2 := hgd0.2 hgo
            have hgd3 : (0 ≤ a1 ∧ a1 ≤ 90000) ∧ i1 < cn1 ∧ cn1 < 700 ∧ (0 ≤ nLast T1 cn1 i1 ∧ nLast T1 cn1 i1 ≤ 90000) := hgd2.1
            refine lv_aload_n hx hb d_Reader_readAll_61 rfl (lv_at hl 1 rfl) ?_
            refine mw_get (ci := 2) (i := 14) (v := .ref (L 6)) (C := R_Reader) (T := T_Reader) (N := 6) hx hb hts in_Reader hown hK hM hR1 rfl rfl 0 (by decide) (hts _ m_166) rfl d_Reader_readAll_62 ?_
            refine lv_aload_n hx hb d_Reader_readAll_65 rfl (lv_at hl 1 rfl) ?_
            refine mw_get (ci := 2) (i := 14) (v := .int (iI i1)) (C := R_Reader) (T := T_Reader) (N := 6) hx hb hts in_Reader hown hK hM hR1 rfl rfl 3 (by decide) (hts _ m_169) rfl d_Reader_readAll_66 ?_
            refine mw_rdV (i := 6) (As := [.int (iI i1)]) (rest := []) ⟨hx, hb, hml, hown, hts⟩ hK hM hS rfl hN1.1 rfl (c_Nodes_lastByte l D g lo L κ1 T1 cn1 2 hN1 i1 (by omega)) (cwV 1 hts (gV m_270 m_271 m_272 m_56 m_273) rfl rfl rfl (by decide +kernel) ⟨Nat.le_of_ble_eq_true rfl, Nat.le_of_ble_eq_true rfl⟩) rfl hl.1 rfl (Nat.le_of_ble_eq_true rfl) d_Reader_readAll_69 ⟨Nat.le_of_ble_eq_true rfl, Nat.le_of_ble_eq_true rfl⟩ (fun H locs hM hS => ?_)
            have r4 := nCell_r (cnt := cn1) hN1.2.2.2.1 4 i1
            have r5 := nCell_r (cnt := cn1) hN1.2.2.2.1 5 i1
            have r6 := (show nLast T1 cn1 i1 = nCell T1 cn1 4 i1 + nCell T1 cn1 5 i1 - 1 from rfl)
            refine lv_istore_n (lv' := [(3, .int (iI (nLast T1 cn1 i1))), (2, .int (iI k)), (0, .ref (L 14)), (1, .int (iI n0))]) hx hb d_Reader_readAll_72 rfl hl (by decide) rfl (fun ls hl => ?_)
            refine lv_aload_n hx hb d_Reader_readAll_73 rfl (lv_at hl 2 rfl) ?_
            refine mw_get (ci := 2) (i := 14) (v := .int (iI a1)) (C := R_Reader) (T := T_Reader) (N := 6) hx hb hts in_Reader hown hK hM hR1 rfl rfl 2 (by decide) (hts _ m_168) rfl d_Reader_readAll_74 ?_
            refine lv_iload_n hx hb d_Reader_readAll_77 rfl (lv_at hl 0 rfl) ?_
            refine ia_icmp_lt (a := a1) (b := nLast T1 cn1 i1) (tgt := 88) hx hb d_Reader_readAll_78 (by decide) (by omega) (by omega) (fun c7 => ?_) (fun c7 => ?_)
            · refine lv_aload_n hx hb d_Reader_readAll_88 rfl (lv_at hl 2 rfl) ?_
              refine lv_iload_n hx hb d_Reader_readAll_89 rfl (lv_at hl 0 rfl) ?_
              refine mw_callV (i := 14) (As := [.int (iI (nLast T1 cn1 i1))]) (rest := []) ⟨hx, hb, hml, hown, hts⟩ hK hM hS rfl hR1 rfl (c_Reader_readElement l D g lo L κ1 T1 cn1 hN1 mo n sz b hB1 a1 i1 f1 p1 hR1 (by omega) (by omega) (nLast T1 cn1 i1) (by omega) (by omega) (by omega) (by omega)) (cwV 1 hts (gV m_283 m_285 m_4 m_57 m_286) rfl rfl rfl (by decide +kernel) ⟨Nat.le_of_ble_eq_true rfl, Nat.le_of_ble_eq_true rfl⟩) rfl hl.1 rfl (Nat.le_of_ble_eq_true rfl) d_Reader_readAll_90 ⟨Nat.le_of_ble_eq_true rfl, Nat.le_of_ble_eq_true rfl⟩ (fun v8 L8 κ8 H locs hp8 hM hS => ?_)
              obtain ⟨rfl, rfl, hR8, hN8, hk8⟩ := hp8
              have hR8 : rds L κ8 ((rElem b sz (nLast T1 cn1 i1) a1 i1 f1 p1 T1 cn1).1) ((rElem b sz (nLast T1 cn1 i1) a1 i1 f1 p1 T1 cn1).2.1) ((rElem b sz (nLast T1 cn1 i1) a1 i1 f1 p1 T1 cn1).2.2.1) ((rElem b sz (nLast T1 cn1 i1) a1 i1 f1 p1 T1 cn1).2.2.2.1) := hR8
              have hN8 : nds g L κ8 ((rElem b sz (nLast T1 cn1 i1) a1 i1 f1 p1 T1 cn1).2.2.2.2.1) ((rElem b sz (nLast T1 cn1 i1) a1 i1 f1 p1 T1 cn1).2.2.2.2.2) 2 := hN8
              have hB9 := bxs_keep hB1 (hk8 2 (by omega)) (hk8 3 (by omega)) rfl
              refine lv_iinc (v := iI (k + 1)) (lv' := [(2, .int (iI (k + 1))), (3, .int (iI (nLast T1 cn1 i1))), (0, .ref (L 14)), (1, .int (iI n0))]) hx hb d_Reader_readAll_93 hl (k := 1) rfl (iI_inc _ _) (by decide) rfl (fun ls hl => ?_)
              refine lv_goto (tgt := 40) hx hb d_Reader_readAll_96 (by decide) ?_
              exact ih (k + 1) ((rElem b sz (nLast T1 cn1 i1) a1 i1 f1 p1 T1 cn1).1) ((rElem b sz (nLast T1 cn1 i1) a1 i1 f1 p1 T1 cn1).2.1) ((rElem b sz (nLast T1 cn1 i1) a1 i1 f1 p1 T1 cn1).2.2.1) ((rElem b sz (nLast T1 cn1 i1) a1 i1 f1 p1 T1 cn1).2.2.2.1) ((rElem b sz (nLast T1 cn1 i1) a1 i1 f1 p1 T1 cn1).2.2.2.2.1) ((rElem b sz (nLast T1 cn1 i1) a1 i1 f1 p1 T1 cn1).2.2.2.2.2) κ8 (by omega) (by omega) hR8 hN8 hB9 (fun r h => by rw [hk8 r (by omega), hf r h]) (by rw [hres, hfu, rGo_s hgo, (show rStep b sz a1 i1 f1 p1 T1 cn1 = rElem b sz (nLast T1 cn1 i1) a1 i1 f1 p1 T1 cn1 by unfold rStep; rw [if_neg (by omega)])]) (by have hq : rGood b sz (2000 - (k + 1)).toNat (rStep b sz a1 i1 f1 p1 T1 cn1) := hgd2.2; rw [(show rStep b sz a1 i1 f1 p1 T1 cn1 = rElem b sz (nLast T1 cn1 i1) a1 i1 f1 p1 T1 cn1 by unfold rStep; rw [if_neg (by omega)])] at hq; exact hq) _ _ ls hM hS (lv_sub hl [0, 2, 3] rfl)
            · refine lv_aload_n hx hb d_Reader_readAll_81 rfl (lv_at hl 2 rfl) ?_
              refine mw_callV (i := 14) (As := []) (rest := []) ⟨hx, hb, hml, hown, hts⟩ hK hM hS rfl hR1 rfl (c_Reader_readLastByte l D g lo L κ1 T1 cn1 hN1 mo n sz b hB1 a1 i1 f1 p1 hR1 (by omega) (by omega) ) (cwV 0 hts (gV m_274 m_276 m_3 m_57 m_277) rfl rfl rfl (by decide +kernel) ⟨Nat.le_of_ble_eq_true rfl, Nat.le_of_ble_eq_true rfl⟩) rfl hl.1 rfl (Nat.le_of_ble_eq_true rfl) d_Reader_readAll_82 ⟨Nat.le_of_ble_eq_true rfl, Nat.le_of_ble_eq_true rfl⟩ (fun v10 L10 κ10 H locs hp10 hM hS => ?_)
              obtain ⟨rfl, rfl, hR10, hN10, hk10⟩ := hp10
              have hR10 : rds L κ10 ((rLastB b sz a1 i1 f1 p1 T1 cn1).1) ((rLastB b sz a1 i1 f1 p1 T1 cn1).2.1) ((rLastB b sz a1 i1 f1 p1 T1 cn1).2.2.1) ((rLastB b sz a1 i1 f1 p1 T1 cn1).2.2.2.1) := hR10
              have hN10 : nds g L κ10 ((rLastB b sz a1 i1 f1 p1 T1 cn1).2.2.2.2.1) ((rLastB b sz a1 i1 f1 p1 T1 cn1).2.2.2.2.2) 2 := hN10
              have hB11 := bxs_keep hB1 (hk10 2 (by omega)) (hk10 3 (by omega)) rfl
              refine lv_goto (tgt := 93) hx hb d_Reader_readAll_85 (by decide) ?_
              refine lv_iinc (v := iI (k + 1)) (lv' := [(2, .int (iI (k + 1))), (3, .int (iI (nLast T1 cn1 i1))), (0, .ref (L 14)), (1, .int (iI n0))]) hx hb d_Reader_readAll_93 hl (k := 1) rfl (iI_inc _ _) (by decide) rfl (fun ls hl => ?_)
              refine lv_goto (tgt := 40) hx hb d_Reader_readAll_96 (by decide) ?_
              exact ih (k + 1) ((rLastB b sz a1 i1 f1 p1 T1 cn1).1) ((rLastB b sz a1 i1 f1 p1 T1 cn1).2.1) ((rLastB b sz a1 i1 f1 p1 T1 cn1).2.2.1) ((rLastB b sz a1 i1 f1 p1 T1 cn1).2.2.2.1) ((rLastB b sz a1 i1 f1 p1 T1 cn1).2.2.2.2.1) ((rLastB b sz a1 i1 f1 p1 T1 cn1).2.2.2.2.2) κ10 (by omega) (by omega) hR10 hN10 hB11 (fun r h => by rw [hk10 r (by omega), hf r h]) (by rw [hres, hfu, rGo_s hgo, (show rStep b sz a1 i1 f1 p1 T1 cn1 = rLastB b sz a1 i1 f1 p1 T1 cn1 by unfold rStep; rw [if_pos (by omega)])]) (by have hq : rGood b sz (2000 - (k + 1)).toNat (rStep b sz a1 i1 f1 p1 T1 cn1) := hgd2.2; rw [(show rStep b sz a1 i1 f1 p1 T1 cn1 = rLastB b sz a1 i1 f1 p1 T1 cn1 by unfold rStep; rw [if_pos (by omega)])] at hq; exact hq) _ _ ls hM hS (lv_sub hl [0, 2, 3] rfl)
  obtain ⟨ls, hls, hl⟩ := mw_entry (m := m) [.ref (L 14), .int (iI n0)] (n := 4) (Nat.le_of_ble_eq_true rfl) hargs
  refine W.eq hls ?_
  have hl : lv_has ls 4 [(0, .ref (L 14)), (1, .int (iI n0))] := hl
  refine lv_aload_n hx hb d_Reader_readAll_0 rfl (lv_at hl 0 rfl) ?_
  refine lv_iconst (v := iI (0)) hx hb d_Reader_readAll_1 rfl ?_
  refine mw_put (ci := 2) (i := 14) (v := .int (iI 0)) (C := R_Reader) (T := T_Reader) (N := 6) hx hb hts in_Reader ty_Reader ty_Reader_ok nm_Reader hown hK hM hS hR rfl rfl 4 (by decide) (hts _ m_170) rfl (ty_Reader_ok 4 (by decide)) rfl rfl (Nat.le_of_ble_eq_true rfl) d_Reader_readAll_2 (fun κ12 H locs e12 hk12 hM hS => ?_)
  have e12 : κ12 14 = some (.inr (2, [.ref (L 6), .ref (L 2), .int (iI ra), .int (iI ri), .int (iI 0), .int (iI rp)])) := e12
  have hN13 := nds_keep hN (fun r h1 h2 => hk12 r (by omega)) (fun r h1 h2 => rfl) rfl
  have hB14 := bxs_keep hB (hk12 2 (by omega)) (hk12 3 (by omega)) rfl
  refine lv_aload_n hx hb d_Reader_readAll_5 rfl (lv_at hl 0 rfl) ?_
  refine lv_iconst (v := iI (-1)) hx hb d_Reader_readAll_6 rfl ?_
  refine mw_put (ci := 2) (i := 14) (v := .int (iI (-1))) (C := R_Reader) (T := T_Reader) (N := 6) hx hb hts in_Reader ty_Reader ty_Reader_ok nm_Reader hown hK hM hS e12 rfl rfl 5 (by decide) (hts _ m_171) rfl (ty_Reader_ok 5 (by decide)) rfl rfl (Nat.le_of_ble_eq_true rfl) d_Reader_readAll_7 (fun κ15 H locs e15 hk15 hM hS => ?_)
  have e15 : κ15 14 = some (.inr (2, [.ref (L 6), .ref (L 2), .int (iI ra), .int (iI ri), .int (iI 0), .int (iI (-1))])) := e15
  have hN16 := nds_keep hN13 (fun r h1 h2 => hk15 r (by omega)) (fun r h1 h2 => rfl) rfl
  have hB17 := bxs_keep hB14 (hk15 2 (by omega)) (hk15 3 (by omega)) rfl
  refine lv_aload_n hx hb d_Reader_readAll_10 rfl (lv_at hl 0 rfl) ?_
  refine lv_iconst (v := iI (0)) hx hb d_Reader_readAll_11 rfl ?_
  refine mw_put (ci := 2) (i := 14) (v := .int (iI 0)) (C := R_Reader) (T := T_Reader) (N := 6) hx hb hts in_Reader ty_Reader ty_Reader_ok nm_Reader hown hK hM hS e15 rfl rfl 2 (by decide) (hts _ m_168) rfl (ty_Reader_ok 2 (by decide)) rfl rfl (Nat.le_of_ble_eq_true rfl) d_Reader_readAll_12 (fun κ18 H locs e18 hk18 hM hS => ?_)
  have e18 : κ18 14 = some (.inr (2, [.ref (L 6), .ref (L 2), .int (iI 0), .int (iI ri), .int (iI 0), .int (iI (-1))])) := e18
  have hN19 := nds_keep hN16 (fun r h1 h2 => hk18 r (by omega)) (fun r h1 h2 => rfl) rfl
  have hB20 := bxs_keep hB17 (hk18 2 (by omega)) (hk18 3 (by omega)) rfl
  refine lv_aload_n hx hb d_Reader_readAll_15 rfl (lv_at hl 0 rfl) ?_
  refine lv_iconst (v := iI (-1)) hx hb d_Reader_readAll_16 rfl ?_
  refine mw_put (ci := 2) (i := 14) (v := .int (iI (-1))) (C := R_Reader) (T := T_Reader) (N := 6) hx hb hts in_Reader ty_Reader ty_Reader_ok nm_Reader hown hK hM hS e18 rfl rfl 3 (by decide) (hts _ m_169) rfl (ty_Reader_ok 3 (by decide)) rfl rfl (Nat.le_of_ble_eq_true rfl) d_Reader_readAll_17 (fun κ21 H locs e21 hk21 hM hS => ?_)
  have e21 : κ21 14 = some (.inr (2, [.ref (L 6), .ref (L 2), .int (iI 0), .int (iI (-1)), .int (iI 0), .int (iI (-1))])) := e21
  have hN22 := nds_keep hN19 (fun r h1 h2 => hk21 r (by omega)) (fun r h1 h2 => rfl) rfl
  have hB23 := bxs_keep hB20 (hk21 2 (by omega)) (hk21 3 (by omega)) rfl
  refine lv_aload_n hx hb d_Reader_readAll_20 rfl (lv_at hl 0 rfl) ?_
  refine mw_get (ci := 2) (i := 14) (v := .ref (L 6)) (C := R_Reader) (T := T_Reader) (N := 6) hx hb hts in_Reader hown hK hM e21 rfl rfl 0 (by decide) (hts _ m_166) rfl d_Reader_readAll_21 ?_
  refine lv_aload_n hx hb d_Reader_readAll_24 rfl (lv_at hl 0 rfl) ?_
  refine mw_get (ci := 2) (i := 14) (v := .ref (L 2)) (C := R_Reader) (T := T_Reader) (N := 6) hx hb hts in_Reader hown hK hM e21 rfl rfl 1 (by decide) (hts _ m_167) rfl d_Reader_readAll_25 ?_
  refine mw_callV (i := 6) (As := [.ref (L 2)]) (rest := []) ⟨hx, hb, hml, hown, hts⟩ hK hM hS rfl hN22.1 rfl (c_Nodes_begin l D g lo L κ21 T cnt d0 hN22 2) (cwV 1 hts (gV m_234 m_235 m_236 m_56 m_237) rfl rfl rfl (by decide +kernel) ⟨Nat.le_of_ble_eq_true rfl, Nat.le_of_ble_eq_true rfl⟩) rfl hl.1 rfl (Nat.le_of_ble_eq_true rfl) d_Reader_readAll_28 ⟨Nat.le_of_ble_eq_true rfl, Nat.le_of_ble_eq_true rfl⟩ (fun v24 L24 κ24 H locs hp24 hM hS => ?_)
  obtain ⟨rfl, rfl, hN24, hk24⟩ := hp24
  have hB25 := bxs_keep hB23 (hk24 2 (by omega)) (hk24 3 (by omega)) rfl
  have e26 := (hk24 14 (by omega)).trans e21
  refine lv_aload_n hx hb d_Reader_readAll_31 rfl (lv_at hl 0 rfl) ?_
  refine lv_iconst (v := iI (3)) hx hb d_Reader_readAll_32 rfl ?_
  refine lv_iconst (v := iI (-1)) hx hb d_Reader_readAll_33 rfl ?_
  refine lv_iload_n hx hb d_Reader_readAll_34 rfl (lv_at hl 1 rfl) ?_
  refine mw_callV (i := 14) (As := [.int (iI 3), .int (iI (-1)), .int (iI n0)]) (rest := []) ⟨hx, hb, hml, hown, hts⟩ hK hM hS rfl e26 rfl (c_Reader_readSize l D g lo L κ24 T 0 hN24 mo n sz b hB25 0 (-1) 0 (-1) e26 (by omega) (by omega) 3 (-1) n0 hcn (by omega) (by omega) (by omega)) (cwV 3 hts (gV m_238 m_240 m_0 m_57 m_241) rfl rfl rfl (by decide +kernel) ⟨Nat.le_of_ble_eq_true rfl, Nat.le_of_ble_eq_true rfl⟩) rfl hl.1 rfl (Nat.le_of_ble_eq_true rfl) d_Reader_readAll_35 ⟨Nat.le_of_ble_eq_true rfl, Nat.le_of_ble_eq_true rfl⟩ (fun v27 L27 κ27 H locs hp27 hM hS => ?_)
  obtain ⟨rfl, rfl, hR27, hN27, hk27⟩ := hp27
  have hR27 : rds L κ27 ((rSize b sz 3 (-1) n0 0 (-1) 0 (-1) T 0).1) ((rSize b sz 3 (-1) n0 0 (-1) 0 (-1) T 0).2.1) ((rSize b sz 3 (-1) n0 0 (-1) 0 (-1) T 0).2.2.1) ((rSize b sz 3 (-1) n0 0 (-1) 0 (-1) T 0).2.2.2.1) := hR27
  have hN27 : nds g L κ27 ((rSize b sz 3 (-1) n0 0 (-1) 0 (-1) T 0).2.2.2.2.1) ((rSize b sz 3 (-1) n0 0 (-1) 0 (-1) T 0).2.2.2.2.2) 2 := hN27
  have hB28 := bxs_keep hB25 (hk27 2 (by omega)) (hk27 3 (by omega)) rfl
  refine lv_iconst (v := iI (0)) hx hb d_Reader_readAll_38 rfl ?_
  refine lv_istore_n (lv' := [(2, .int (iI 0)), (0, .ref (L 14)), (1, .int (iI n0))]) hx hb d_Reader_readAll_39 rfl hl (by decide) rfl (fun ls hl => ?_)
  exact loop40 _ 0 ((rSize b sz 3 (-1) n0 0 (-1) 0 (-1) T 0).1) ((rSize b sz 3 (-1) n0 0 (-1) 0 (-1) T 0).2.1) ((rSize b sz 3 (-1) n0 0 (-1) 0 (-1) T 0).2.2.1) ((rSize b sz 3 (-1) n0 0 (-1) 0 (-1) T 0).2.2.2.1) ((rSize b sz 3 (-1) n0 0 (-1) 0 (-1) T 0).2.2.2.2.1) ((rSize b sz 3 (-1) n0 0 (-1) 0 (-1) T 0).2.2.2.2.2) κ27 (Nat.lt_succ_self _) (by omega) hR27 hN27 hB28 (fun r h => by rw [hk27 r (by omega), hk24 r (by omega), hk21 r (by omega), hk18 r (by omega), hk15 r (by omega), hk12 r (by omega)]) rfl hgood _ _ ls hM hS (lv_sub hl [0, 1, 2] rfl)
end
section
/-! SCAN: the table of right bytes. Its state: at, inside, the table -/
abbrev sS : Type := Int × Int × (Nat → Nat → Int) × Nat
def scVal (b : Nat → Int) (sz : Nat) (at_ : Int) : Int := bFz b sz (at_ + 1) sz + 1
def scLen (b : Nat → Int) (sz : Nat) (at_ : Int) : Int := kVlen (bGet b sz at_) b sz (scVal b sz at_)
def scStep (b : Nat → Int) (sz : Nat) (at_ ins : Int) (T : Nat → Nat → Int) (cnt : Nat) : sS :=
  if nLast T cnt ins ≤ at_ then (at_ + 1, nCell T cnt 1 ins, T, cnt)
  else (scVal b sz at_ + (if kHold (bGet b sz at_) = true then 4 else scLen b sz at_), (if kHold (bGet b sz at_) = true then (cnt : Int) else ins), nApp T cnt (bGet b sz at_) ins (at_ + 1) (scVal b sz at_) (scLen b sz at_), cnt + 1)
def scGo (b : Nat → Int) (sz : Nat) : Nat → sS → sS
  | 0, s => s
  | N + 1, s => if 0 ≤ s.2.1 then scGo b sz N (scStep b sz s.1 s.2.1 s.2.2.1 s.2.2.2) else s
def scGood (b : Nat → Int) (sz : Nat) : Nat → sS → Prop
  | 0, s => -1000000 ≤ s.2.1 ∧ s.2.1 ≤ 1000000
  | N + 1, s => (-1000000 ≤ s.2.1 ∧ s.2.1 ≤ 1000000) ∧ (0 ≤ s.2.1 → ((0 ≤ s.1 ∧ s.1 ≤ 90000) ∧ s.2.1 < s.2.2.2 ∧ s.2.2.2 < 700 ∧ (0 ≤ nLast s.2.2.1 s.2.2.2 s.2.1 ∧ nLast s.2.2.1 s.2.2.2 s.2.1 ≤ 90000) ∧ (0 ≤ scLen b sz s.1 ∧ scLen b sz s.1 ≤ 90000)) ∧ scGood b sz N (scStep b sz s.1 s.2.1 s.2.2.1 s.2.2.2))
theorem scGood_in {b : Nat → Int} {sz : Nat} {N : Nat} {s : sS} (h : scGood b sz N s) : -1000000 ≤ s.2.1 ∧ s.2.1 ≤ 1000000 := by
  cases N with
  | zero => exact h
  | succ N => exact h.1
def scStart (sz : Nat) (T : Nat → Nat → Int) : sS := (4, 0, nApp T 0 3 (-1) (-1) 0 sz, 1)
def scAll (b : Nat → Int) (sz : Nat) (T : Nat → Nat → Int) : sS := scGo b sz 2000 (scStart sz T)
theorem scGo_0 {b : Nat → Int} {sz : Nat} {N : Nat} {s : sS} (h : N = 0) : scGo b sz N s = s := by rw [h]; rfl
theorem scGo_e {b : Nat → Int} {sz : Nat} {N : Nat} {s : sS} (h : 0 ≤ s.2.1 → False) : scGo b sz N s = s := by
  cases N with
  | zero => rfl
  | succ N => exact if_neg h
theorem scGo_s {b : Nat → Int} {sz : Nat} {N : Nat} {s : sS} (h : 0 ≤ s.2.1) : scGo b sz (N + 1) s = scGo b sz N (scStep b sz s.1 s.2.1 s.2.2.1 s.2.2.2) := if_pos h
end
section
set_option maxHeartbeats 4000000 in
set_option maxRecDepth 100000 in
theorem c_Nodes_scan (l : Launch) (D : va_G) (g : Nat → ClassId) (lo : Nat) (L : Nat → Nat) (κ : Nat → Option va_E) (T : Nat → Nat → Int) (cnt d : Nat) (hN : nds g L κ T cnt d) (i j mo n sz : Nat) (b : Nat → Int) (hB : bxs g L κ i j mo n sz b) (hi : (i < 6 ∨ 14 < i) ∧ (j < 6 ∨ 14 < j)) (hgood : scGood b sz 2000 (scStart sz T)) : Met l y_Nodes_scan w_Nodes_scan ({ frames := 3, cells := 0, slots := 0, locals := 68 }) (mwP D vwCl (tyL g) lo L κ [.ref (L 6), .ref (L i)]) (mwQ D vwCl lo (fun v L1 κ1 => v = none ∧ L = L1 ∧ nds g L κ1 (scAll b sz T).2.2.1 (scAll b sz T).2.2.2 i ∧ ∀ r, (r < 6 ∨ 14 ≤ r) → κ1 r = κ r)) 0 0 (fun q => lo ≤ q) := by
  have hc0 := hN.2.2.1
  obtain ⟨hz1, hz2, hz3⟩ := hB.2.2.1
  have hij := bxs_ne hB
  refine Met.ofW (cc := b_Nodes_scan) (maxL := 10) (ret := (Option.none : Option Jvm.ClassFile.FieldType)) (by decide) rfl ?_
  intro p e s m args below meth c s₁ B hml hpre
  obtain ⟨hargs, hM, hK⟩ := hpre
  have hx := B.exec
  have hb := B.bytes
  have hr := B.returns
  have hts : ∀ w ∈ wA, w.before args s = true := fun w h => atoms_spec (ws := w_Nodes_scan) B.pre w (List.mem_cons_of_mem _ h)
  have hown : s.vm.findClass R_Nodes = some m.cls := findClass_of_methodNamed B.named
  have hlocks := B.notSynchronized
  have hS : va_S (fun q => lo ≤ q) s.heap s.heap [] := va_S.rf
  have loop23 : ∀ (N : Nat) (k : Int) (a1 : Int) (i1 : Int) (T1 : Nat → Nat → Int) (cn1 : Nat) (κ1 : Nat → Option va_E), (2000 - k).toNat < N → (0 ≤ k ∧ k ≤ 2000) → (nds g L κ1 T1 cn1 i) → (bxs g L κ1 i j mo n sz b) → (∀ r, (r < 6 ∨ 14 ≤ r) → κ1 r = κ r) → (scAll b sz T = scGo b sz (2000 - k).toNat (a1, i1, T1, cn1)) → (scGood b sz (2000 - k).toNat (a1, i1, T1, cn1)) → ∀ (H : Heap) (locs : List Loc) (ls : Array Slot), mw D vwCl lo L κ1 H → va_S (fun q => lo ≤ q) s.heap H locs → lv_has ls 10 [(4, .int (iI k)), (3, .int (iI a1)), (2, .int (iI i1)), (0, .ref (L 6)), (1, .ref (L i))] → W p l e (headSpec w_Nodes_scan ({ frames := 3, cells := 0, slots := 0, locals := 68 })).room s m args below meth c H locs 0 0 (MQ below (mwQ D vwCl lo (fun v L1 κ1 => v = none ∧ L = L1 ∧ nds g L κ1 (scAll b sz T).2.2.1 (scAll b sz T).2.2.2 i ∧ ∀ r, (r < 6 ∨ 14 ≤ r) → κ1 r = κ r)) args s 0 0 (fun q => lo ≤ q)) (F0 m 23 ls []) := by
    intro N
    induction N with
    | zero => intro k a1 i1 T1 cn1 κ1 hms; exact absurd hms (Nat.not_lt_zero _)
    | succ N ih =>
      intro k a1 i1 T1 cn1 κ1 hms hk hN1 hB1 hf hres hgd H locs ls hM hS hl
      have hin := scGood_in hgd
      have hin1 : -1000000 ≤ i1 ∧ i1 ≤ 1000000 := hin
      refine lv_iload hx hb d_Nodes_scan_23 (lv_at hl 0 rfl) ?_
      refine lv_sipush (v := iI (2000)) hx hb d_Nodes_scan_25 (by decide) ?_
      refine ia_icmp_ge (a := k) (b := 2000) (tgt := 144) hx hb d_Nodes_scan_28 (by decide) (by omega) (by omega) (fun c1 => ?_) (fun c1 => ?_)
      · have hS0 : scAll b sz T = (a1, i1, T1, cn1) := hres.trans (scGo_0 (N := (2000 - k).toNat) (by omega))
        exact mw_vret hx hb hr hM hS hlocks d_Nodes_scan_144 (by rw [hS0]; exact ⟨rfl, rfl, hN1, hf⟩)
      · refine lv_iload_n hx hb d_Nodes_scan_31 rfl (lv_at hl 2 rfl) ?_
        refine ia_if_lt (a := i1) (tgt := 144) hx hb d_Nodes_scan_32 (by decide) (by omega) (fun c2 => ?_) (fun c2 => ?_)
        · have hS0 : scAll b sz T = (a1, i1, T1, cn1) := hres.trans (scGo_e (s := (a1, i1, T1, cn1)) (fun q => absurd q (by show ¬ (0 ≤ i1); omega)))
          exact mw_vret hx hb hr hM hS hlocks d_Nodes_scan_144 (by rw [hS0]; exact ⟨rfl, rfl, hN1, hf⟩)
        · have hfu : (2000 - k).toNat = (2000 - (k + 1)).toNat + 1 := by omega
          have hgo : 0 ≤ ((a1, i1, T1, cn1) : sS).2.1 := by show 0 ≤ i1; omega
          have hgd0 : scGood b sz ((2000 - (k + 1)).toNat + 1) (a1, i1, T1, cn1) := by rw [← hfu]; exact hgd
          have hgd2 := hgd0.2 hgo
          have hgd3 : (0 ≤ a1 ∧ a1 ≤ 90000) ∧ i1 < cn1 ∧ cn1 < 700 ∧ (0 ≤ nLast T1 cn1 i1 ∧ nLast T1 cn1 i1 ≤ 90000) ∧ (0 ≤ scLen b sz a1 ∧ scLen b sz a1 ≤ 90000) := hgd2.1
          refine lv_iload_n hx hb d_Nodes_scan_35 rfl (lv_at hl 1 rfl) ?_
          refine lv_aload_n hx hb d_Nodes_scan_36 rfl (lv_at hl 3 rfl) ?_
          refine lv_iload_n hx hb d_Nodes_scan_37 rfl (lv_at hl 2 rfl) ?_
          refine mw_rdV (i := 6) (As := [.int (iI i1)]) (rest := [.int (iI a1)]) ⟨hx, hb, hml, hown, hts⟩ hK hM hS rfl hN1.1 rfl (c_Nodes_lastByte l D g lo L κ1 T1 cn1 i hN1 i1 (by omega)) (cwV 1 hts (gV m_389 m_271 m_272 m_56 m_273) rfl rfl rfl (by decide +kernel) ⟨Nat.le_of_ble_eq_true rfl, Nat.le_of_ble_eq_true rfl⟩) rfl hl.1 rfl (Nat.le_of_ble_eq_true rfl) d_Nodes_scan_38 ⟨Nat.le_of_ble_eq_true rfl, Nat.le_of_ble_eq_true rfl⟩ (fun H locs hM hS => ?_)
          have r3 := nCell_r (cnt := cn1) hN1.2.2.2.1 4 i1
          have r4 := nCell_r (cnt := cn1) hN1.2.2.2.1 5 i1
          have r5 := (show nLast T1 cn1 i1 = nCell T1 cn1 4 i1 + nCell T1 cn1 5 i1 - 1 from rfl)
          refine ia_icmp_lt (a := a1) (b := nLast T1 cn1 i1) (tgt := 56) hx hb d_Nodes_scan_41 (by decide) (by omega) (by omega) (fun c6 => ?_) (fun c6 => ?_)
          · refine lv_aload_n hx hb d_Nodes_scan_56 rfl (lv_at hl 4 rfl) ?_
            refine lv_iload_n hx hb d_Nodes_scan_57 rfl (lv_at hl 1 rfl) ?_
            refine mw_rdV (i := i) (As := [.int (iI a1)]) (rest := []) ⟨hx, hb, hml, hown, hts⟩ hK hM hS rfl hB1.1 rfl (c_Bytes_get l D g lo L κ1 i j mo n sz b hB1 a1 (by omega)) (cwV 1 hts (gV m_390 m_251 m_252 m_52 m_253) rfl rfl rfl (by decide +kernel) ⟨Nat.le_of_ble_eq_true rfl, Nat.le_of_ble_eq_true rfl⟩) rfl hl.1 rfl (Nat.le_of_ble_eq_true rfl) d_Nodes_scan_58 ⟨Nat.le_of_ble_eq_true rfl, Nat.le_of_ble_eq_true rfl⟩ (fun H locs hM hS => ?_)
            have r7 := bGet_r (sz := sz) hB1.2.2.2.1 a1
            refine lv_istore (lv' := [(5, .int (iI (bGet b sz a1))), (4, .int (iI k)), (3, .int (iI a1)), (2, .int (iI i1)), (0, .ref (L 6)), (1, .ref (L i))]) hx hb d_Nodes_scan_61 hl (by decide) rfl (fun ls hl => ?_)
            refine lv_aload_n hx hb d_Nodes_scan_63 rfl (lv_at hl 5 rfl) ?_
            refine lv_iload_n hx hb d_Nodes_scan_64 rfl (lv_at hl 2 rfl) ?_
            refine lv_iconst (v := iI (1)) hx hb d_Nodes_scan_65 rfl ?_
            refine ia_add hx hb d_Nodes_scan_66 ?_
            refine lv_aload_n hx hb d_Nodes_scan_67 rfl (lv_at hl 5 rfl) ?_
            refine mw_rdV (i := i) (As := []) (rest := [.int (iI (a1 + 1)), .ref (L i)]) ⟨hx, hb, hml, hown, hts⟩ hK hM hS rfl hB1.1 rfl (c_Bytes_size l D g lo L κ1 i j mo n sz b hB1 ) (cwV 0 hts (gV m_387 m_212 m_213 m_52 m_214) rfl rfl rfl (by decide +kernel) ⟨Nat.le_of_ble_eq_true rfl, Nat.le_of_ble_eq_true rfl⟩) rfl hl.1 rfl (Nat.le_of_ble_eq_true rfl) d_Nodes_scan_68 ⟨Nat.le_of_ble_eq_true rfl, Nat.le_of_ble_eq_true rfl⟩ (fun H locs hM hS => ?_)
            refine mw_rdV (i := i) (As := [.int (iI (a1 + 1)), .int (iI sz)]) (rest := []) ⟨hx, hb, hml, hown, hts⟩ hK hM hS rfl hB1.1 rfl (c_Bytes_firstZero l D g lo L κ1 i j mo n sz b hB1 (a1 + 1) sz (by omega) (by omega)) (cwV 2 hts (gV m_391 m_299 m_300 m_52 m_301) rfl rfl rfl (by decide +kernel) ⟨Nat.le_of_ble_eq_true rfl, Nat.le_of_ble_eq_true rfl⟩) rfl hl.1 rfl (Nat.le_of_ble_eq_true rfl) d_Nodes_scan_71 ⟨Nat.le_of_ble_eq_true rfl, Nat.le_of_ble_eq_true rfl⟩ (fun H locs hM hS => ?_)
            have r8 := bFz_r b sz (a1 + 1) sz
            refine lv_iconst (v := iI (1)) hx hb d_Nodes_scan_74 rfl ?_
            refine ia_add hx hb d_Nodes_scan_75 ?_
            refine lv_istore (lv' := [(6, .int (iI ((bFz b sz (a1 + 1) sz) + 1))), (5, .int (iI (bGet b sz a1))), (4, .int (iI k)), (3, .int (iI a1)), (2, .int (iI i1)), (0, .ref (L 6)), (1, .ref (L i))]) hx hb d_Nodes_scan_76 hl (by decide) rfl (fun ls hl => ?_)
            refine lv_iload hx hb d_Nodes_scan_78 (lv_at hl 1 rfl) ?_
            refine lv_aload_n hx hb d_Nodes_scan_80 rfl (lv_at hl 6 rfl) ?_
            refine lv_iload hx hb d_Nodes_scan_81 (lv_at hl 0 rfl) ?_
            refine mw_rdS (As := [.int (iI (bGet b sz a1)), .ref (L i), .int (iI ((bFz b sz (a1 + 1) sz) + 1))]) (rest := []) ⟨hx, hb, hml, hown, hts⟩ hK hM hS (c_Kinds_valueLength l D g lo L κ1 i j mo n sz b hB1 (bGet b sz a1) ((bFz b sz (a1 + 1) sz) + 1) (by omega) (by omega)) (va_cwS 3 hts (gT m_392 m_393 m_59 m_394) rfl rfl rfl (by decide +kernel) ⟨Nat.le_of_ble_eq_true rfl, Nat.le_of_ble_eq_true rfl⟩) rfl hl.1 rfl (Nat.le_of_ble_eq_true rfl) d_Nodes_scan_83 ⟨Nat.le_of_ble_eq_true rfl, Nat.le_of_ble_eq_true rfl⟩ (fun H locs hM hS => ?_)
            have r9 : 0 ≤ kVlen (bGet b sz a1) b sz ((bFz b sz (a1 + 1) sz) + 1) ∧ kVlen (bGet b sz a1) b sz ((bFz b sz (a1 + 1) sz) + 1) ≤ 90000 := hgd3.2.2.2.2
            refine lv_istore (lv' := [(7, .int (iI (kVlen (bGet b sz a1) b sz ((bFz b sz (a1 + 1) sz) + 1)))), (6, .int (iI ((bFz b sz (a1 + 1) sz) + 1))), (5, .int (iI (bGet b sz a1))), (4, .int (iI k)), (3, .int (iI a1)), (2, .int (iI i1)), (0, .ref (L 6)), (1, .ref (L i))]) hx hb d_Nodes_scan_86 hl (by decide) rfl (fun ls hl => ?_)
            refine lv_aload_n hx hb d_Nodes_scan_88 rfl (lv_at hl 6 rfl) ?_
            refine lv_iload hx hb d_Nodes_scan_89 (lv_at hl 2 rfl) ?_
            refine lv_iload_n hx hb d_Nodes_scan_91 rfl (lv_at hl 5 rfl) ?_
            refine lv_iload_n hx hb d_Nodes_scan_92 rfl (lv_at hl 4 rfl) ?_
            refine lv_iconst (v := iI (1)) hx hb d_Nodes_scan_93 rfl ?_
            refine ia_add hx hb d_Nodes_scan_94 ?_
            refine lv_iload hx hb d_Nodes_scan_95 (lv_at hl 1 rfl) ?_
            refine lv_iload hx hb d_Nodes_scan_97 (lv_at hl 0 rfl) ?_
            refine mw_callV (i := 6) (As := [.int (iI (bGet b sz a1)), .int (iI i1), .int (iI (a1 + 1)), .int (iI ((bFz b sz (a1 + 1) sz) + 1)), .int (iI (kVlen (bGet b sz a1) b sz ((bFz b sz (a1 + 1) sz) + 1)))]) (rest := []) ⟨hx, hb, hml, hown, hts⟩ hK hM hS rfl hN1.1 rfl (c_Nodes_append l D g lo L κ1 T1 cn1 i hN1 (bGet b sz a1) i1 (a1 + 1) ((bFz b sz (a1 + 1) sz) + 1) (kVlen (bGet b sz a1) b sz ((bFz b sz (a1 + 1) sz) + 1)) (by omega) (by omega) (by omega) (by omega) (by omega) (by omega)) (cwV 5 hts (gV m_388 m_264 m_265 m_56 m_266) rfl rfl rfl (by decide +kernel) ⟨Nat.le_of_ble_eq_true rfl, Nat.le_of_ble_eq_true rfl⟩) rfl hl.1 rfl (Nat.le_of_ble_eq_true rfl) d_Nodes_scan_99 ⟨Nat.le_of_ble_eq_true rfl, Nat.le_of_ble_eq_true rfl⟩ (fun v10 L10 κ10 H locs hp10 hM hS => ?_)
            obtain ⟨rfl, rfl, hN10, hk10⟩ := hp10
            have hB11 := bxs_keep hB1 (hk10 i (by omega)) (hk10 j (by omega)) rfl
            refine lv_istore (lv' := [(8, .int (iI cn1)), (7, .int (iI (kVlen (bGet b sz a1) b sz ((bFz b sz (a1 + 1) sz) + 1)))), (6, .int (iI ((bFz b sz (a1 + 1) sz) + 1))), (5, .int (iI (bGet b sz a1))), (4, .int (iI k)), (3, .int (iI a1)), (2, .int (iI i1)), (0, .ref (L 6)), (1, .ref (L i))]) hx hb d_Nodes_scan_102 hl (by decide) rfl (fun ls hl => ?_)
            refine lv_iload hx hb d_Nodes_scan_104 (lv_at hl 3 rfl) ?_
            refine mw_rdS (As := [.int (iI (bGet b sz a1))]) (rest := []) ⟨hx, hb, hml, hown, hts⟩ hK hM hS (c_Kinds_hold l D g lo L κ10 (bGet b sz a1) (by omega)) (va_cwS 1 hts (gT m_267 m_268 m_59 m_269) rfl rfl rfl (by decide +kernel) ⟨Nat.le_of_ble_eq_true rfl, Nat.le_of_ble_eq_true rfl⟩) rfl hl.1 rfl (Nat.le_of_ble_eq_true rfl) d_Nodes_scan_106 ⟨Nat.le_of_ble_eq_true rfl, Nat.le_of_ble_eq_true rfl⟩ (fun H locs hM hS => ?_)
            refine lv_istore (lv' := [(9, .int (iI (bI (kHold (bGet b sz a1))))), (8, .int (iI cn1)), (7, .int (iI (kVlen (bGet b sz a1) b sz ((bFz b sz (a1 + 1) sz) + 1)))), (6, .int (iI ((bFz b sz (a1 + 1) sz) + 1))), (5, .int (iI (bGet b sz a1))), (4, .int (iI k)), (3, .int (iI a1)), (2, .int (iI i1)), (0, .ref (L 6)), (1, .ref (L i))]) hx hb d_Nodes_scan_109 hl (by decide) rfl (fun ls hl => ?_)
            refine lv_iload hx hb d_Nodes_scan_111 (lv_at hl 3 rfl) ?_
            refine lv_iload hx hb d_Nodes_scan_113 (lv_at hl 0 rfl) ?_
            refine ia_ifz_eq (x := kHold (bGet b sz a1)) (tgt := 122) hx hb d_Nodes_scan_115 (by decide) (fun c12 => ?_) (fun c12 => ?_)
            · refine lv_iload hx hb d_Nodes_scan_122 (lv_at hl 2 rfl) ?_
              refine ia_add hx hb d_Nodes_scan_124 ?_
              refine lv_istore_n (lv' := [(3, .int (iI (((bFz b sz (a1 + 1) sz) + 1) + (kVlen (bGet b sz a1) b sz ((bFz b sz (a1 + 1) sz) + 1))))), (9, .int (iI (bI (kHold (bGet b sz a1))))), (8, .int (iI cn1)), (7, .int (iI (kVlen (bGet b sz a1) b sz ((bFz b sz (a1 + 1) sz) + 1)))), (6, .int (iI ((bFz b sz (a1 + 1) sz) + 1))), (5, .int (iI (bGet b sz a1))), (4, .int (iI k)), (2, .int (iI i1)), (0, .ref (L 6)), (1, .ref (L i))]) hx hb d_Nodes_scan_125 rfl hl (by decide) rfl (fun ls hl => ?_)
              refine lv_iload hx hb d_Nodes_scan_126 (lv_at hl 1 rfl) ?_
              refine ia_ifz_eq (x := kHold (bGet b sz a1)) (tgt := 136) hx hb d_Nodes_scan_128 (by decide) (fun c13 => ?_) (fun c13 => ?_)
              · refine lv_iload_n hx hb d_Nodes_scan_136 rfl (lv_at hl 7 rfl) ?_
                refine lv_istore_n (lv' := [(2, .int (iI i1)), (3, .int (iI (((bFz b sz (a1 + 1) sz) + 1) + (kVlen (bGet b sz a1) b sz ((bFz b sz (a1 + 1) sz) + 1))))), (9, .int (iI (bI (kHold (bGet b sz a1))))), (8, .int (iI cn1)), (7, .int (iI (kVlen (bGet b sz a1) b sz ((bFz b sz (a1 + 1) sz) + 1)))), (6, .int (iI ((bFz b sz (a1 + 1) sz) + 1))), (5, .int (iI (bGet b sz a1))), (4, .int (iI k)), (0, .ref (L 6)), (1, .ref (L i))]) hx hb d_Nodes_scan_137 rfl hl (by decide) rfl (fun ls hl => ?_)
                refine lv_iinc (v := iI (k + 1)) (lv' := [(4, .int (iI (k + 1))), (2, .int (iI i1)), (3, .int (iI (((bFz b sz (a1 + 1) sz) + 1) + (kVlen (bGet b sz a1) b sz ((bFz b sz (a1 + 1) sz) + 1))))), (9, .int (iI (bI (kHold (bGet b sz a1))))), (8, .int (iI cn1)), (7, .int (iI (kVlen (bGet b sz a1) b sz ((bFz b sz (a1 + 1) sz) + 1)))), (6, .int (iI ((bFz b sz (a1 + 1) sz) + 1))), (5, .int (iI (bGet b sz a1))), (0, .ref (L 6)), (1, .ref (L i))]) hx hb d_Nodes_scan_138 hl (k := 7) rfl (iI_inc _ _) (by decide) rfl (fun ls hl => ?_)
                refine lv_goto (tgt := 23) hx hb d_Nodes_scan_141 (by decide) ?_
                exact ih (k + 1) (((bFz b sz (a1 + 1) sz) + 1) + (kVlen (bGet b sz a1) b sz ((bFz b sz (a1 + 1) sz) + 1))) i1 (nApp T1 cn1 (bGet b sz a1) i1 (a1 + 1) ((bFz b sz (a1 + 1) sz) + 1) (kVlen (bGet b sz a1) b sz ((bFz b sz (a1 + 1) sz) + 1))) (cn1 + 1) κ10 (by omega) (by omega) hN10 hB11 (fun r h => by rw [hk10 r (by omega), hf r h]) (by rw [hres, hfu, scGo_s hgo, (show scStep b sz a1 i1 T1 cn1 = ((((bFz b sz (a1 + 1) sz) + 1) + (kVlen (bGet b sz a1) b sz ((bFz b sz (a1 + 1) sz) + 1)) : Int), (i1 : Int), nApp T1 cn1 (bGet b sz a1) i1 (a1 + 1) ((bFz b sz (a1 + 1) sz) + 1) (kVlen (bGet b sz a1) b sz ((bFz b sz (a1 + 1) sz) + 1)), cn1 + 1) by unfold scStep; rw [if_neg (by omega), if_neg (zne (by assumption)), if_neg (zne (by assumption))] <;> rfl)]) (by have hq : scGood b sz (2000 - (k + 1)).toNat (scStep b sz a1 i1 T1 cn1) := hgd2.2; rw [(show scStep b sz a1 i1 T1 cn1 = ((((bFz b sz (a1 + 1) sz) + 1) + (kVlen (bGet b sz a1) b sz ((bFz b sz (a1 + 1) sz) + 1)) : Int), (i1 : Int), nApp T1 cn1 (bGet b sz a1) i1 (a1 + 1) ((bFz b sz (a1 + 1) sz) + 1) (kVlen (bGet b sz a1) b sz ((bFz b sz (a1 + 1) sz) + 1)), cn1 + 1) by unfold scStep; rw [if_neg (by omega), if_neg (zne (by assumption)), if_neg (zne (by assumption))] <;> rfl)] at hq; exact hq) _ _ ls hM hS (lv_sub hl [0, 2, 1, 8, 9] rfl)
              · exact absurd (c12.symm.trans c13) (by decide)
            · refine lv_iconst (v := iI (4)) hx hb d_Nodes_scan_118 rfl ?_
              refine lv_goto (tgt := 124) hx hb d_Nodes_scan_119 (by decide) ?_
              refine ia_add hx hb d_Nodes_scan_124 ?_
              refine lv_istore_n (lv' := [(3, .int (iI (((bFz b sz (a1 + 1) sz) + 1) + 4))), (9, .int (iI (bI (kHold (bGet b sz a1))))), (8, .int (iI cn1)), (7, .int (iI (kVlen (bGet b sz a1) b sz ((bFz b sz (a1 + 1) sz) + 1)))), (6, .int (iI ((bFz b sz (a1 + 1) sz) + 1))), (5, .int (iI (bGet b sz a1))), (4, .int (iI k)), (2, .int (iI i1)), (0, .ref (L 6)), (1, .ref (L i))]) hx hb d_Nodes_scan_125 rfl hl (by decide) rfl (fun ls hl => ?_)
              refine lv_iload hx hb d_Nodes_scan_126 (lv_at hl 1 rfl) ?_
              refine ia_ifz_eq (x := kHold (bGet b sz a1)) (tgt := 136) hx hb d_Nodes_scan_128 (by decide) (fun c14 => ?_) (fun c14 => ?_)
              · exact absurd (c12.symm.trans c14) (by decide)
              · refine lv_iload hx hb d_Nodes_scan_131 (lv_at hl 2 rfl) ?_
                refine lv_goto (tgt := 137) hx hb d_Nodes_scan_133 (by decide) ?_
                refine lv_istore_n (lv' := [(2, .int (iI cn1)), (3, .int (iI (((bFz b sz (a1 + 1) sz) + 1) + 4))), (9, .int (iI (bI (kHold (bGet b sz a1))))), (8, .int (iI cn1)), (7, .int (iI (kVlen (bGet b sz a1) b sz ((bFz b sz (a1 + 1) sz) + 1)))), (6, .int (iI ((bFz b sz (a1 + 1) sz) + 1))), (5, .int (iI (bGet b sz a1))), (4, .int (iI k)), (0, .ref (L 6)), (1, .ref (L i))]) hx hb d_Nodes_scan_137 rfl hl (by decide) rfl (fun ls hl => ?_)
                refine lv_iinc (v := iI (k + 1)) (lv' := [(4, .int (iI (k + 1))), (2, .int (iI cn1)), (3, .int (iI (((bFz b sz (a1 + 1) sz) + 1) + 4))), (9, .int (iI (bI (kHold (bGet b sz a1))))), (8, .int (iI cn1)), (7, .int (iI (kVlen (bGet b sz a1) b sz ((bFz b sz (a1 + 1) sz) + 1)))), (6, .int (iI ((bFz b sz (a1 + 1) sz) + 1))), (5, .int (iI (bGet b sz a1))), (0, .ref (L 6)), (1, .ref (L i))]) hx hb d_Nodes_scan_138 hl (k := 7) rfl (iI_inc _ _) (by decide) rfl (fun ls hl => ?_)
                refine lv_goto (tgt := 23) hx hb d_Nodes_scan_141 (by decide) ?_
                exact ih (k + 1) (((bFz b sz (a1 + 1) sz) + 1) + 4) cn1 (nApp T1 cn1 (bGet b sz a1) i1 (a1 + 1) ((bFz b sz (a1 + 1) sz) + 1) (kVlen (bGet b sz a1) b sz ((bFz b sz (a1 + 1) sz) + 1))) (cn1 + 1) κ10 (by omega) (by omega) hN10 hB11 (fun r h => by rw [hk10 r (by omega), hf r h]) (by rw [hres, hfu, scGo_s hgo, (show scStep b sz a1 i1 T1 cn1 = ((((bFz b sz (a1 + 1) sz) + 1) + 4 : Int), (cn1 : Int), nApp T1 cn1 (bGet b sz a1) i1 (a1 + 1) ((bFz b sz (a1 + 1) sz) + 1) (kVlen (bGet b sz a1) b sz ((bFz b sz (a1 + 1) sz) + 1)), cn1 + 1) by unfold scStep; rw [if_neg (by omega), if_pos (by assumption), if_pos (by assumption)] <;> rfl)]) (by have hq : scGood b sz (2000 - (k + 1)).toNat (scStep b sz a1 i1 T1 cn1) := hgd2.2; rw [(show scStep b sz a1 i1 T1 cn1 = ((((bFz b sz (a1 + 1) sz) + 1) + 4 : Int), (cn1 : Int), nApp T1 cn1 (bGet b sz a1) i1 (a1 + 1) ((bFz b sz (a1 + 1) sz) + 1) (kVlen (bGet b sz a1) b sz ((bFz b sz (a1 + 1) sz) + 1)), cn1 + 1) by unfold scStep; rw [if_neg (by omega), if_pos (by assumption), if_pos (by assumption)] <;> rfl)] at hq; exact hq) _ _ ls hM hS (lv_sub hl [0, 2, 1, 8, 9] rfl)
          · refine lv_iinc (v := iI (a1 + 1)) (lv' := [(3, .int (iI (a1 + 1))), (4, .int (iI k)), (2, .int (iI i1)), (0, .ref (L 6)), (1, .ref (L i))]) hx hb d_Nodes_scan_44 hl (k := 1) rfl (iI_inc _ _) (by decide) rfl (fun ls hl => ?_)
            refine lv_aload_n hx hb d_Nodes_scan_47 rfl (lv_at hl 3 rfl) ?_
            refine lv_iload_n hx hb d_Nodes_scan_48 rfl (lv_at hl 2 rfl) ?_
            refine mw_rdV (i := 6) (As := [.int (iI i1)]) (rest := []) ⟨hx, hb, hml, hown, hts⟩ hK hM hS rfl hN1.1 rfl (c_Nodes_parent l D g lo L κ1 T1 cn1 i hN1 i1 (by omega)) (cwV 1 hts (gV m_331 m_280 m_281 m_56 m_282) rfl rfl rfl (by decide +kernel) ⟨Nat.le_of_ble_eq_true rfl, Nat.le_of_ble_eq_true rfl⟩) rfl hl.1 rfl (Nat.le_of_ble_eq_true rfl) d_Nodes_scan_49 ⟨Nat.le_of_ble_eq_true rfl, Nat.le_of_ble_eq_true rfl⟩ (fun H locs hM hS => ?_)
            have r15 := nCell_r (cnt := cn1) hN1.2.2.2.1 1 i1
            refine lv_istore_n (lv' := [(2, .int (iI (nCell T1 cn1 1 i1))), (3, .int (iI (a1 + 1))), (4, .int (iI k)), (0, .ref (L 6)), (1, .ref (L i))]) hx hb d_Nodes_scan_52 rfl hl (by decide) rfl (fun ls hl => ?_)
            refine lv_goto (tgt := 138) hx hb d_Nodes_scan_53 (by decide) ?_
            refine lv_iinc (v := iI (k + 1)) (lv' := [(4, .int (iI (k + 1))), (2, .int (iI (nCell T1 cn1 1 i1))), (3, .int (iI (a1 + 1))), (0, .ref (L 6)), (1, .ref (L i))]) hx hb d_Nodes_scan_138 hl (k := 2) rfl (iI_inc _ _) (by decide) rfl (fun ls hl => ?_)
            refine lv_goto (tgt := 23) hx hb d_Nodes_scan_141 (by decide) ?_
            exact ih (k + 1) (a1 + 1) (nCell T1 cn1 1 i1) T1 cn1 κ1 (by omega) (by omega) hN1 hB1 hf (by rw [hres, hfu, scGo_s hgo, (show scStep b sz a1 i1 T1 cn1 = ((a1 + 1 : Int), (nCell T1 cn1 1 i1 : Int), T1, cn1) by unfold scStep; rw [if_pos (by omega)])]) (by have hq : scGood b sz (2000 - (k + 1)).toNat (scStep b sz a1 i1 T1 cn1) := hgd2.2; rw [(show scStep b sz a1 i1 T1 cn1 = ((a1 + 1 : Int), (nCell T1 cn1 1 i1 : Int), T1, cn1) by unfold scStep; rw [if_pos (by omega)])] at hq; exact hq) _ _ ls hM hS (lv_sub hl [0, 2, 1, 3, 4] rfl)
  obtain ⟨ls, hls, hl⟩ := mw_entry (m := m) [.ref (L 6), .ref (L i)] (n := 10) (Nat.le_of_ble_eq_true rfl) hargs
  refine W.eq hls ?_
  have hl : lv_has ls 10 [(0, .ref (L 6)), (1, .ref (L i))] := hl
  refine lv_aload_n hx hb d_Nodes_scan_0 rfl (lv_at hl 0 rfl) ?_
  refine lv_aload_n hx hb d_Nodes_scan_1 rfl (lv_at hl 1 rfl) ?_
  refine mw_callV (i := 6) (As := [.ref (L i)]) (rest := []) ⟨hx, hb, hml, hown, hts⟩ hK hM hS rfl hN.1 rfl (c_Nodes_begin l D g lo L κ T cnt d hN i) (cwV 1 hts (gV m_386 m_235 m_236 m_56 m_237) rfl rfl rfl (by decide +kernel) ⟨Nat.le_of_ble_eq_true rfl, Nat.le_of_ble_eq_true rfl⟩) rfl hl.1 rfl (Nat.le_of_ble_eq_true rfl) d_Nodes_scan_2 ⟨Nat.le_of_ble_eq_true rfl, Nat.le_of_ble_eq_true rfl⟩ (fun v16 L16 κ16 H locs hp16 hM hS => ?_)
  obtain ⟨rfl, rfl, hN16, hk16⟩ := hp16
  have hB17 := bxs_keep hB (hk16 i (by omega)) (hk16 j (by omega)) rfl
  refine lv_aload_n hx hb d_Nodes_scan_5 rfl (lv_at hl 0 rfl) ?_
  refine lv_iconst (v := iI (3)) hx hb d_Nodes_scan_6 rfl ?_
  refine lv_iconst (v := iI (-1)) hx hb d_Nodes_scan_7 rfl ?_
  refine lv_iconst (v := iI (-1)) hx hb d_Nodes_scan_8 rfl ?_
  refine lv_iconst (v := iI (0)) hx hb d_Nodes_scan_9 rfl ?_
  refine lv_aload_n hx hb d_Nodes_scan_10 rfl (lv_at hl 1 rfl) ?_
  refine mw_rdV (i := i) (As := []) (rest := [.int (iI 0), .int (iI (-1)), .int (iI (-1)), .int (iI 3), .ref (L 6)]) ⟨hx, hb, hml, hown, hts⟩ hK hM hS rfl hB17.1 rfl (c_Bytes_size l D g lo L κ16 i j mo n sz b hB17 ) (cwV 0 hts (gV m_387 m_212 m_213 m_52 m_214) rfl rfl rfl (by decide +kernel) ⟨Nat.le_of_ble_eq_true rfl, Nat.le_of_ble_eq_true rfl⟩) rfl hl.1 rfl (Nat.le_of_ble_eq_true rfl) d_Nodes_scan_11 ⟨Nat.le_of_ble_eq_true rfl, Nat.le_of_ble_eq_true rfl⟩ (fun H locs hM hS => ?_)
  refine mw_callV (i := 6) (As := [.int (iI 3), .int (iI (-1)), .int (iI (-1)), .int (iI 0), .int (iI sz)]) (rest := []) ⟨hx, hb, hml, hown, hts⟩ hK hM hS rfl hN16.1 rfl (c_Nodes_append l D g lo L κ16 T 0 i hN16 3 (-1) (-1) 0 sz (by omega) (by omega) (by omega) (by omega) (by omega) (by omega)) (cwV 5 hts (gV m_388 m_264 m_265 m_56 m_266) rfl rfl rfl (by decide +kernel) ⟨Nat.le_of_ble_eq_true rfl, Nat.le_of_ble_eq_true rfl⟩) rfl hl.1 rfl (Nat.le_of_ble_eq_true rfl) d_Nodes_scan_14 ⟨Nat.le_of_ble_eq_true rfl, Nat.le_of_ble_eq_true rfl⟩ (fun v18 L18 κ18 H locs hp18 hM hS => ?_)
  obtain ⟨rfl, rfl, hN18, hk18⟩ := hp18
  have hB19 := bxs_keep hB17 (hk18 i (by omega)) (hk18 j (by omega)) rfl
  refine lv_istore_n (lv' := [(2, .int (iI 0)), (0, .ref (L 6)), (1, .ref (L i))]) hx hb d_Nodes_scan_17 rfl hl (by decide) rfl (fun ls hl => ?_)
  refine lv_iconst (v := iI (4)) hx hb d_Nodes_scan_18 rfl ?_
  refine lv_istore_n (lv' := [(3, .int (iI 4)), (2, .int (iI 0)), (0, .ref (L 6)), (1, .ref (L i))]) hx hb d_Nodes_scan_19 rfl hl (by decide) rfl (fun ls hl => ?_)
  refine lv_iconst (v := iI (0)) hx hb d_Nodes_scan_20 rfl ?_
  refine lv_istore (lv' := [(4, .int (iI 0)), (3, .int (iI 4)), (2, .int (iI 0)), (0, .ref (L 6)), (1, .ref (L i))]) hx hb d_Nodes_scan_21 hl (by decide) rfl (fun ls hl => ?_)
  exact loop23 _ 0 4 0 (nApp T 0 3 (-1) (-1) 0 sz) 1 κ18 (Nat.lt_succ_self _) (by omega) hN18 hB19 (fun r h => by rw [hk18 r (by omega), hk16 r (by omega)]) rfl hgood _ _ ls hM hS (lv_sub hl [0, 1, 2, 3, 4] rfl)
end
