-- ===== PART A: goes FIRST, ahead of the names: the tables' words, and 'selects' of the private methods out of them =====
/-- a private method of a class that the tables say can be made, by its rows of tables_1 -/
def lw_okq (q : MethodName × Nat) : Prop := (q.1.cls ≠ "java/lang/invoke/MethodHandle" ∧ q.1.cls ≠ "java/lang/invoke/VarHandle") ∧ Cond.instantiable q.1.cls q.2 ∈ tables_1 ∧ Cond.privateMethod q.1 ∈ tables_1 ∧ Cond.instanceMethod q.1 ∈ tables_1
theorem lw_p0 : lw_okq (⟨"ThingStream", "sideToReshape", "(I)LThingStream$Side;"⟩, 5) := ⟨⟨by decide +kernel, by decide +kernel⟩, List.mem_of_getElem? (i := 17) (by decide +kernel), List.mem_of_getElem? (i := 228) (by decide +kernel), List.mem_of_getElem? (i := 229) (by decide +kernel)⟩
theorem lw_p1 : lw_okq (⟨"ThingStream", "sideOf", "(I)LThingStream$Side;"⟩, 5) := ⟨⟨by decide +kernel, by decide +kernel⟩, List.mem_of_getElem? (i := 17) (by decide +kernel), List.mem_of_getElem? (i := 232) (by decide +kernel), List.mem_of_getElem? (i := 233) (by decide +kernel)⟩
theorem lw_p2 : lw_okq (⟨"ThingStream$Things", "emptyFields", "(IILThingStream$Shapes;)V"⟩, 4) := ⟨⟨by decide +kernel, by decide +kernel⟩, List.mem_of_getElem? (i := 68) (by decide +kernel), List.mem_of_getElem? (i := 296) (by decide +kernel), List.mem_of_getElem? (i := 297) (by decide +kernel)⟩
theorem lw_p3 : lw_okq (⟨"ThingStream$Writer", "writeHandle", "(I)V"⟩, 5) := ⟨⟨by decide +kernel, by decide +kernel⟩, List.mem_of_getElem? (i := 132) (by decide +kernel), List.mem_of_getElem? (i := 393) (by decide +kernel), List.mem_of_getElem? (i := 394) (by decide +kernel)⟩
theorem lw_p4 : lw_okq (⟨"ThingStream$Writer", "writeNumber", "(JI)V"⟩, 5) := ⟨⟨by decide +kernel, by decide +kernel⟩, List.mem_of_getElem? (i := 132) (by decide +kernel), List.mem_of_getElem? (i := 397) (by decide +kernel), List.mem_of_getElem? (i := 398) (by decide +kernel)⟩
theorem lw_p5 : lw_okq (⟨"ThingStream$Writer", "writeRecord", "(II)V"⟩, 5) := ⟨⟨by decide +kernel, by decide +kernel⟩, List.mem_of_getElem? (i := 132) (by decide +kernel), List.mem_of_getElem? (i := 402) (by decide +kernel), List.mem_of_getElem? (i := 403) (by decide +kernel)⟩
theorem lw_p6 : lw_okq (⟨"ThingStream$Writer", "writeDescription", "(I)V"⟩, 5) := ⟨⟨by decide +kernel, by decide +kernel⟩, List.mem_of_getElem? (i := 132) (by decide +kernel), List.mem_of_getElem? (i := 406) (by decide +kernel), List.mem_of_getElem? (i := 407) (by decide +kernel)⟩
theorem lw_p7 : lw_okq (⟨"ThingStream$Writer", "writeNewDescription", "(I)V"⟩, 5) := ⟨⟨by decide +kernel, by decide +kernel⟩, List.mem_of_getElem? (i := 132) (by decide +kernel), List.mem_of_getElem? (i := 410) (by decide +kernel), List.mem_of_getElem? (i := 411) (by decide +kernel)⟩
theorem lw_p8 : lw_okq (⟨"ThingStream$Writer", "nextHandle", "()I"⟩, 5) := ⟨⟨by decide +kernel, by decide +kernel⟩, List.mem_of_getElem? (i := 132) (by decide +kernel), List.mem_of_getElem? (i := 416) (by decide +kernel), List.mem_of_getElem? (i := 417) (by decide +kernel)⟩
theorem lw_p9 : lw_okq (⟨"ThingStream$Writer", "writeFields", "(III)V"⟩, 5) := ⟨⟨by decide +kernel, by decide +kernel⟩, List.mem_of_getElem? (i := 132) (by decide +kernel), List.mem_of_getElem? (i := 423) (by decide +kernel), List.mem_of_getElem? (i := 424) (by decide +kernel)⟩
theorem lw_p10 : lw_okq (⟨"ThingStream$Writer", "writeRow", "(II)V"⟩, 5) := ⟨⟨by decide +kernel, by decide +kernel⟩, List.mem_of_getElem? (i := 132) (by decide +kernel), List.mem_of_getElem? (i := 430) (by decide +kernel), List.mem_of_getElem? (i := 431) (by decide +kernel)⟩
theorem lw_p11 : lw_okq (⟨"ThingStream$Reader", "filtered", "(I)V"⟩, 11) := ⟨⟨by decide +kernel, by decide +kernel⟩, List.mem_of_getElem? (i := 154) (by decide +kernel), List.mem_of_getElem? (i := 501) (by decide +kernel), List.mem_of_getElem? (i := 502) (by decide +kernel)⟩
theorem lw_p12 : lw_okq (⟨"java/lang/Throwable", "fillInStackTrace", "(I)Ljava/lang/Throwable;"⟩, 6) := ⟨⟨by decide +kernel, by decide +kernel⟩, List.mem_of_getElem? (i := 543) (by decide +kernel), List.mem_of_getElem? (i := 541) (by decide +kernel), List.mem_of_getElem? (i := 542) (by decide +kernel)⟩
theorem lw_p13 : lw_okq (⟨"ThingStream$Reader", "nextByte", "()I"⟩, 11) := ⟨⟨by decide +kernel, by decide +kernel⟩, List.mem_of_getElem? (i := 154) (by decide +kernel), List.mem_of_getElem? (i := 568) (by decide +kernel), List.mem_of_getElem? (i := 569) (by decide +kernel)⟩
theorem lw_p14 : lw_okq (⟨"ThingStream$Reader", "wrong", "(I)V"⟩, 11) := ⟨⟨by decide +kernel, by decide +kernel⟩, List.mem_of_getElem? (i := 154) (by decide +kernel), List.mem_of_getElem? (i := 572) (by decide +kernel), List.mem_of_getElem? (i := 573) (by decide +kernel)⟩
theorem lw_p15 : lw_okq (⟨"ThingStream$Reader", "readThingHandle", "()I"⟩, 11) := ⟨⟨by decide +kernel, by decide +kernel⟩, List.mem_of_getElem? (i := 154) (by decide +kernel), List.mem_of_getElem? (i := 595) (by decide +kernel), List.mem_of_getElem? (i := 596) (by decide +kernel)⟩
def lw_privs_1 : List (MethodName × Nat) := [(⟨"ThingStream", "sideToReshape", "(I)LThingStream$Side;"⟩, 5), (⟨"ThingStream", "sideOf", "(I)LThingStream$Side;"⟩, 5), (⟨"ThingStream$Things", "emptyFields", "(IILThingStream$Shapes;)V"⟩, 4), (⟨"ThingStream$Writer", "writeHandle", "(I)V"⟩, 5), (⟨"ThingStream$Writer", "writeNumber", "(JI)V"⟩, 5), (⟨"ThingStream$Writer", "writeRecord", "(II)V"⟩, 5), (⟨"ThingStream$Writer", "writeDescription", "(I)V"⟩, 5), (⟨"ThingStream$Writer", "writeNewDescription", "(I)V"⟩, 5), (⟨"ThingStream$Writer", "nextHandle", "()I"⟩, 5), (⟨"ThingStream$Writer", "writeFields", "(III)V"⟩, 5), (⟨"ThingStream$Writer", "writeRow", "(II)V"⟩, 5), (⟨"ThingStream$Reader", "filtered", "(I)V"⟩, 11), (⟨"java/lang/Throwable", "fillInStackTrace", "(I)Ljava/lang/Throwable;"⟩, 6), (⟨"ThingStream$Reader", "nextByte", "()I"⟩, 11), (⟨"ThingStream$Reader", "wrong", "(I)V"⟩, 11), (⟨"ThingStream$Reader", "readThingHandle", "()I"⟩, 11)]
theorem lw_r1 : ∀ q ∈ lw_privs_1, lw_okq q := List.forall_mem_cons.mpr ⟨lw_p0, List.forall_mem_cons.mpr ⟨lw_p1, List.forall_mem_cons.mpr ⟨lw_p2, List.forall_mem_cons.mpr ⟨lw_p3, List.forall_mem_cons.mpr ⟨lw_p4, List.forall_mem_cons.mpr ⟨lw_p5, List.forall_mem_cons.mpr ⟨lw_p6, List.forall_mem_cons.mpr ⟨lw_p7, List.forall_mem_cons.mpr ⟨lw_p8, List.forall_mem_cons.mpr ⟨lw_p9, List.forall_mem_cons.mpr ⟨lw_p10, List.forall_mem_cons.mpr ⟨lw_p11, List.forall_mem_cons.mpr ⟨lw_p12, List.forall_mem_cons.mpr ⟨lw_p13, List.forall_mem_cons.mpr ⟨lw_p14, List.forall_mem_cons.mpr ⟨lw_p15, fun _ h => absurd h List.not_mem_nil⟩⟩⟩⟩⟩⟩⟩⟩⟩⟩⟩⟩⟩⟩⟩⟩
theorem lw_p16 : lw_okq (⟨"ThingStream$Reader", "readNumber", "(I)J"⟩, 11) := ⟨⟨by decide +kernel, by decide +kernel⟩, List.mem_of_getElem? (i := 154) (by decide +kernel), List.mem_of_getElem? (i := 599) (by decide +kernel), List.mem_of_getElem? (i := 600) (by decide +kernel)⟩
theorem lw_p17 : lw_okq (⟨"ThingStream$Reader", "admit", "(II)V"⟩, 11) := ⟨⟨by decide +kernel, by decide +kernel⟩, List.mem_of_getElem? (i := 154) (by decide +kernel), List.mem_of_getElem? (i := 603) (by decide +kernel), List.mem_of_getElem? (i := 604) (by decide +kernel)⟩
theorem lw_p18 : lw_okq (⟨"ThingStream$Reader", "readRecord", "(I)I"⟩, 11) := ⟨⟨by decide +kernel, by decide +kernel⟩, List.mem_of_getElem? (i := 154) (by decide +kernel), List.mem_of_getElem? (i := 607) (by decide +kernel), List.mem_of_getElem? (i := 608) (by decide +kernel)⟩
theorem lw_p19 : lw_okq (⟨"ThingStream$Reader", "readDescription", "(I)I"⟩, 11) := ⟨⟨by decide +kernel, by decide +kernel⟩, List.mem_of_getElem? (i := 154) (by decide +kernel), List.mem_of_getElem? (i := 611) (by decide +kernel), List.mem_of_getElem? (i := 612) (by decide +kernel)⟩
theorem lw_p20 : lw_okq (⟨"ThingStream$Reader", "readDescriptionHandle", "(I)I"⟩, 11) := ⟨⟨by decide +kernel, by decide +kernel⟩, List.mem_of_getElem? (i := 154) (by decide +kernel), List.mem_of_getElem? (i := 615) (by decide +kernel), List.mem_of_getElem? (i := 616) (by decide +kernel)⟩
theorem lw_p21 : lw_okq (⟨"ThingStream$Reader", "readNewDescription", "(II)I"⟩, 11) := ⟨⟨by decide +kernel, by decide +kernel⟩, List.mem_of_getElem? (i := 154) (by decide +kernel), List.mem_of_getElem? (i := 619) (by decide +kernel), List.mem_of_getElem? (i := 620) (by decide +kernel)⟩
theorem lw_p22 : lw_okq (⟨"ThingStream$Reader", "readFieldOf", "(I)V"⟩, 11) := ⟨⟨by decide +kernel, by decide +kernel⟩, List.mem_of_getElem? (i := 154) (by decide +kernel), List.mem_of_getElem? (i := 624) (by decide +kernel), List.mem_of_getElem? (i := 625) (by decide +kernel)⟩
theorem lw_p23 : lw_okq (⟨"ThingStream$Reader", "giveHandle", "(II)V"⟩, 11) := ⟨⟨by decide +kernel, by decide +kernel⟩, List.mem_of_getElem? (i := 154) (by decide +kernel), List.mem_of_getElem? (i := 635) (by decide +kernel), List.mem_of_getElem? (i := 636) (by decide +kernel)⟩
theorem lw_p24 : lw_okq (⟨"ThingStream$Reader", "isStrange", "(I)Z"⟩, 11) := ⟨⟨by decide +kernel, by decide +kernel⟩, List.mem_of_getElem? (i := 154) (by decide +kernel), List.mem_of_getElem? (i := 639) (by decide +kernel), List.mem_of_getElem? (i := 640) (by decide +kernel)⟩
theorem lw_p25 : lw_okq (⟨"ThingStream$Reader", "strange", "(I)V"⟩, 11) := ⟨⟨by decide +kernel, by decide +kernel⟩, List.mem_of_getElem? (i := 154) (by decide +kernel), List.mem_of_getElem? (i := 646) (by decide +kernel), List.mem_of_getElem? (i := 647) (by decide +kernel)⟩
theorem lw_p26 : lw_okq (⟨"ThingStream$Reader", "readFields", "(III)V"⟩, 11) := ⟨⟨by decide +kernel, by decide +kernel⟩, List.mem_of_getElem? (i := 154) (by decide +kernel), List.mem_of_getElem? (i := 668) (by decide +kernel), List.mem_of_getElem? (i := 669) (by decide +kernel)⟩
theorem lw_p27 : lw_okq (⟨"ThingStream$Reader", "readRow", "(I)I"⟩, 11) := ⟨⟨by decide +kernel, by decide +kernel⟩, List.mem_of_getElem? (i := 154) (by decide +kernel), List.mem_of_getElem? (i := 676) (by decide +kernel), List.mem_of_getElem? (i := 677) (by decide +kernel)⟩
theorem lw_p28 : lw_okq (⟨"ThingStreamModel", "fieldOf", "(II)I"⟩, 40) := ⟨⟨by decide +kernel, by decide +kernel⟩, List.mem_of_getElem? (i := 686) (by decide +kernel), List.mem_of_getElem? (i := 828) (by decide +kernel), List.mem_of_getElem? (i := 829) (by decide +kernel)⟩
theorem lw_p29 : lw_okq (⟨"ThingStreamModel", "fill", "(II)V"⟩, 40) := ⟨⟨by decide +kernel, by decide +kernel⟩, List.mem_of_getElem? (i := 686) (by decide +kernel), List.mem_of_getElem? (i := 839) (by decide +kernel), List.mem_of_getElem? (i := 840) (by decide +kernel)⟩
theorem lw_p30 : lw_okq (⟨"ThingStreamModel", "above", "(II)I"⟩, 40) := ⟨⟨by decide +kernel, by decide +kernel⟩, List.mem_of_getElem? (i := 686) (by decide +kernel), List.mem_of_getElem? (i := 844) (by decide +kernel), List.mem_of_getElem? (i := 845) (by decide +kernel)⟩
theorem lw_p31 : lw_okq (⟨"ThingStreamModel", "fieldIn", "(IIII)I"⟩, 40) := ⟨⟨by decide +kernel, by decide +kernel⟩, List.mem_of_getElem? (i := 686) (by decide +kernel), List.mem_of_getElem? (i := 856) (by decide +kernel), List.mem_of_getElem? (i := 857) (by decide +kernel)⟩
def lw_privs_2 : List (MethodName × Nat) := [(⟨"ThingStream$Reader", "readNumber", "(I)J"⟩, 11), (⟨"ThingStream$Reader", "admit", "(II)V"⟩, 11), (⟨"ThingStream$Reader", "readRecord", "(I)I"⟩, 11), (⟨"ThingStream$Reader", "readDescription", "(I)I"⟩, 11), (⟨"ThingStream$Reader", "readDescriptionHandle", "(I)I"⟩, 11), (⟨"ThingStream$Reader", "readNewDescription", "(II)I"⟩, 11), (⟨"ThingStream$Reader", "readFieldOf", "(I)V"⟩, 11), (⟨"ThingStream$Reader", "giveHandle", "(II)V"⟩, 11), (⟨"ThingStream$Reader", "isStrange", "(I)Z"⟩, 11), (⟨"ThingStream$Reader", "strange", "(I)V"⟩, 11), (⟨"ThingStream$Reader", "readFields", "(III)V"⟩, 11), (⟨"ThingStream$Reader", "readRow", "(I)I"⟩, 11), (⟨"ThingStreamModel", "fieldOf", "(II)I"⟩, 40), (⟨"ThingStreamModel", "fill", "(II)V"⟩, 40), (⟨"ThingStreamModel", "above", "(II)I"⟩, 40), (⟨"ThingStreamModel", "fieldIn", "(IIII)I"⟩, 40)]
theorem lw_r2 : ∀ q ∈ lw_privs_2, lw_okq q := List.forall_mem_cons.mpr ⟨lw_p16, List.forall_mem_cons.mpr ⟨lw_p17, List.forall_mem_cons.mpr ⟨lw_p18, List.forall_mem_cons.mpr ⟨lw_p19, List.forall_mem_cons.mpr ⟨lw_p20, List.forall_mem_cons.mpr ⟨lw_p21, List.forall_mem_cons.mpr ⟨lw_p22, List.forall_mem_cons.mpr ⟨lw_p23, List.forall_mem_cons.mpr ⟨lw_p24, List.forall_mem_cons.mpr ⟨lw_p25, List.forall_mem_cons.mpr ⟨lw_p26, List.forall_mem_cons.mpr ⟨lw_p27, List.forall_mem_cons.mpr ⟨lw_p28, List.forall_mem_cons.mpr ⟨lw_p29, List.forall_mem_cons.mpr ⟨lw_p30, List.forall_mem_cons.mpr ⟨lw_p31, fun _ h => absurd h List.not_mem_nil⟩⟩⟩⟩⟩⟩⟩⟩⟩⟩⟩⟩⟩⟩⟩⟩
theorem lw_p32 : lw_okq (⟨"ThingStreamModel", "isThing", "(II)Z"⟩, 40) := ⟨⟨by decide +kernel, by decide +kernel⟩, List.mem_of_getElem? (i := 686) (by decide +kernel), List.mem_of_getElem? (i := 860) (by decide +kernel), List.mem_of_getElem? (i := 861) (by decide +kernel)⟩
theorem lw_p33 : lw_okq (⟨"ThingStreamModel", "isInChain", "(III)Z"⟩, 40) := ⟨⟨by decide +kernel, by decide +kernel⟩, List.mem_of_getElem? (i := 686) (by decide +kernel), List.mem_of_getElem? (i := 864) (by decide +kernel), List.mem_of_getElem? (i := 865) (by decide +kernel)⟩
theorem lw_p34 : lw_okq (⟨"ThingStreamModel", "say", "(I)V"⟩, 40) := ⟨⟨by decide +kernel, by decide +kernel⟩, List.mem_of_getElem? (i := 686) (by decide +kernel), List.mem_of_getElem? (i := 883) (by decide +kernel), List.mem_of_getElem? (i := 884) (by decide +kernel)⟩
theorem lw_p35 : lw_okq (⟨"ThingStreamModel", "sayValue", "(I)V"⟩, 40) := ⟨⟨by decide +kernel, by decide +kernel⟩, List.mem_of_getElem? (i := 686) (by decide +kernel), List.mem_of_getElem? (i := 887) (by decide +kernel), List.mem_of_getElem? (i := 888) (by decide +kernel)⟩
theorem lw_p36 : lw_okq (⟨"ThingStreamModel", "sayHandle", "(I)V"⟩, 40) := ⟨⟨by decide +kernel, by decide +kernel⟩, List.mem_of_getElem? (i := 686) (by decide +kernel), List.mem_of_getElem? (i := 891) (by decide +kernel), List.mem_of_getElem? (i := 892) (by decide +kernel)⟩
theorem lw_p37 : lw_okq (⟨"ThingStreamModel", "sayDescription", "(I)V"⟩, 40) := ⟨⟨by decide +kernel, by decide +kernel⟩, List.mem_of_getElem? (i := 686) (by decide +kernel), List.mem_of_getElem? (i := 895) (by decide +kernel), List.mem_of_getElem? (i := 896) (by decide +kernel)⟩
theorem lw_p38 : lw_okq (⟨"ThingStreamModel", "sayNumber", "(JI)V"⟩, 40) := ⟨⟨by decide +kernel, by decide +kernel⟩, List.mem_of_getElem? (i := 686) (by decide +kernel), List.mem_of_getElem? (i := 899) (by decide +kernel), List.mem_of_getElem? (i := 900) (by decide +kernel)⟩
theorem lw_p39 : lw_okq (⟨"ThingStreamModel", "sayMore", "()V"⟩, 40) := ⟨⟨by decide +kernel, by decide +kernel⟩, List.mem_of_getElem? (i := 686) (by decide +kernel), List.mem_of_getElem? (i := 904) (by decide +kernel), List.mem_of_getElem? (i := 905) (by decide +kernel)⟩
theorem lw_p40 : lw_okq (⟨"ThingStreamModel", "fieldNumber", "(II)I"⟩, 40) := ⟨⟨by decide +kernel, by decide +kernel⟩, List.mem_of_getElem? (i := 686) (by decide +kernel), List.mem_of_getElem? (i := 908) (by decide +kernel), List.mem_of_getElem? (i := 909) (by decide +kernel)⟩
theorem lw_p41 : lw_okq (⟨"ThingStreamModel", "readAll", "()Z"⟩, 40) := ⟨⟨by decide +kernel, by decide +kernel⟩, List.mem_of_getElem? (i := 686) (by decide +kernel), List.mem_of_getElem? (i := 932) (by decide +kernel), List.mem_of_getElem? (i := 933) (by decide +kernel)⟩
theorem lw_p42 : lw_okq (⟨"ThingStreamModel", "fail", "(II)Z"⟩, 40) := ⟨⟨by decide +kernel, by decide +kernel⟩, List.mem_of_getElem? (i := 686) (by decide +kernel), List.mem_of_getElem? (i := 936) (by decide +kernel), List.mem_of_getElem? (i := 937) (by decide +kernel)⟩
theorem lw_p43 : lw_okq (⟨"ThingStreamModel", "has", "(I)Z"⟩, 40) := ⟨⟨by decide +kernel, by decide +kernel⟩, List.mem_of_getElem? (i := 686) (by decide +kernel), List.mem_of_getElem? (i := 940) (by decide +kernel), List.mem_of_getElem? (i := 941) (by decide +kernel)⟩
theorem lw_p44 : lw_okq (⟨"ThingStreamModel", "take", "()I"⟩, 40) := ⟨⟨by decide +kernel, by decide +kernel⟩, List.mem_of_getElem? (i := 686) (by decide +kernel), List.mem_of_getElem? (i := 944) (by decide +kernel), List.mem_of_getElem? (i := 945) (by decide +kernel)⟩
theorem lw_p45 : lw_okq (⟨"ThingStreamModel", "begin", "()I"⟩, 40) := ⟨⟨by decide +kernel, by decide +kernel⟩, List.mem_of_getElem? (i := 686) (by decide +kernel), List.mem_of_getElem? (i := 948) (by decide +kernel), List.mem_of_getElem? (i := 949) (by decide +kernel)⟩
theorem lw_p46 : lw_okq (⟨"ThingStreamModel", "takeHandle", "(Z)I"⟩, 40) := ⟨⟨by decide +kernel, by decide +kernel⟩, List.mem_of_getElem? (i := 686) (by decide +kernel), List.mem_of_getElem? (i := 952) (by decide +kernel), List.mem_of_getElem? (i := 953) (by decide +kernel)⟩
theorem lw_p47 : lw_okq (⟨"ThingStreamModel", "beginRecord", "()Z"⟩, 40) := ⟨⟨by decide +kernel, by decide +kernel⟩, List.mem_of_getElem? (i := 686) (by decide +kernel), List.mem_of_getElem? (i := 956) (by decide +kernel), List.mem_of_getElem? (i := 957) (by decide +kernel)⟩
def lw_privs_3 : List (MethodName × Nat) := [(⟨"ThingStreamModel", "isThing", "(II)Z"⟩, 40), (⟨"ThingStreamModel", "isInChain", "(III)Z"⟩, 40), (⟨"ThingStreamModel", "say", "(I)V"⟩, 40), (⟨"ThingStreamModel", "sayValue", "(I)V"⟩, 40), (⟨"ThingStreamModel", "sayHandle", "(I)V"⟩, 40), (⟨"ThingStreamModel", "sayDescription", "(I)V"⟩, 40), (⟨"ThingStreamModel", "sayNumber", "(JI)V"⟩, 40), (⟨"ThingStreamModel", "sayMore", "()V"⟩, 40), (⟨"ThingStreamModel", "fieldNumber", "(II)I"⟩, 40), (⟨"ThingStreamModel", "readAll", "()Z"⟩, 40), (⟨"ThingStreamModel", "fail", "(II)Z"⟩, 40), (⟨"ThingStreamModel", "has", "(I)Z"⟩, 40), (⟨"ThingStreamModel", "take", "()I"⟩, 40), (⟨"ThingStreamModel", "begin", "()I"⟩, 40), (⟨"ThingStreamModel", "takeHandle", "(Z)I"⟩, 40), (⟨"ThingStreamModel", "beginRecord", "()Z"⟩, 40)]
theorem lw_r3 : ∀ q ∈ lw_privs_3, lw_okq q := List.forall_mem_cons.mpr ⟨lw_p32, List.forall_mem_cons.mpr ⟨lw_p33, List.forall_mem_cons.mpr ⟨lw_p34, List.forall_mem_cons.mpr ⟨lw_p35, List.forall_mem_cons.mpr ⟨lw_p36, List.forall_mem_cons.mpr ⟨lw_p37, List.forall_mem_cons.mpr ⟨lw_p38, List.forall_mem_cons.mpr ⟨lw_p39, List.forall_mem_cons.mpr ⟨lw_p40, List.forall_mem_cons.mpr ⟨lw_p41, List.forall_mem_cons.mpr ⟨lw_p42, List.forall_mem_cons.mpr ⟨lw_p43, List.forall_mem_cons.mpr ⟨lw_p44, List.forall_mem_cons.mpr ⟨lw_p45, List.forall_mem_cons.mpr ⟨lw_p46, List.forall_mem_cons.mpr ⟨lw_p47, fun _ h => absurd h List.not_mem_nil⟩⟩⟩⟩⟩⟩⟩⟩⟩⟩⟩⟩⟩⟩⟩⟩
theorem lw_p48 : lw_okq (⟨"ThingStreamModel", "description", "()I"⟩, 40) := ⟨⟨by decide +kernel, by decide +kernel⟩, List.mem_of_getElem? (i := 686) (by decide +kernel), List.mem_of_getElem? (i := 960) (by decide +kernel), List.mem_of_getElem? (i := 961) (by decide +kernel)⟩
theorem lw_p49 : lw_okq (⟨"ThingStreamModel", "describe", "(II)Z"⟩, 40) := ⟨⟨by decide +kernel, by decide +kernel⟩, List.mem_of_getElem? (i := 686) (by decide +kernel), List.mem_of_getElem? (i := 964) (by decide +kernel), List.mem_of_getElem? (i := 965) (by decide +kernel)⟩
theorem lw_p50 : lw_okq (⟨"ThingStreamModel", "takeNumber", "(I)J"⟩, 40) := ⟨⟨by decide +kernel, by decide +kernel⟩, List.mem_of_getElem? (i := 686) (by decide +kernel), List.mem_of_getElem? (i := 968) (by decide +kernel), List.mem_of_getElem? (i := 969) (by decide +kernel)⟩
theorem lw_p51 : lw_okq (⟨"ThingStreamModel", "describeField", "(II)Z"⟩, 40) := ⟨⟨by decide +kernel, by decide +kernel⟩, List.mem_of_getElem? (i := 686) (by decide +kernel), List.mem_of_getElem? (i := 972) (by decide +kernel), List.mem_of_getElem? (i := 973) (by decide +kernel)⟩
theorem lw_p52 : lw_okq (⟨"ThingStreamModel", "agrees", "(I)Z"⟩, 40) := ⟨⟨by decide +kernel, by decide +kernel⟩, List.mem_of_getElem? (i := 686) (by decide +kernel), List.mem_of_getElem? (i := 976) (by decide +kernel), List.mem_of_getElem? (i := 977) (by decide +kernel)⟩
theorem lw_p53 : lw_okq (⟨"ThingStreamModel", "beginRow", "()Z"⟩, 40) := ⟨⟨by decide +kernel, by decide +kernel⟩, List.mem_of_getElem? (i := 686) (by decide +kernel), List.mem_of_getElem? (i := 980) (by decide +kernel), List.mem_of_getElem? (i := 981) (by decide +kernel)⟩
theorem lw_p54 : lw_okq (⟨"ThingStreamModel", "store", "(I)V"⟩, 40) := ⟨⟨by decide +kernel, by decide +kernel⟩, List.mem_of_getElem? (i := 686) (by decide +kernel), List.mem_of_getElem? (i := 984) (by decide +kernel), List.mem_of_getElem? (i := 985) (by decide +kernel)⟩
theorem lw_p55 : lw_okq (⟨"ThingStreamModel", "readField", "(II)I"⟩, 40) := ⟨⟨by decide +kernel, by decide +kernel⟩, List.mem_of_getElem? (i := 686) (by decide +kernel), List.mem_of_getElem? (i := 988) (by decide +kernel), List.mem_of_getElem? (i := 989) (by decide +kernel)⟩
theorem lw_p56 : lw_okq (⟨"ThingStreamModel", "keep", "(IIJ)V"⟩, 40) := ⟨⟨by decide +kernel, by decide +kernel⟩, List.mem_of_getElem? (i := 686) (by decide +kernel), List.mem_of_getElem? (i := 992) (by decide +kernel), List.mem_of_getElem? (i := 993) (by decide +kernel)⟩
theorem lw_p57 : lw_okq (⟨"ThingStreamModel", "goOn", "()I"⟩, 40) := ⟨⟨by decide +kernel, by decide +kernel⟩, List.mem_of_getElem? (i := 686) (by decide +kernel), List.mem_of_getElem? (i := 996) (by decide +kernel), List.mem_of_getElem? (i := 997) (by decide +kernel)⟩
theorem lw_p58 : lw_okq (⟨"ThingStreamModel", "becomeThings", "()V"⟩, 40) := ⟨⟨by decide +kernel, by decide +kernel⟩, List.mem_of_getElem? (i := 686) (by decide +kernel), List.mem_of_getElem? (i := 1000) (by decide +kernel), List.mem_of_getElem? (i := 1001) (by decide +kernel)⟩
def lw_privs_4 : List (MethodName × Nat) := [(⟨"ThingStreamModel", "description", "()I"⟩, 40), (⟨"ThingStreamModel", "describe", "(II)Z"⟩, 40), (⟨"ThingStreamModel", "takeNumber", "(I)J"⟩, 40), (⟨"ThingStreamModel", "describeField", "(II)Z"⟩, 40), (⟨"ThingStreamModel", "agrees", "(I)Z"⟩, 40), (⟨"ThingStreamModel", "beginRow", "()Z"⟩, 40), (⟨"ThingStreamModel", "store", "(I)V"⟩, 40), (⟨"ThingStreamModel", "readField", "(II)I"⟩, 40), (⟨"ThingStreamModel", "keep", "(IIJ)V"⟩, 40), (⟨"ThingStreamModel", "goOn", "()I"⟩, 40), (⟨"ThingStreamModel", "becomeThings", "()V"⟩, 40)]
theorem lw_r4 : ∀ q ∈ lw_privs_4, lw_okq q := List.forall_mem_cons.mpr ⟨lw_p48, List.forall_mem_cons.mpr ⟨lw_p49, List.forall_mem_cons.mpr ⟨lw_p50, List.forall_mem_cons.mpr ⟨lw_p51, List.forall_mem_cons.mpr ⟨lw_p52, List.forall_mem_cons.mpr ⟨lw_p53, List.forall_mem_cons.mpr ⟨lw_p54, List.forall_mem_cons.mpr ⟨lw_p55, List.forall_mem_cons.mpr ⟨lw_p56, List.forall_mem_cons.mpr ⟨lw_p57, List.forall_mem_cons.mpr ⟨lw_p58, fun _ h => absurd h List.not_mem_nil⟩⟩⟩⟩⟩⟩⟩⟩⟩⟩⟩
def lw_privs : List (MethodName × Nat) := lw_privs_1 ++ (lw_privs_2 ++ (lw_privs_3 ++ (lw_privs_4)))
def lw_tbl : List Cond := k2_sels lw_privs ++ tables_1
theorem lw_privs_ok : ∀ q ∈ lw_privs, lw_okq q := by
  show ∀ q ∈ lw_privs_1 ++ (lw_privs_2 ++ (lw_privs_3 ++ (lw_privs_4))), lw_okq q
  exact List.forall_mem_append.mpr ⟨lw_r1, List.forall_mem_append.mpr ⟨lw_r2, List.forall_mem_append.mpr ⟨lw_r3, lw_r4⟩⟩⟩
def zR0 : String := "ThingStream$Bytes"
def zT0 : u_T := fun k => match k with
  | 0 => ("ThingStream$Bytes", "bytes", "[I", true)
  | 1 => ("ThingStream$Bytes", "count", "I", false)
  | _ => ("ThingStream$Bytes", "overflowed", "Z", false)
def zt0 : Nat → FieldType := fun k => match k with
  | 0 => .array .int
  | 1 => .int
  | _ => .boolean
theorem zn0 : ∀ a, a < 3 → ∀ b, b < 3 → a ≠ b → (zT0 a).2.1 ≠ (zT0 b).2.1 := by decide +kernel
theorem zt0_ok : ∀ k, k < 3 → parseFieldDescriptor (zT0 k).2.2.1 = some (zt0 k) := by decide +kernel
def zR1 : String := "ThingStream$Reader"
def zT1 : u_T := fun k => match k with
  | 0 => ("ThingStream$Reader", "stream", "LThingStream$Bytes;", true)
  | 1 => ("ThingStream$Reader", "side", "LThingStream$Side;", true)
  | 2 => ("ThingStream$Reader", "limits", "[I", true)
  | 3 => ("ThingStream$Reader", "told", "LThingStream$Shapes;", true)
  | 4 => ("ThingStream$Reader", "thingsByHandle", "[I", true)
  | 5 => ("ThingStream$Reader", "toldByHandle", "[I", true)
  | 6 => ("ThingStream$Reader", "fresh", "LThingStream$Things;", false)
  | 7 => ("ThingStream$Reader", "toldCount", "I", false)
  | 8 => ("ThingStream$Reader", "handleCount", "I", false)
  | 9 => ("ThingStream$Reader", "place", "I", false)
  | _ => ("ThingStream$Reader", "fault", "I", false)
def zt1 : Nat → FieldType := fun k => match k with
  | 0 => .object "ThingStream$Bytes"
  | 1 => .object "ThingStream$Side"
  | 2 => .array .int
  | 3 => .object "ThingStream$Shapes"
  | 4 => .array .int
  | 5 => .array .int
  | 6 => .object "ThingStream$Things"
  | 7 => .int
  | 8 => .int
  | 9 => .int
  | _ => .int
theorem zn1 : ∀ a, a < 11 → ∀ b, b < 11 → a ≠ b → (zT1 a).2.1 ≠ (zT1 b).2.1 := by decide +kernel
theorem zt1_ok : ∀ k, k < 11 → parseFieldDescriptor (zT1 k).2.2.1 = some (zt1 k) := by decide +kernel
def zR2 : String := "ThingStream$Shapes"
def zT2 : u_T := fun k => match k with
  | 0 => ("ThingStream$Shapes", "there", "[Z", true)
  | 1 => ("ThingStream$Shapes", "numbers", "[I", true)
  | 2 => ("ThingStream$Shapes", "parents", "[I", true)
  | 3 => ("ThingStream$Shapes", "marks", "[I", true)
  | 4 => ("ThingStream$Shapes", "fieldCounts", "[I", true)
  | 5 => ("ThingStream$Shapes", "names", "[I", true)
  | _ => ("ThingStream$Shapes", "kinds", "[I", true)
def zt2 : Nat → FieldType := fun k => match k with
  | 0 => .array .boolean
  | 1 => .array .int
  | 2 => .array .int
  | 3 => .array .int
  | 4 => .array .int
  | 5 => .array .int
  | _ => .array .int
theorem zn2 : ∀ a, a < 7 → ∀ b, b < 7 → a ≠ b → (zT2 a).2.1 ≠ (zT2 b).2.1 := by decide +kernel
theorem zt2_ok : ∀ k, k < 7 → parseFieldDescriptor (zT2 k).2.2.1 = some (zt2 k) := by decide +kernel
def zR3 : String := "ThingStream$Side"
def zT3 : u_T := fun k => match k with
  | 0 => ("ThingStream$Side", "shapes", "LThingStream$Shapes;", true)
  | _ => ("ThingStream$Side", "held", "LThingStream$Things;", false)
def zt3 : Nat → FieldType := fun k => match k with
  | 0 => .object "ThingStream$Shapes"
  | _ => .object "ThingStream$Things"
theorem zn3 : ∀ a, a < 2 → ∀ b, b < 2 → a ≠ b → (zT3 a).2.1 ≠ (zT3 b).2.1 := by decide +kernel
theorem zt3_ok : ∀ k, k < 2 → parseFieldDescriptor (zT3 k).2.2.1 = some (zt3 k) := by decide +kernel
def zR4 : String := "ThingStream$Things"
def zT4 : u_T := fun k => match k with
  | 0 => ("ThingStream$Things", "shapes", "[I", true)
  | 1 => ("ThingStream$Things", "lengths", "[I", true)
  | 2 => ("ThingStream$Things", "values", "[J", true)
  | _ => ("ThingStream$Things", "count", "I", false)
def zt4 : Nat → FieldType := fun k => match k with
  | 0 => .array .int
  | 1 => .array .int
  | 2 => .array .long
  | _ => .int
theorem zn4 : ∀ a, a < 4 → ∀ b, b < 4 → a ≠ b → (zT4 a).2.1 ≠ (zT4 b).2.1 := by decide +kernel
theorem zt4_ok : ∀ k, k < 4 → parseFieldDescriptor (zT4 k).2.2.1 = some (zt4 k) := by decide +kernel
def zR5 : String := "ThingStream$Writer"
def zT5 : u_T := fun k => match k with
  | 0 => ("ThingStream$Writer", "stream", "LThingStream$Bytes;", true)
  | 1 => ("ThingStream$Writer", "side", "LThingStream$Side;", true)
  | 2 => ("ThingStream$Writer", "thingHandles", "[I", true)
  | 3 => ("ThingStream$Writer", "shapeHandles", "[I", true)
  | _ => ("ThingStream$Writer", "handleCount", "I", false)
def zt5 : Nat → FieldType := fun k => match k with
  | 0 => .object "ThingStream$Bytes"
  | 1 => .object "ThingStream$Side"
  | 2 => .array .int
  | 3 => .array .int
  | _ => .int
theorem zn5 : ∀ a, a < 5 → ∀ b, b < 5 → a ≠ b → (zT5 a).2.1 ≠ (zT5 b).2.1 := by decide +kernel
theorem zt5_ok : ∀ k, k < 5 → parseFieldDescriptor (zT5 k).2.2.1 = some (zt5 k) := by decide +kernel
def zR6 : String := "ThingStream"
def zT6 : u_T := fun k => match k with
  | 0 => ("ThingStream", "writing", "LThingStream$Side;", true)
  | 1 => ("ThingStream", "reading", "LThingStream$Side;", true)
  | 2 => ("ThingStream", "stream", "LThingStream$Bytes;", true)
  | 3 => ("ThingStream", "writer", "LThingStream$Writer;", true)
  | _ => ("ThingStream", "reader", "LThingStream$Reader;", true)
def zt6 : Nat → FieldType := fun k => match k with
  | 0 => .object "ThingStream$Side"
  | 1 => .object "ThingStream$Side"
  | 2 => .object "ThingStream$Bytes"
  | 3 => .object "ThingStream$Writer"
  | _ => .object "ThingStream$Reader"
theorem zn6 : ∀ a, a < 5 → ∀ b, b < 5 → a ≠ b → (zT6 a).2.1 ≠ (zT6 b).2.1 := by decide +kernel
theorem zt6_ok : ∀ k, k < 5 → parseFieldDescriptor (zT6 k).2.2.1 = some (zt6 k) := by decide +kernel
def zR7 : String := "ThingStreamModel"
def zT7 : u_T := fun k => match k with
  | 0 => ("ThingStreamModel", "thrown", "I", false)
  | 1 => ("ThingStreamModel", "there", "[Z", true)
  | 2 => ("ThingStreamModel", "parent", "[I", true)
  | 3 => ("ThingStreamModel", "mark", "[I", true)
  | 4 => ("ThingStreamModel", "fields", "[I", true)
  | 5 => ("ThingStreamModel", "name", "[I", true)
  | 6 => ("ThingStreamModel", "kind", "[I", true)
  | 7 => ("ThingStreamModel", "count", "[I", true)
  | 8 => ("ThingStreamModel", "shape", "[I", true)
  | 9 => ("ThingStreamModel", "length", "[I", true)
  | 10 => ("ThingStreamModel", "value", "[J", true)
  | 11 => ("ThingStreamModel", "link", "[I", true)
  | 12 => ("ThingStreamModel", "size", "I", false)
  | 13 => ("ThingStreamModel", "stream", "[I", true)
  | 14 => ("ThingStreamModel", "limits", "[I", true)
  | 15 => ("ThingStreamModel", "where", "I", false)
  | 16 => ("ThingStreamModel", "handles", "I", false)
  | 17 => ("ThingStreamModel", "shapeHandle", "[I", true)
  | 18 => ("ThingStreamModel", "thingHandle", "[I", true)
  | 19 => ("ThingStreamModel", "handle", "[I", true)
  | 20 => ("ThingStreamModel", "open", "I", false)
  | 21 => ("ThingStreamModel", "opened", "[I", true)
  | 22 => ("ThingStreamModel", "far", "[I", true)
  | 23 => ("ThingStreamModel", "p", "I", false)
  | 24 => ("ThingStreamModel", "fault", "I", false)
  | 25 => ("ThingStreamModel", "descriptions", "I", false)
  | 26 => ("ThingStreamModel", "dShape", "[I", true)
  | 27 => ("ThingStreamModel", "dAt", "[I", true)
  | 28 => ("ThingStreamModel", "dParent", "[I", true)
  | 29 => ("ThingStreamModel", "dMark", "[I", true)
  | 30 => ("ThingStreamModel", "dFields", "[I", true)
  | 31 => ("ThingStreamModel", "dName", "[I", true)
  | 32 => ("ThingStreamModel", "dKind", "[I", true)
  | 33 => ("ThingStreamModel", "things", "I", false)
  | 34 => ("ThingStreamModel", "tDescription", "[I", true)
  | 35 => ("ThingStreamModel", "tLength", "[I", true)
  | 36 => ("ThingStreamModel", "tValue", "[J", true)
  | 37 => ("ThingStreamModel", "tHas", "[I", true)
  | 38 => ("ThingStreamModel", "tLink", "[I", true)
  | _ => ("ThingStreamModel", "began", "I", false)
def zt7 : Nat → FieldType := fun k => match k with
  | 0 => .int
  | 1 => .array .boolean
  | 2 => .array .int
  | 3 => .array .int
  | 4 => .array .int
  | 5 => .array .int
  | 6 => .array .int
  | 7 => .array .int
  | 8 => .array .int
  | 9 => .array .int
  | 10 => .array .long
  | 11 => .array .int
  | 12 => .int
  | 13 => .array .int
  | 14 => .array .int
  | 15 => .int
  | 16 => .int
  | 17 => .array .int
  | 18 => .array .int
  | 19 => .array .int
  | 20 => .int
  | 21 => .array .int
  | 22 => .array .int
  | 23 => .int
  | 24 => .int
  | 25 => .int
  | 26 => .array .int
  | 27 => .array .int
  | 28 => .array .int
  | 29 => .array .int
  | 30 => .array .int
  | 31 => .array .int
  | 32 => .array .int
  | 33 => .int
  | 34 => .array .int
  | 35 => .array .int
  | 36 => .array .long
  | 37 => .array .int
  | 38 => .array .int
  | _ => .int
theorem zn7 : ∀ a, a < 40 → ∀ b, b < 40 → a ≠ b → (zT7 a).2.1 ≠ (zT7 b).2.1 := by decide +kernel
theorem zt7_ok : ∀ k, k < 40 → parseFieldDescriptor (zT7 k).2.2.1 = some (zt7 k) := by decide +kernel
abbrev vwCl : List vw_C := [(zR0, zT0, 3), (zR1, zT1, 11), (zR2, zT2, 7), (zR3, zT3, 2), (zR4, zT4, 4), (zR5, zT5, 5), (zR6, zT6, 5), (zR7, zT7, 40)]
abbrev z_Y9 : Type := MethodName × ByteArray × Nat × Option FieldType × List (Nat × Nat × Nat × Nat)
def zY_TS_init : z_Y9 := (⟨"ThingStream", "<init>", "()V"⟩, prog_1_method_1_code, 1, none, [])
def zY_Object_init : z_Y9 := (⟨"java/lang/Object", "<init>", "()V"⟩, object_method_1_code, 1, none, [])
def zY_Side_init : z_Y9 := (⟨"ThingStream$Side", "<init>", "(I)V"⟩, prog_5_method_1_code, 2, none, [])
def zY_Shapes_init : z_Y9 := (⟨"ThingStream$Shapes", "<init>", "(I)V"⟩, prog_4_method_1_code, 2, none, [])
def zY_Things_init : z_Y9 := (⟨"ThingStream$Things", "<init>", "(I)V"⟩, prog_6_method_1_code, 2, none, [])
def zY_Bytes_init : z_Y9 := (⟨"ThingStream$Bytes", "<init>", "()V"⟩, prog_2_method_1_code, 1, none, [])
def zY_Writer_init : z_Y9 := (⟨"ThingStream$Writer", "<init>", "(LThingStream$Bytes;LThingStream$Side;)V"⟩, prog_7_method_1_code, 3, none, [])
def zY_Reader_init : z_Y9 := (⟨"ThingStream$Reader", "<init>", "(LThingStream$Bytes;LThingStream$Side;)V"⟩, prog_3_method_1_code, 3, none, [])
def zY_TS_shape : z_Y9 := (⟨"ThingStream", "shape", "(IIII)Z"⟩, prog_1_method_2_code, 6, (some .boolean), [])
def zY_TS_sideToReshape : z_Y9 := (⟨"ThingStream", "sideToReshape", "(I)LThingStream$Side;"⟩, prog_1_method_21_code, 2, (some (.object "ThingStream$Side")), [])
def zY_TS_sideOf : z_Y9 := (⟨"ThingStream", "sideOf", "(I)LThingStream$Side;"⟩, prog_1_method_20_code, 2, (some (.object "ThingStream$Side")), [])
def zY_Shapes_begin : z_Y9 := (⟨"ThingStream$Shapes", "begin", "(IIII)V"⟩, prog_4_method_3_code, 5, none, [])
def zY_Things_removeAll : z_Y9 := (⟨"ThingStream$Things", "removeAll", "()V"⟩, prog_6_method_9_code, 1, none, [])
def zY_TS_field : z_Y9 := (⟨"ThingStream", "field", "(IIII)Z"⟩, prog_1_method_3_code, 6, (some .boolean), [])
def zY_Shapes_mayAddField : z_Y9 := (⟨"ThingStream$Shapes", "mayAddField", "(III)Z"⟩, prog_4_method_4_code, 4, (some .boolean), [])
def zY_Shapes_has : z_Y9 := (⟨"ThingStream$Shapes", "has", "(I)Z"⟩, prog_4_method_2_code, 2, (some .boolean), [])
def zY_Shapes_fieldOf : z_Y9 := (⟨"ThingStream$Shapes", "fieldOf", "(II)I"⟩, prog_4_method_8_code, 4, (some .int), [])
def zY_Shapes_nameOf : z_Y9 := (⟨"ThingStream$Shapes", "nameOf", "(II)I"⟩, prog_4_method_9_code, 3, (some .int), [])
def zY_Shapes_addField : z_Y9 := (⟨"ThingStream$Shapes", "addField", "(III)V"⟩, prog_4_method_5_code, 6, none, [])
def zY_Shapes_rank : z_Y9 := (⟨"ThingStream$Shapes", "rank", "(II)I"⟩, prog_4_method_7_code, 2, (some .int), [])
def zY_TS_build : z_Y9 := (⟨"ThingStream", "build", "(I)I"⟩, prog_1_method_4_code, 2, (some .int), [])
def zY_Things_isFull : z_Y9 := (⟨"ThingStream$Things", "isFull", "()Z"⟩, prog_6_method_3_code, 1, (some .boolean), [])
def zY_Things_addRecord : z_Y9 := (⟨"ThingStream$Things", "addRecord", "(ILThingStream$Shapes;)I"⟩, prog_6_method_11_code, 5, (some .int), [])
def zY_Shapes_chainLength : z_Y9 := (⟨"ThingStream$Shapes", "chainLength", "(I)I"⟩, prog_4_method_12_code, 4, (some .int), [])
def zY_Shapes_parentOf : z_Y9 := (⟨"ThingStream$Shapes", "parentOf", "(I)I"⟩, prog_4_method_11_code, 2, (some .int), [])
def zY_Shapes_upTheChain : z_Y9 := (⟨"ThingStream$Shapes", "upTheChain", "(II)I"⟩, prog_4_method_13_code, 5, (some .int), [])
def zY_Things_emptyFields : z_Y9 := (⟨"ThingStream$Things", "emptyFields", "(IILThingStream$Shapes;)V"⟩, prog_6_method_12_code, 5, none, [])
def zY_Things_slotOfField : z_Y9 := (⟨"ThingStream$Things", "slotOfField", "(III)I"⟩, prog_6_method_8_code, 4, (some .int), [])
def zY_Things_firstSlot : z_Y9 := (⟨"ThingStream$Things", "firstSlot", "(I)I"⟩, prog_6_method_7_code, 2, (some .int), [])
def zY_Shapes_kindOf : z_Y9 := (⟨"ThingStream$Shapes", "kindOf", "(II)I"⟩, prog_4_method_10_code, 3, (some .int), [])
def zY_TS_row : z_Y9 := (⟨"ThingStream", "row", "(I)I"⟩, prog_1_method_5_code, 2, (some .int), [])
def zY_Things_addRow : z_Y9 := (⟨"ThingStream$Things", "addRow", "(I)I"⟩, prog_6_method_10_code, 4, (some .int), [])
def zY_TS_set : z_Y9 := (⟨"ThingStream", "set", "(IIIJ)Z"⟩, prog_1_method_6_code, 8, (some .boolean), [])
def zY_Side_slotOf : z_Y9 := (⟨"ThingStream$Side", "slotOf", "(III)I"⟩, prog_5_method_2_code, 5, (some .int), [])
def zY_Things_isRecord : z_Y9 := (⟨"ThingStream$Things", "isRecord", "(I)Z"⟩, prog_6_method_4_code, 2, (some .boolean), [])
def zY_Things_has : z_Y9 := (⟨"ThingStream$Things", "has", "(I)Z"⟩, prog_6_method_2_code, 2, (some .boolean), [])
def zY_Shapes_chainHas : z_Y9 := (⟨"ThingStream$Shapes", "chainHas", "(II)Z"⟩, prog_4_method_14_code, 5, (some .boolean), [])
def zY_TS_cutToKind : z_Y9 := (⟨"ThingStream", "cutToKind", "(JI)J"⟩, prog_1_method_23_code, 4, (some .long), [])
def zY_TS_bytesOfKind : z_Y9 := (⟨"ThingStream", "bytesOfKind", "(I)I"⟩, prog_1_method_22_code, 1, (some .int), [])
def zY_Things_mayLinkTo : z_Y9 := (⟨"ThingStream$Things", "mayLinkTo", "(J)Z"⟩, prog_6_method_6_code, 3, (some .boolean), [])
def zY_TS_link : z_Y9 := (⟨"ThingStream", "link", "(III)Z"⟩, prog_1_method_7_code, 4, (some .boolean), [])
def zY_Things_hasLink : z_Y9 := (⟨"ThingStream$Things", "hasLink", "(II)Z"⟩, prog_6_method_5_code, 3, (some .boolean), [])
def zY_TS_write : z_Y9 := (⟨"ThingStream", "write", "(I)I"⟩, prog_1_method_8_code, 2, (some .int), [])
def zY_Writer_begin : z_Y9 := (⟨"ThingStream$Writer", "begin", "()V"⟩, prog_7_method_2_code, 1, none, [])
def zY_Arrays_fill : z_Y9 := (⟨"java/util/Arrays", "fill", "([II)V"⟩, prog_17_method_103_code, 4, none, [])
def zY_Bytes_removeAll : z_Y9 := (⟨"ThingStream$Bytes", "removeAll", "()V"⟩, prog_2_method_4_code, 1, none, [])
def zY_Bytes_append : z_Y9 := (⟨"ThingStream$Bytes", "append", "(I)V"⟩, prog_2_method_5_code, 2, none, [])
def zY_Bytes_isFull : z_Y9 := (⟨"ThingStream$Bytes", "isFull", "()Z"⟩, prog_2_method_3_code, 1, (some .boolean), [])
def zY_Writer_writeValue : z_Y9 := (⟨"ThingStream$Writer", "writeValue", "(II)V"⟩, prog_7_method_3_code, 3, none, [])
def zY_Writer_writeHandle : z_Y9 := (⟨"ThingStream$Writer", "writeHandle", "(I)V"⟩, prog_7_method_9_code, 2, none, [])
def zY_Writer_writeNumber : z_Y9 := (⟨"ThingStream$Writer", "writeNumber", "(JI)V"⟩, prog_7_method_10_code, 5, none, [])
def zY_Writer_writeRecord : z_Y9 := (⟨"ThingStream$Writer", "writeRecord", "(II)V"⟩, prog_7_method_5_code, 5, none, [])
def zY_Writer_writeDescription : z_Y9 := (⟨"ThingStream$Writer", "writeDescription", "(I)V"⟩, prog_7_method_7_code, 4, none, [])
def zY_Writer_writeNewDescription : z_Y9 := (⟨"ThingStream$Writer", "writeNewDescription", "(I)V"⟩, prog_7_method_8_code, 3, none, [])
def zY_Writer_nextHandle : z_Y9 := (⟨"ThingStream$Writer", "nextHandle", "()I"⟩, prog_7_method_11_code, 1, (some .int), [])
def zY_Writer_writeFields : z_Y9 := (⟨"ThingStream$Writer", "writeFields", "(III)V"⟩, prog_7_method_6_code, 8, none, [])
def zY_Writer_writeRow : z_Y9 := (⟨"ThingStream$Writer", "writeRow", "(II)V"⟩, prog_7_method_4_code, 5, none, [])
def zY_TS_clear : z_Y9 := (⟨"ThingStream", "clear", "()V"⟩, prog_1_method_9_code, 1, none, [])
def zY_TS_at : z_Y9 := (⟨"ThingStream", "at", "(I)I"⟩, prog_1_method_10_code, 2, (some .int), [])
def zY_Bytes_has : z_Y9 := (⟨"ThingStream$Bytes", "has", "(I)Z"⟩, prog_2_method_2_code, 2, (some .boolean), [])
def zY_TS_put : z_Y9 := (⟨"ThingStream", "put", "(II)Z"⟩, prog_1_method_11_code, 3, (some .boolean), [])
def zY_TS_cut : z_Y9 := (⟨"ThingStream", "cut", "(I)Z"⟩, prog_1_method_12_code, 2, (some .boolean), [])
def zY_TS_limit : z_Y9 := (⟨"ThingStream", "limit", "(II)Z"⟩, prog_1_method_13_code, 3, (some .boolean), [])
def zY_Reader_changeLimit : z_Y9 := (⟨"ThingStream$Reader", "changeLimit", "(II)Z"⟩, prog_3_method_2_code, 3, (some .boolean), [])
def zY_TS_position : z_Y9 := (⟨"ThingStream", "position", "()I"⟩, prog_1_method_15_code, 1, (some .int), [])
def zY_TS_things : z_Y9 := (⟨"ThingStream", "things", "(I)I"⟩, prog_1_method_16_code, 3, (some .int), [])
def zY_TS_thing : z_Y9 := (⟨"ThingStream", "thing", "(III)I"⟩, prog_1_method_17_code, 5, (some .int), [])
def zY_TS_get : z_Y9 := (⟨"ThingStream", "get", "(IIII)J"⟩, prog_1_method_18_code, 7, (some .long), [])
def zY_TS_goes : z_Y9 := (⟨"ThingStream", "goes", "(III)I"⟩, prog_1_method_19_code, 5, (some .int), [])
def zY_Law_read : z_Y9 := (⟨"ThingStreamLaw", "read", "(LThingStream;[J)I"⟩, method_3_code, 3, (some .int), [(0, 8, 11, 13), (0, 8, 14, 15), (0, 8, 17, 17)])
def zY_TS_read : z_Y9 := (⟨"ThingStream", "read", "()I"⟩, prog_1_method_14_code, 1, (some .int), [])
def zY_Reader_begin : z_Y9 := (⟨"ThingStream$Reader", "begin", "()V"⟩, prog_3_method_3_code, 1, none, [])
def zY_Reader_filtered : z_Y9 := (⟨"ThingStream$Reader", "filtered", "(I)V"⟩, prog_3_method_21_code, 2, none, [])
def zY_Reader_nextByte : z_Y9 := (⟨"ThingStream$Reader", "nextByte", "()I"⟩, prog_3_method_18_code, 1, (some .int), [])
def zY_Reader_wrong : z_Y9 := (⟨"ThingStream$Reader", "wrong", "(I)V"⟩, prog_3_method_19_code, 2, none, [])
def zY_Reader_readValue : z_Y9 := (⟨"ThingStream$Reader", "readValue", "(I)I"⟩, prog_3_method_5_code, 3, (some .int), [])
def zY_Reader_readThingHandle : z_Y9 := (⟨"ThingStream$Reader", "readThingHandle", "()I"⟩, prog_3_method_7_code, 3, (some .int), [])
def zY_Reader_readNumber : z_Y9 := (⟨"ThingStream$Reader", "readNumber", "(I)J"⟩, prog_3_method_17_code, 5, (some .long), [])
def zY_Reader_admit : z_Y9 := (⟨"ThingStream$Reader", "admit", "(II)V"⟩, prog_3_method_6_code, 3, none, [])
def zY_Reader_readRecord : z_Y9 := (⟨"ThingStream$Reader", "readRecord", "(I)I"⟩, prog_3_method_9_code, 7, (some .int), [])
def zY_Reader_readDescription : z_Y9 := (⟨"ThingStream$Reader", "readDescription", "(I)I"⟩, prog_3_method_11_code, 3, (some .int), [])
def zY_Reader_readDescriptionHandle : z_Y9 := (⟨"ThingStream$Reader", "readDescriptionHandle", "(I)I"⟩, prog_3_method_12_code, 4, (some .int), [])
def zY_Reader_readNewDescription : z_Y9 := (⟨"ThingStream$Reader", "readNewDescription", "(II)I"⟩, prog_3_method_13_code, 7, (some .int), [])
def zY_Reader_readFieldOf : z_Y9 := (⟨"ThingStream$Reader", "readFieldOf", "(I)V"⟩, prog_3_method_14_code, 4, none, [])
def zY_Shapes_comesLast : z_Y9 := (⟨"ThingStream$Shapes", "comesLast", "(III)Z"⟩, prog_4_method_6_code, 5, (some .boolean), [])
def zY_Reader_giveHandle : z_Y9 := (⟨"ThingStream$Reader", "giveHandle", "(II)V"⟩, prog_3_method_16_code, 3, none, [])
def zY_Reader_isStrange : z_Y9 := (⟨"ThingStream$Reader", "isStrange", "(I)Z"⟩, prog_3_method_15_code, 5, (some .boolean), [])
def zY_Reader_strange : z_Y9 := (⟨"ThingStream$Reader", "strange", "(I)V"⟩, prog_3_method_20_code, 2, none, [])
def zY_Reader_readFields : z_Y9 := (⟨"ThingStream$Reader", "readFields", "(III)V"⟩, prog_3_method_10_code, 10, none, [])
def zY_Reader_readRow : z_Y9 := (⟨"ThingStream$Reader", "readRow", "(I)I"⟩, prog_3_method_8_code, 6, (some .int), [])
def zY_Reader_finish : z_Y9 := (⟨"ThingStream$Reader", "finish", "()V"⟩, prog_3_method_4_code, 2, none, [])
def zY_Model_init : z_Y9 := (⟨"ThingStreamModel", "<init>", "()V"⟩, prog_9_method_1_code, 1, none, [])
def zY_Model_thrown : z_Y9 := (⟨"ThingStreamModel", "thrown", "()I"⟩, prog_9_method_2_code, 1, (some .int), [])
def zY_Model_shape : z_Y9 := (⟨"ThingStreamModel", "shape", "(IIII)Z"⟩, prog_9_method_4_code, 6, (some .boolean), [])
def zY_Model_in : z_Y9 := (⟨"ThingStreamModel", "in", "(III)Z"⟩, prog_9_method_3_code, 3, (some .boolean), [])
def zY_Model_field : z_Y9 := (⟨"ThingStreamModel", "field", "(IIII)Z"⟩, prog_9_method_6_code, 7, (some .boolean), [])
def zY_Model_fieldOf : z_Y9 := (⟨"ThingStreamModel", "fieldOf", "(II)I"⟩, prog_9_method_5_code, 4, (some .int), [])
def zY_Model_order : z_Y9 := (⟨"ThingStreamModel", "order", "(II)I"⟩, prog_9_method_7_code, 2, (some .int), [])
def zY_Model_build : z_Y9 := (⟨"ThingStreamModel", "build", "(I)I"⟩, prog_9_method_12_code, 3, (some .int), [])
def zY_Model_fill : z_Y9 := (⟨"ThingStreamModel", "fill", "(II)V"⟩, prog_9_method_11_code, 6, none, [])
def zY_Model_above : z_Y9 := (⟨"ThingStreamModel", "above", "(II)I"⟩, prog_9_method_8_code, 4, (some .int), [])
def zY_Model_row : z_Y9 := (⟨"ThingStreamModel", "row", "(I)I"⟩, prog_9_method_13_code, 4, (some .int), [])
def zY_Model_set : z_Y9 := (⟨"ThingStreamModel", "set", "(IIIJ)Z"⟩, prog_9_method_16_code, 7, (some .boolean), [])
def zY_Model_fieldIn : z_Y9 := (⟨"ThingStreamModel", "fieldIn", "(IIII)I"⟩, prog_9_method_15_code, 5, (some .int), [])
def zY_Model_isThing : z_Y9 := (⟨"ThingStreamModel", "isThing", "(II)Z"⟩, prog_9_method_14_code, 3, (some .boolean), [])
def zY_Model_isInChain : z_Y9 := (⟨"ThingStreamModel", "isInChain", "(III)Z"⟩, prog_9_method_9_code, 5, (some .boolean), [])
def zY_Model_cut : z_Y9 := (⟨"ThingStreamModel", "cut", "(JI)J"⟩, prog_9_method_10_code, 3, (some .long), [])
def zY_Model_link : z_Y9 := (⟨"ThingStreamModel", "link", "(III)Z"⟩, prog_9_method_17_code, 4, (some .boolean), [])
def zY_Model_clear : z_Y9 := (⟨"ThingStreamModel", "clear", "()V"⟩, prog_9_method_18_code, 1, none, [])
def zY_Model_write : z_Y9 := (⟨"ThingStreamModel", "write", "(I)I"⟩, prog_9_method_26_code, 3, (some .int), [])
def zY_Model_say : z_Y9 := (⟨"ThingStreamModel", "say", "(I)V"⟩, prog_9_method_19_code, 2, none, [])
def zY_Model_sayValue : z_Y9 := (⟨"ThingStreamModel", "sayValue", "(I)V"⟩, prog_9_method_23_code, 2, none, [])
def zY_Model_sayHandle : z_Y9 := (⟨"ThingStreamModel", "sayHandle", "(I)V"⟩, prog_9_method_20_code, 2, none, [])
def zY_Model_sayDescription : z_Y9 := (⟨"ThingStreamModel", "sayDescription", "(I)V"⟩, prog_9_method_22_code, 4, none, [])
def zY_Model_sayNumber : z_Y9 := (⟨"ThingStreamModel", "sayNumber", "(JI)V"⟩, prog_9_method_21_code, 6, none, [])
def zY_Model_sayMore : z_Y9 := (⟨"ThingStreamModel", "sayMore", "()V"⟩, prog_9_method_25_code, 8, none, [])
def zY_Model_fieldNumber : z_Y9 := (⟨"ThingStreamModel", "fieldNumber", "(II)I"⟩, prog_9_method_24_code, 6, (some .int), [])
def zY_Model_at : z_Y9 := (⟨"ThingStreamModel", "at", "(I)I"⟩, prog_9_method_27_code, 2, (some .int), [])
def zY_Model_put : z_Y9 := (⟨"ThingStreamModel", "put", "(II)Z"⟩, prog_9_method_28_code, 3, (some .boolean), [])
def zY_Model_cut2 : z_Y9 := (⟨"ThingStreamModel", "cut", "(I)Z"⟩, prog_9_method_29_code, 2, (some .boolean), [])
def zY_Model_limit : z_Y9 := (⟨"ThingStreamModel", "limit", "(II)Z"⟩, prog_9_method_30_code, 4, (some .boolean), [])
def zY_Model_read : z_Y9 := (⟨"ThingStreamModel", "read", "()I"⟩, prog_9_method_49_code, 2, (some .int), [])
def zY_Model_readAll : z_Y9 := (⟨"ThingStreamModel", "readAll", "()Z"⟩, prog_9_method_47_code, 6, (some .boolean), [])
def zY_Model_fail : z_Y9 := (⟨"ThingStreamModel", "fail", "(II)Z"⟩, prog_9_method_31_code, 3, (some .boolean), [])
def zY_Model_has : z_Y9 := (⟨"ThingStreamModel", "has", "(I)Z"⟩, prog_9_method_32_code, 2, (some .boolean), [])
def zY_Model_take : z_Y9 := (⟨"ThingStreamModel", "take", "()I"⟩, prog_9_method_33_code, 1, (some .int), [])
def zY_Model_begin : z_Y9 := (⟨"ThingStreamModel", "begin", "()I"⟩, prog_9_method_40_code, 4, (some .int), [])
def zY_Model_takeHandle : z_Y9 := (⟨"ThingStreamModel", "takeHandle", "(Z)I"⟩, prog_9_method_35_code, 4, (some .int), [])
def zY_Model_beginRecord : z_Y9 := (⟨"ThingStreamModel", "beginRecord", "()Z"⟩, prog_9_method_41_code, 3, (some .boolean), [])
def zY_Model_description : z_Y9 := (⟨"ThingStreamModel", "description", "()I"⟩, prog_9_method_39_code, 10, (some .int), [])
def zY_Model_describe : z_Y9 := (⟨"ThingStreamModel", "describe", "(II)Z"⟩, prog_9_method_36_code, 4, (some .boolean), [])
def zY_Model_takeNumber : z_Y9 := (⟨"ThingStreamModel", "takeNumber", "(I)J"⟩, prog_9_method_34_code, 6, (some .long), [])
def zY_Model_describeField : z_Y9 := (⟨"ThingStreamModel", "describeField", "(II)Z"⟩, prog_9_method_37_code, 5, (some .boolean), [])
def zY_Model_agrees : z_Y9 := (⟨"ThingStreamModel", "agrees", "(I)Z"⟩, prog_9_method_38_code, 6, (some .boolean), [])
def zY_Model_beginRow : z_Y9 := (⟨"ThingStreamModel", "beginRow", "()Z"⟩, prog_9_method_42_code, 2, (some .boolean), [])
def zY_Model_store : z_Y9 := (⟨"ThingStreamModel", "store", "(I)V"⟩, prog_9_method_46_code, 4, none, [])
def zY_Model_readField : z_Y9 := (⟨"ThingStreamModel", "readField", "(II)I"⟩, prog_9_method_43_code, 6, (some .int), [])
def zY_Model_keep : z_Y9 := (⟨"ThingStreamModel", "keep", "(IIJ)V"⟩, prog_9_method_44_code, 6, none, [])
def zY_Model_goOn : z_Y9 := (⟨"ThingStreamModel", "goOn", "()I"⟩, prog_9_method_45_code, 4, (some .int), [])
def zY_Model_becomeThings : z_Y9 := (⟨"ThingStreamModel", "becomeThings", "()V"⟩, prog_9_method_48_code, 7, none, [])
def zY_Model_position : z_Y9 := (⟨"ThingStreamModel", "position", "()I"⟩, prog_9_method_50_code, 1, (some .int), [])
def zY_Model_things : z_Y9 := (⟨"ThingStreamModel", "things", "(I)I"⟩, prog_9_method_51_code, 2, (some .int), [])
def zY_Model_thing : z_Y9 := (⟨"ThingStreamModel", "thing", "(III)I"⟩, prog_9_method_52_code, 4, (some .int), [])
def zY_Model_get : z_Y9 := (⟨"ThingStreamModel", "get", "(IIII)J"⟩, prog_9_method_53_code, 5, (some .long), [])
def zY_Model_goes : z_Y9 := (⟨"ThingStreamModel", "goes", "(III)I"⟩, prog_9_method_54_code, 4, (some .int), [])
def zY_Law_law : z_Y9 := (⟨"ThingStreamLaw", "law", "([I)Z"⟩, code, 7, (some .boolean), [])
