section
-- ===== PART A: goes FIRST, ahead of the names: the tables' words, and 'selects' of the private methods out of them =====
/-- a private method of a class that the tables say can be made, by its rows of tables_1 -/
def lw_okq (q : MethodName × Nat) : Prop := (q.1.cls ≠ "java/lang/invoke/MethodHandle" ∧ q.1.cls ≠ "java/lang/invoke/VarHandle") ∧ Cond.instantiable q.1.cls q.2 ∈ tables_1 ∧ Cond.privateMethod q.1 ∈ tables_1 ∧ Cond.instanceMethod q.1 ∈ tables_1
theorem lw_p0 : lw_okq (⟨"ThingStream", "sideToReshape", "(I)LThingStream$Side;"⟩, 5) := ⟨⟨by decide +kernel, by decide +kernel⟩, List.mem_of_getElem? (i := 17) (by decide +kernel), List.mem_of_getElem? (i := 228) (by decide +kernel), List.mem_of_getElem? (i := 229) (by decide +kernel)⟩
theorem lw_p1 : lw_okq (⟨"ThingStream", "sideOf", "(I)LThingStream$Side;"⟩, 5) := ⟨⟨by decide +kernel, by decide +kernel⟩, List.mem_of_getElem? (i := 17) (by decide +kernel), List.mem_of_getElem? (i := 232) (by decide +kernel), List.mem_of_getElem? (i := 233) (by decide +kernel)⟩
theorem lw_p2 : lw_okq (⟨"ThingStream$Things", "emptyFields", "(IILThingStream$Shapes;)V"⟩, 4) := ⟨⟨by decide +kernel, by decide +kernel⟩, List.mem_of_getElem? (i := 68) (by decide +kernel), List.mem_of_getElem? (i := 296) (by decide +kernel), List.mem_of_getElem? (i := 297) (by decide +kernel)⟩
theorem lw_p3 : lw_okq (⟨"ThingStream$Writer", "writeHandle", "(I)V"⟩, 5) := ⟨⟨by decide +kernel, by decide +kernel⟩, List.mem_of_getElem? (i := 132) (by decide +kernel), List.mem_of_getElem? (i := 393) (by decide +kernel), List.mem_of_getElem? (i := 394) (by decide +kernel)⟩
theorem lw_p4 : lw_okq (⟨"ThingStream$Writer", "writeNumber", "(JI)V"⟩, 5) := ⟨⟨by decide +kernel, by decide +kernel⟩, List.mem_of_getElem? (i := 132) (by decide +kernel), List.mem_of_getElem? (i := 397) (by decide +kernel), List.mem_of_getElem? (i := 398) (by decide +kernel)⟩
theorem lw_p5 : lw_okq (⟨"ThingStream$Writer", "writeRecord", "(II)V"⟩, 5) := ⟨⟨by decide +kernel, by decide +kernel⟩, List.mem_of_getElem? (i := 132) (by decide +kernel), List.mem_of_getElem? (i := 402) (by decide +kernel), List.mem_of_getElem? (i := 403) (by decide +kernel)⟩
theorem lw_p6 : lw_okq (⟨"ThingStream$Writer", "writeDescription", "(I)V"⟩, 5) := ⟨⟨by decide +kernel, by decide +kernel⟩, List.mem_of_getElem? (i := 132) (by decide +kernel), List.mem_of_getElem? (i := 406) (by decide +kernel), List.mem_of_getElem? (i := 407) (by decide +kernel)⟩
theorem lw_p7 : lw_okq (⟨"ThingStream$Writer", "writeNewDescription", "(I)V"⟩, 5) := ⟨⟨by decide +kernel, by decide +kernel⟩, List.mem_of_getElem? (i := 132) (by decide +kernel), List.mem_of_getElem? (i := 410) (by decide +kernel), List.mem_of_getElem? (i := 411) (by decide +kernel)⟩
theorem lw_p8 : lw_okq (⟨"ThingStream$Writer", "nextHandle", "()I"⟩, 5) := ⟨⟨by decide +kernel, by decide +kernel⟩, List.mem_of_getElem? (i := 132) (by decide +kernel), List.mem_of_getElem? (i := 416) (by decide +kernel), List.mem_of_getElem? (i := 417) (by decide +kernel)⟩
theorem lw_p9 : lw_okq (⟨"ThingStream$Writer", "writeFields", "(III)V"⟩, 5) := ⟨⟨by decide +kernel, by decide +kernel⟩, List.mem_of_getElem? (i := 132) (by decide +kernel), List.mem_of_getElem? (i := 423) (by decide +kernel), List.mem_of_getElem? (i := 424) (by decide +kernel)⟩
theorem lw_p10 : lw_okq (⟨"ThingStream$Writer", "writeRow", "(II)V"⟩, 5) := ⟨⟨by decide +kernel, by decide +kernel⟩, List.mem_of_getElem? (i := 132) (by decide +kernel), List.mem_of_getElem? (i := 430) (by decide +kernel), List.mem_of_getElem? (i := 431) (by decide +kernel)⟩
theorem lw_p11 : lw_okq (⟨"ThingStream$Reader", "filtered", "(I)V"⟩, 11) := ⟨⟨by decide +kernel, by decide +kernel⟩, List.mem_of_getElem? (i := 154) (by decide +kernel), List.mem_of_getElem? (i := 501) (by decide +kernel), List.mem_of_getElem? (i := 502) (by decide +kernel)⟩
theorem lw_p12 : lw_okq (⟨"java/lang/Throwable", "fillInStackTrace", "(I)Ljava/lang/Throwable;"⟩, 6) := ⟨⟨by decide +kernel, by decide +kernel⟩, List.mem_of_getElem? (i := 543) (by decide +kernel), List.mem_of_getElem? (i := 541) (by decide +kernel), List.mem_of_getElem? (i := 542) (by decide +kernel)⟩
theorem lw_p13 : lw_okq (⟨"ThingStream$Reader", "nextByte", "()I"⟩, 11) := ⟨⟨by decide +kernel, by decide +kernel⟩, List.mem_of_getElem? (i := 154) (by decide +kernel), List.mem_of_getElem? (i := 568) (by decide +kernel), List.mem_of_getElem? (i := 569) (by decide +kernel)⟩
theorem lw_p14 : lw_okq (⟨"ThingStream$Reader", "wrong", "(I)V"⟩, 11) := ⟨⟨by decide +kernel, by decide +kernel⟩, List.mem_of_getElem? (i := 154) (by decide +kernel), List.mem_of_getElem? (i := 572) (by decide +kernel), List.mem_of_getElem? (i := 573) (by decide +kernel)⟩
theorem lw_p15 : lw_okq (⟨"ThingStream$Reader", "readThingHandle", "()I"⟩, 11) := ⟨⟨by decide +kernel, by decide +kernel⟩, List.mem_of_getElem? (i := 154) (by decide +kernel), List.mem_of_getElem? (i := 595) (by decide +kernel), List.mem_of_getElem? (i := 596) (by decide +kernel)⟩
def lw_privs_1 : List (MethodName × Nat) := [(⟨"ThingStream", "sideToReshape", "(I)LThingStream$Side;"⟩, 5), (⟨"ThingStream", "sideOf", "(I)LThingStream$Side;"⟩, 5), (⟨"ThingStream$Things", "emptyFields", "(IILThingStream$Shapes;)V"⟩, 4), (⟨"ThingStream$Writer", "writeHandle", "(I)V"⟩, 5), (⟨"ThingStream$Writer", "writeNumber", "(JI)V"⟩, 5), (⟨"ThingStream$Writer", "writeRecord", "(II)V"⟩, 5), (⟨"ThingStream$Writer", "writeDescription", "(I)V"⟩, 5), (⟨"ThingStream$Writer", "writeNewDescription", "(I)V"⟩, 5), (⟨"ThingStream$Writer", "nextHandle", "()I"⟩, 5), (⟨"ThingStream$Writer", "writeFields", "(III)V"⟩, 5), (⟨"ThingStream$Writer", "writeRow", "(II)V"⟩, 5), (⟨"ThingStream$Reader", "filtered", "(I)V"⟩, 11), (⟨"java/lang/Throwable", "fillInStackTrace", "(I)Ljava/lang/Throwable;"⟩, 6), (⟨"ThingStream$Reader", "nextByte", "()I"⟩, 11), (⟨"ThingStream$Reader", "wrong", "(I)V"⟩, 11), (⟨"ThingStream$Reader", "readThingHandle", "()I"⟩, 11)]
theorem lw_r1 : ∀ q ∈ lw_privs_1, lw_okq q := List.forall_mem_cons.mpr ⟨lw_p0, List.forall_mem_cons.mpr ⟨lw_p1, List.forall_mem_cons.mpr ⟨lw_p2, List.forall_mem_cons.mpr ⟨lw_p3, List.forall_mem_cons.mpr ⟨lw_p4, List.forall_mem_cons.mpr ⟨lw_p5, List.forall_mem_cons.mpr ⟨lw_p6, List.forall_mem_cons.mpr ⟨lw_p7, List.forall_mem_cons.mpr ⟨lw_p8, List.forall_mem_cons.mpr ⟨lw_p9, List.forall_mem_cons.mpr ⟨lw_p10, List.forall_mem_cons.mpr ⟨lw_p11, List.forall_mem_cons.mpr ⟨lw_p12, List.forall_mem_cons.mpr ⟨lw_p13, List.forall_mem_cons.mpr ⟨lw_p14, List.forall_mem_cons.mpr ⟨lw_p15, fun _ h => absurd h List.not_mem_nil⟩⟩⟩⟩⟩⟩⟩⟩⟩⟩⟩⟩⟩⟩⟩⟩
theorem lw_p16 : lw_okq (⟨"ThingStream$Reader", "readNumber", "(I)J"⟩, 11) := ⟨⟨by decide +kernel, by decide +kernel⟩, List.mem_of_getElem? (i := 154) (by decide +kernel), List.mem_of_getElem? (i := 599) (by decide +kernel), List.mem_of_getElem? (i := 600) (by decide +kernel)⟩
theorem lw_p17 : lw_okq (⟨"ThingStream$Reader", "admit", "(II)V"⟩, 11) := ⟨⟨by decide +kernel, by decide +kernel⟩, List.mem_of_getElem? (i := 154) (by decide +kernel), List.mem_of_getElem? (i := 603) (by decide +kernel), List.mem_of_getElem? (i := 604) (by decide +kernel)⟩
theorem lw_p18 : lw_okq (⟨"ThingStream$Reader", "readRecord", "(I)I"⟩, 11) := ⟨⟨by decide +kernel, by decide +kernel⟩, List.mem_of_getElem? (i := 154) (by decide +kernel), List.mem_of_getElem? (i := 607) (by decide +kernel), List.mem_of_getElem? (i := 608) (by decide +kernel)⟩
theorem lw_p19 : lw_okq (⟨"ThingStream$Reader", "readDescription", "(I)I"⟩, 11) := ⟨⟨by decide +kernel, by decide +kernel⟩, List.mem_of_getElem? (i := 154) (by decide +kernel), List.mem_of_getElem? (i := 611) (by decide +kernel), List.mem_of_getElem? (i := 612) (by decide +kernel)⟩
theorem lw_p20 : lw_okq (⟨"ThingStream$Reader", "readDescriptionHandle", "(I)I"⟩, 11) := ⟨⟨by decide +kernel, by decide +kernel⟩, List.mem_of_getElem? (i := 154) (by decide +kernel), List.mem_of_getElem? (i := 615) (by decide +kernel), List.mem_of_getElem? (i := 616) (by decide +kernel)⟩
theorem lw_p21 : lw_okq (⟨"ThingStream$Reader", "readNewDescription", "(II)I"⟩, 11) := ⟨⟨by decide +kernel, by decide +kernel⟩, List.mem_of_getElem? (i := 154) (by decide +kernel), List.mem_of_getElem? (i := 619) (by decide +kernel), List.mem_of_getElem? (i := 620) (by decide +kernel)⟩
theorem lw_p22 : lw_okq (⟨"ThingStream$Reader", "readFieldOf", "(I)V"⟩, 11) := ⟨⟨by decide +kernel, by decide +kernel⟩, List.mem_of_getElem? (i := 154) (by decide +kernel), List.mem_of_getElem? (i := 624) (by decide +kernel), List.mem_of_getElem? (i := 625) (by decide +kernel)⟩
theorem lw_p23 : lw_okq (⟨"ThingStream$Reader", "giveHandle", "(II)V"⟩, 11) := ⟨⟨by decide +kernel, by decide +kernel⟩, List.mem_of_getElem? (i := 154) (by decide +kernel), List.mem_of_getElem? (i := 635) (by decide +kernel), List.mem_of_getElem? (i := 636) (by decide +kernel)⟩
theorem lw_p24 : lw_okq (⟨"ThingStream$Reader", "isStrange", "(I)Z"⟩, 11) := ⟨⟨by decide +kernel, by decide +kernel⟩, List.mem_of_getElem? (i := 154) (by decide +kernel), List.mem_of_getElem? (i := 639) (by decide +kernel), List.mem_of_getElem? (i := 640) (by decide +kernel)⟩
theorem lw_p25 : lw_okq (⟨"ThingStream$Reader", "strange", "(I)V"⟩, 11) := ⟨⟨by decide +kernel, by decide +kernel⟩, List.mem_of_getElem? (i := 154) (by decide +kernel), List.mem_of_getElem? (i := 646) (by decide +kernel), List.mem_of_getElem? (i := 647) (by decide +kernel)⟩
theorem lw_p26 : lw_okq (⟨"ThingStream$Reader", "readFields", "(III)V"⟩, 11) := ⟨⟨by decide +kernel, by decide +kernel⟩, List.mem_of_getElem? (i := 154) (by decide +kernel), List.mem_of_getElem? (i := 668) (by decide +kernel), List.mem_of_getElem? (i := 669) (by decide +kernel)⟩
theorem lw_p27 : lw_okq (⟨"ThingStream$Reader", "readRow", "(I)I"⟩, 11) := ⟨⟨by decide +kernel, by decide +kernel⟩, List.mem_of_getElem? (i := 154) (by decide +kernel), List.mem_of_getElem? (i := 676) (by decide +kernel), List.mem_of_getElem? (i := 677) (by decide +kernel)⟩
theorem lw_p28 : lw_okq (⟨"ThingStreamModel", "fieldOf", "(II)I"⟩, 40) := ⟨⟨by decide +kernel, by decide +kernel⟩, List.mem_of_getElem? (i := 686) (by decide +kernel), List.mem_of_getElem? (i := 828) (by decide +kernel), List.mem_of_getElem? (i := 829) (by decide +kernel)⟩
theorem lw_p29 : lw_okq (⟨"ThingStreamModel", "fill", "(II)V"⟩, 40) := ⟨⟨by decide +kernel, by decide +kernel⟩, List.mem_of_getElem? (i := 686) (by decide +kernel), List.mem_of_getElem? (i := 839) (by decide +kernel), List.mem_of_getElem? (i := 840) (by decide +kernel)⟩
theorem lw_p30 : lw_okq (⟨"ThingStreamModel", "above", "(II)I"⟩, 40) := ⟨⟨by decide +kernel, by decide +kernel⟩, List.mem_of_getElem? (i := 686) (by decide +kernel), List.mem_of_getElem? (i := 844) (by decide +kernel), List.mem_of_getElem? (i := 845) (by decide +kernel)⟩
theorem lw_p31 : lw_okq (⟨"ThingStreamModel", "fieldIn", "(IIII)I"⟩, 40) := ⟨⟨by decide +kernel, by decide +kernel⟩, List.mem_of_getElem? (i := 686) (by decide +kernel), List.mem_of_getElem? (i := 856) (by decide +kernel), List.mem_of_getElem? (i := 857) (by decide +kernel)⟩
def lw_privs_2 : List (MethodName × Nat) := [(⟨"ThingStream$Reader", "readNumber", "(I)J"⟩, 11), (⟨"ThingStream$Reader", "admit", "(II)V"⟩, 11), (⟨"ThingStream$Reader", "readRecord", "(I)I"⟩, 11), (⟨"ThingStream$Reader", "readDescription", "(I)I"⟩, 11), (⟨"ThingStream$Reader", "readDescriptionHandle", "(I)I"⟩, 11), (⟨"ThingStream$Reader", "readNewDescription", "(II)I"⟩, 11), (⟨"ThingStream$Reader", "readFieldOf", "(I)V"⟩, 11), (⟨"ThingStream$Reader", "giveHandle", "(II)V"⟩, 11), (⟨"ThingStream$Reader", "isStrange", "(I)Z"⟩, 11), (⟨"ThingStream$Reader", "strange", "(I)V"⟩, 11), (⟨"ThingStream$Reader", "readFields", "(III)V"⟩, 11), (⟨"ThingStream$Reader", "readRow", "(I)I"⟩, 11), (⟨"ThingStreamModel", "fieldOf", "(II)I"⟩, 40), (⟨"ThingStreamModel", "fill", "(II)V"⟩, 40), (⟨"ThingStreamModel", "above", "(II)I"⟩, 40), (⟨"ThingStreamModel", "fieldIn", "(IIII)I"⟩, 40)]
theorem lw_r2 : ∀ q ∈ lw_privs_2, lw_okq q := List.forall_mem_cons.mpr ⟨lw_p16, List.forall_mem_cons.mpr ⟨lw_p17, List.forall_mem_cons.mpr ⟨lw_p18, List.forall_mem_cons.mpr ⟨lw_p19, List.forall_mem_cons.mpr ⟨lw_p20, List.forall_mem_cons.mpr ⟨lw_p21, List.forall_mem_cons.mpr ⟨lw_p22, List.forall_mem_cons.mpr ⟨lw_p23, List.forall_mem_cons.mpr ⟨lw_p24, List.forall_mem_cons.mpr ⟨lw_p25, List.forall_mem_cons.mpr ⟨lw_p26, List.forall_mem_cons.mpr ⟨lw_p27, List.forall_mem_cons.mpr ⟨lw_p28, List.forall_mem_cons.mpr ⟨lw_p29, List.forall_mem_cons.mpr ⟨lw_p30, List.forall_mem_cons.mpr ⟨lw_p31, fun _ h => absurd h List.not_mem_nil⟩⟩⟩⟩⟩⟩⟩⟩⟩⟩⟩⟩⟩⟩⟩⟩
theorem lw_p32 : lw_okq (⟨"ThingStreamModel", "isThing", "(II)Z"⟩, 40) := ⟨⟨by decide +kernel, by decide +kernel⟩, List.mem_of_getElem? (i := 686) (by decide +kernel), List.mem_of_getElem? (i := 860) (by decide +kernel), List.mem_of_getElem? (i := 861) (by decide +kernel)⟩
theorem lw_p33 : lw_okq (⟨"ThingStreamModel", "isInChain", "(III)Z"⟩, 40) := ⟨⟨by decide +kernel, by decide +kernel⟩, List.mem_of_getElem? (i := 686) (by decide +kernel), List.mem_of_getElem? (i := 864) (by decide +kernel), List.mem_of_getElem? (i := 865) (by decide +kernel)⟩
theorem lw_p34 : lw_okq (⟨"ThingStreamModel", "say", "(I)V"⟩, 40) := ⟨⟨by decide +kernel, by decide +kernel⟩, List.mem_of_getElem? (i := 686) (by decide +kernel), List.mem_of_getElem? (i := 883) (by decide +kernel), List.mem_of_getElem? (i := 884) (by decide +kernel)⟩
theorem lw_p35 : lw_okq (⟨"ThingStreamModel", "sayValue", "(I)V"⟩, 40) := ⟨⟨by decide +kernel, by decide +kernel⟩, List.mem_of_getElem? (i := 686) (by decide +kernel), List.mem_of_getElem? (i := 887) (by decide +kernel), List.mem_of_getElem? (i := 888) (by decide +kernel)⟩
theorem lw_p36 : lw_okq (⟨"ThingStreamModel", "sayHandle", "(I)V"⟩, 40) := ⟨⟨by decide +kernel, by decide +kernel⟩, List.mem_of_getElem? (i := 686) (by decide +kernel), List.mem_of_getElem? (i := 891) (by decide +kernel), List.mem_of_getElem? (i := 892) (by decide +kernel)⟩
theorem lw_p37 : lw_okq (⟨"ThingStreamModel", "sayDescription", "(I)V"⟩, 40) := ⟨⟨by decide +kernel, by decide +kernel⟩, List.mem_of_getElem? (i := 686) (by decide +kernel), List.mem_of_getElem? (i := 895) (by decide +kernel), List.mem_of_getElem? (i := 896) (by decide +kernel)⟩
theorem lw_p38 : lw_okq (⟨"ThingStreamModel", "sayNumber", "(JI)V"⟩, 40) := ⟨⟨by decide +kernel, by decide +kernel⟩, List.mem_of_getElem? (i := 686) (by decide +kernel), List.mem_of_getElem? (i := 899) (by decide +kernel), List.mem_of_getElem? (i := 900) (by decide +kernel)⟩
theorem lw_p39 : lw_okq (⟨"ThingStreamModel", "sayMore", "()V"⟩, 40) := ⟨⟨by decide +kernel, by decide +kernel⟩, List.mem_of_getElem? (i := 686) (by decide +kernel), List.mem_of_getElem? (i := 904) (by decide +kernel), List.mem_of_getElem? (i := 905) (by decide +kernel)⟩
theorem lw_p40 : lw_okq (⟨"ThingStreamModel", "fieldNumber", "(II)I"⟩, 40) := ⟨⟨by decide +kernel, by decide +kernel⟩, List.mem_of_getElem? (i := 686) (by decide +kernel), List.mem_of_getElem? (i := 908) (by decide +kernel), List.mem_of_getElem? (i := 909) (by decide +kernel)⟩
theorem lw_p41 : lw_okq (⟨"ThingStreamModel", "readAll", "()Z"⟩, 40) := ⟨⟨by decide +kernel, by decide +kernel⟩, List.mem_of_getElem? (i := 686) (by decide +kernel), List.mem_of_getElem? (i := 932) (by decide +kernel), List.mem_of_getElem? (i := 933) (by decide +kernel)⟩
theorem lw_p42 : lw_okq (⟨"ThingStreamModel", "fail", "(II)Z"⟩, 40) := ⟨⟨by decide +kernel, by decide +kernel⟩, List.mem_of_getElem? (i := 686) (by decide +kernel), List.mem_of_getElem? (i := 936) (by decide +kernel), List.mem_of_getElem? (i := 937) (by decide +kernel)⟩
theorem lw_p43 : lw_okq (⟨"ThingStreamModel", "has", "(I)Z"⟩, 40) := ⟨⟨by decide +kernel, by decide +kernel⟩, List.mem_of_getElem? (i := 686) (by decide +kernel), List.mem_of_getElem? (i := 940) (by decide +kernel), List.mem_of_getElem? (i := 941) (by decide +kernel)⟩
theorem lw_p44 : lw_okq (⟨"ThingStreamModel", "take", "()I"⟩, 40) := ⟨⟨by decide +kernel, by decide +kernel⟩, List.mem_of_getElem? (i := 686) (by decide +kernel), List.mem_of_getElem? (i := 944) (by decide +kernel), List.mem_of_getElem? (i := 945) (by decide +kernel)⟩
theorem lw_p45 : lw_okq (⟨"ThingStreamModel", "begin", "()I"⟩, 40) := ⟨⟨by decide +kernel, by decide +kernel⟩, List.mem_of_getElem? (i := 686) (by decide +kernel), List.mem_of_getElem? (i := 948) (by decide +kernel), List.mem_of_getElem? (i := 949) (by decide +kernel)⟩
theorem lw_p46 : lw_okq (⟨"ThingStreamModel", "takeHandle", "(Z)I"⟩, 40) := ⟨⟨by decide +kernel, by decide +kernel⟩, List.mem_of_getElem? (i := 686) (by decide +kernel), List.mem_of_getElem? (i := 952) (by decide +kernel), List.mem_of_getElem? (i := 953) (by decide +kernel)⟩
theorem lw_p47 : lw_okq (⟨"ThingStreamModel", "beginRecord", "()Z"⟩, 40) := ⟨⟨by decide +kernel, by decide +kernel⟩, List.mem_of_getElem? (i := 686) (by decide +kernel), List.mem_of_getElem? (i := 956) (by decide +kernel), List.mem_of_getElem? (i := 957) (by decide +kernel)⟩
def lw_privs_3 : List (MethodName × Nat) := [(⟨"ThingStreamModel", "isThing", "(II)Z"⟩, 40), (⟨"ThingStreamModel", "isInChain", "(III)Z"⟩, 40), (⟨"ThingStreamModel", "say", "(I)V"⟩, 40), (⟨"ThingStreamModel", "sayValue", "(I)V"⟩, 40), (⟨"ThingStreamModel", "sayHandle", "(I)V"⟩, 40), (⟨"ThingStreamModel", "sayDescription", "(I)V"⟩, 40), (⟨"ThingStreamModel", "sayNumber", "(JI)V"⟩, 40), (⟨"ThingStreamModel", "sayMore", "()V"⟩, 40), (⟨"ThingStreamModel", "fieldNumber", "(II)I"⟩, 40), (⟨"ThingStreamModel", "readAll", "()Z"⟩, 40), (⟨"ThingStreamModel", "fail", "(II)Z"⟩, 40), (⟨"ThingStreamModel", "has", "(I)Z"⟩, 40), (⟨"ThingStreamModel", "take", "()I"⟩, 40), (⟨"ThingStreamModel", "begin", "()I"⟩, 40), (⟨"ThingStreamModel", "takeHandle", "(Z)I"⟩, 40), (⟨"ThingStreamModel", "beginRecord", "()Z"⟩, 40)]
theorem lw_r3 : ∀ q ∈ lw_privs_3, lw_okq q := List.forall_mem_cons.mpr ⟨lw_p32, List.forall_mem_cons.mpr ⟨lw_p33, List.forall_mem_cons.mpr ⟨lw_p34, List.forall_mem_cons.mpr ⟨lw_p35, List.forall_mem_cons.mpr ⟨lw_p36, List.forall_mem_cons.mpr ⟨lw_p37, List.forall_mem_cons.mpr ⟨lw_p38, List.forall_mem_cons.mpr ⟨lw_p39, List.forall_mem_cons.mpr ⟨lw_p40, List.forall_mem_cons.mpr ⟨lw_p41, List.forall_mem_cons.mpr ⟨lw_p42, List.forall_mem_cons.mpr ⟨lw_p43, List.forall_mem_cons.mpr ⟨lw_p44, List.forall_mem_cons.mpr ⟨lw_p45, List.forall_mem_cons.mpr ⟨lw_p46, List.forall_mem_cons.mpr ⟨lw_p47, fun _ h => absurd h List.not_mem_nil⟩⟩⟩⟩⟩⟩⟩⟩⟩⟩⟩⟩⟩⟩⟩⟩
theorem lw_p48 : lw_okq (⟨"ThingStreamModel", "description", "()I"⟩, 40) := ⟨⟨by decide +kernel, by decide +kernel⟩, List.mem_of_getElem? (i := 686) (by decide +kernel), List.mem_of_getElem? (i := 960) (by decide +kernel), List.mem_of_getElem? (i := 961) (by decide +kernel)⟩
theorem lw_p49 : lw_okq (⟨"ThingStreamModel", "describe", "(II)Z"⟩, 40) := ⟨⟨by decide +kernel, by decide +kernel⟩, List.mem_of_getElem? (i := 686) (by decide +kernel), List.mem_of_getElem? (i := 964) (by decide +kernel), List.mem_of_getElem? (i := 965) (by decide +kernel)⟩
theorem lw_p50 : lw_okq (⟨"ThingStreamModel", "takeNumber", "(I)J"⟩, 40) := ⟨⟨by decide +kernel, by decide +kernel⟩, List.mem_of_getElem? (i := 686) (by decide +kernel), List.mem_of_getElem? (i := 968) (by decide +kernel), List.mem_of_getElem? (i := 969) (by decide +kernel)⟩
theorem lw_p51 : lw_okq (⟨"ThingStreamModel", "describeField", "(II)Z"⟩, 40) := ⟨⟨by decide +kernel, by decide +kernel⟩, List.mem_of_getElem? (i := 686) (by decide +kernel), List.mem_of_getElem? (i := 972) (by decide +kernel), List.mem_of_getElem? (i := 973) (by decide +kernel)⟩
theorem lw_p52 : lw_okq (⟨"ThingStreamModel", "agrees", "(I)Z"⟩, 40) := ⟨⟨by decide +kernel, by decide +kernel⟩, List.mem_of_getElem? (i := 686) (by decide +kernel), List.mem_of_getElem? (i := 976) (by decide +kernel), List.mem_of_getElem? (i := 977) (by decide +kernel)⟩
theorem lw_p53 : lw_okq (⟨"ThingStreamModel", "beginRow", "()Z"⟩, 40) := ⟨⟨by decide +kernel, by decide +kernel⟩, List.mem_of_getElem? (i := 686) (by decide +kernel), List.mem_of_getElem? (i := 980) (by decide +kernel), List.mem_of_getElem? (i := 981) (by decide +kernel)⟩
theorem lw_p54 : lw_okq (⟨"ThingStreamModel", "store", "(I)V"⟩, 40) := ⟨⟨by decide +kernel, by decide +kernel⟩, List.mem_of_getElem? (i := 686) (by decide +kernel), List.mem_of_getElem? (i := 984) (by decide +kernel), List.mem_of_getElem? (i := 985) (by decide +kernel)⟩
theorem lw_p55 : lw_okq (⟨"ThingStreamModel", "readField", "(II)I"⟩, 40) := ⟨⟨by decide +kernel, by decide +kernel⟩, List.mem_of_getElem? (i := 686) (by decide +kernel), List.mem_of_getElem? (i := 988) (by decide +kernel), List.mem_of_getElem? (i := 989) (by decide +kernel)⟩
theorem lw_p56 : lw_okq (⟨"ThingStreamModel", "keep", "(IIJ)V"⟩, 40) := ⟨⟨by decide +kernel, by decide +kernel⟩, List.mem_of_getElem? (i := 686) (by decide +kernel), List.mem_of_getElem? (i := 992) (by decide +kernel), List.mem_of_getElem? (i := 993) (by decide +kernel)⟩
theorem lw_p57 : lw_okq (⟨"ThingStreamModel", "goOn", "()I"⟩, 40) := ⟨⟨by decide +kernel, by decide +kernel⟩, List.mem_of_getElem? (i := 686) (by decide +kernel), List.mem_of_getElem? (i := 996) (by decide +kernel), List.mem_of_getElem? (i := 997) (by decide +kernel)⟩
theorem lw_p58 : lw_okq (⟨"ThingStreamModel", "becomeThings", "()V"⟩, 40) := ⟨⟨by decide +kernel, by decide +kernel⟩, List.mem_of_getElem? (i := 686) (by decide +kernel), List.mem_of_getElem? (i := 1000) (by decide +kernel), List.mem_of_getElem? (i := 1001) (by decide +kernel)⟩
def lw_privs_4 : List (MethodName × Nat) := [(⟨"ThingStreamModel", "description", "()I"⟩, 40), (⟨"ThingStreamModel", "describe", "(II)Z"⟩, 40), (⟨"ThingStreamModel", "takeNumber", "(I)J"⟩, 40), (⟨"ThingStreamModel", "describeField", "(II)Z"⟩, 40), (⟨"ThingStreamModel", "agrees", "(I)Z"⟩, 40), (⟨"ThingStreamModel", "beginRow", "()Z"⟩, 40), (⟨"ThingStreamModel", "store", "(I)V"⟩, 40), (⟨"ThingStreamModel", "readField", "(II)I"⟩, 40), (⟨"ThingStreamModel", "keep", "(IIJ)V"⟩, 40), (⟨"ThingStreamModel", "goOn", "()I"⟩, 40), (⟨"ThingStreamModel", "becomeThings", "()V"⟩, 40)]
theorem lw_r4 : ∀ q ∈ lw_privs_4, lw_okq q := List.forall_mem_cons.mpr ⟨lw_p48, List.forall_mem_cons.mpr ⟨lw_p49, List.forall_mem_cons.mpr ⟨lw_p50, List.forall_mem_cons.mpr ⟨lw_p51, List.forall_mem_cons.mpr ⟨lw_p52, List.forall_mem_cons.mpr ⟨lw_p53, List.forall_mem_cons.mpr ⟨lw_p54, List.forall_mem_cons.mpr ⟨lw_p55, List.forall_mem_cons.mpr ⟨lw_p56, List.forall_mem_cons.mpr ⟨lw_p57, List.forall_mem_cons.mpr ⟨lw_p58, fun _ h => absurd h List.not_mem_nil⟩⟩⟩⟩⟩⟩⟩⟩⟩⟩⟩
def lw_privs : List (MethodName × Nat) := lw_privs_1 ++ (lw_privs_2 ++ (lw_privs_3 ++ (lw_privs_4)))
def lw_tbl : List Cond := k2_sels lw_privs ++ tables_1
theorem lw_privs_ok : ∀ q ∈ lw_privs, lw_okq q := by
  show ∀ q ∈ lw_privs_1 ++ (lw_privs_2 ++ (lw_privs_3 ++ (lw_privs_4))), lw_okq q
  exact List.forall_mem_append.mpr ⟨lw_r1, List.forall_mem_append.mpr ⟨lw_r2, List.forall_mem_append.mpr ⟨lw_r3, lw_r4⟩⟩⟩
def zR0 : String := "ThingStream$Bytes"
def zT0 : u_T := fun k => match k with
  | 0 => ("ThingStream$Bytes", "bytes", "[I", true)
  | 1 => ("ThingStream$Bytes", "count", "I", false)
  | _ => ("ThingStream$Bytes", "overflowed", "Z", false)
def zt0 : Nat → FieldType := fun k => match k with
  | 0 => .array .int
  | 1 => .int
  | _ => .boolean
theorem zn0 : ∀ a, a < 3 → ∀ b, b < 3 → a ≠ b → (zT0 a).2.1 ≠ (zT0 b).2.1 := by decide +kernel
theorem zt0_ok : ∀ k, k < 3 → parseFieldDescriptor (zT0 k).2.2.1 = some (zt0 k) := by decide +kernel
def zR1 : String := "ThingStream$Reader"
def zT1 : u_T := fun k => match k with
  | 0 => ("ThingStream$Reader", "stream", "LThingStream$Bytes;", true)
  | 1 => ("ThingStream$Reader", "side", "LThingStream$Side;", true)
  | 2 => ("ThingStream$Reader", "limits", "[I", true)
  | 3 => ("ThingStream$Reader", "told", "LThingStream$Shapes;", true)
  | 4 => ("ThingStream$Reader", "thingsByHandle", "[I", true)
  | 5 => ("ThingStream$Reader", "toldByHandle", "[I", true)
  | 6 => ("ThingStream$Reader", "fresh", "LThingStream$Things;", false)
  | 7 => ("ThingStream$Reader", "toldCount", "I", false)
  | 8 => ("ThingStream$Reader", "handleCount", "I", false)
  | 9 => ("ThingStream$Reader", "place", "I", false)
  | _ => ("ThingStream$Reader", "fault", "I", false)
def zt1 : Nat → FieldType := fun k => match k with
  | 0 => .object "ThingStream$Bytes"
  | 1 => .object "ThingStream$Side"
  | 2 => .array .int
  | 3 => .object "ThingStream$Shapes"
  | 4 => .array .int
  | 5 => .array .int
  | 6 => .object "ThingStream$Things"
  | 7 => .int
  | 8 => .int
  | 9 => .int
  | _ => .int
theorem zn1 : ∀ a, a < 11 → ∀ b, b < 11 → a ≠ b → (zT1 a).2.1 ≠ (zT1 b).2.1 := by decide +kernel
theorem zt1_ok : ∀ k, k < 11 → parseFieldDescriptor (zT1 k).2.2.1 = some (zt1 k) := by decide +kernel
def zR2 : String := "ThingStream$Shapes"
def zT2 : u_T := fun k => match k with
  | 0 => ("ThingStream$Shapes", "there", "[Z", true)
  | 1 => ("ThingStream$Shapes", "numbers", "[I", true)
  | 2 => ("ThingStream$Shapes", "parents", "[I", true)
  | 3 => ("ThingStream$Shapes", "marks", "[I", true)
  | 4 => ("ThingStream$Shapes", "fieldCounts", "[I", true)
  | 5 => ("ThingStream$Shapes", "names", "[I", true)
  | _ => ("ThingStream$Shapes", "kinds", "[I", true)
def zt2 : Nat → FieldType := fun k => match k with
  | 0 => .array .boolean
  | 1 => .array .int
  | 2 => .array .int
  | 3 => .array .int
  | 4 => .array .int
  | 5 => .array .int
  | _ => .array .int
theorem zn2 : ∀ a, a < 7 → ∀ b, b < 7 → a ≠ b → (zT2 a).2.1 ≠ (zT2 b).2.1 := by decide +kernel
theorem zt2_ok : ∀ k, k < 7 → parseFieldDescriptor (zT2 k).2.2.1 = some (zt2 k) := by decide +kernel
def zR3 : String := "ThingStream$Side"
def zT3 : u_T := fun k => match k with
  | 0 => ("ThingStream$Side", "shapes", "LThingStream$Shapes;", true)
  | _ => ("ThingStream$Side", "held", "LThingStream$Things;", false)
def zt3 : Nat → FieldType := fun k => match k with
  | 0 => .object "ThingStream$Shapes"
  | _ => .object "ThingStream$Things"
theorem zn3 : ∀ a, a < 2 → ∀ b, b < 2 → a ≠ b → (zT3 a).2.1 ≠ (zT3 b).2.1 := by decide +kernel
theorem zt3_ok : ∀ k, k < 2 → parseFieldDescriptor (zT3 k).2.2.1 = some (zt3 k) := by decide +kernel
def zR4 : String := "ThingStream$Things"
def zT4 : u_T := fun k => match k with
  | 0 => ("ThingStream$Things", "shapes", "[I", true)
  | 1 => ("ThingStream$Things", "lengths", "[I", true)
  | 2 => ("ThingStream$Things", "values", "[J", true)
  | _ => ("ThingStream$Things", "count", "I", false)
def zt4 : Nat → FieldType := fun k => match k with
  | 0 => .array .int
  | 1 => .array .int
  | 2 => .array .long
  | _ => .int
theorem zn4 : ∀ a, a < 4 → ∀ b, b < 4 → a ≠ b → (zT4 a).2.1 ≠ (zT4 b).2.1 := by decide +kernel
theorem zt4_ok : ∀ k, k < 4 → parseFieldDescriptor (zT4 k).2.2.1 = some (zt4 k) := by decide +kernel
def zR5 : String := "ThingStream$Writer"
def zT5 : u_T := fun k => match k with
  | 0 => ("ThingStream$Writer", "stream", "LThingStream$Bytes;", true)
  | 1 => ("ThingStream$Writer", "side", "LThingStream$Side;", true)
  | 2 => ("ThingStream$Writer", "thingHandles", "[I", true)
  | 3 => ("ThingStream$Writer", "shapeHandles", "[I", true)
  | _ => ("ThingStream$Writer", "handleCount", "I", false)
def zt5 : Nat → FieldType := fun k => match k with
  | 0 => .object "ThingStream$Bytes"
  | 1 => .object "ThingStream$Side"
  | 2 => .array .int
  | 3 => .array .int
  | _ => .int
theorem zn5 : ∀ a, a < 5 → ∀ b, b < 5 → a ≠ b → (zT5 a).2.1 ≠ (zT5 b).2.1 := by decide +kernel
theorem zt5_ok : ∀ k, k < 5 → parseFieldDescriptor (zT5 k).2.2.1 = some (zt5 k) := by decide +kernel
def zR6 : String := "ThingStream"
def zT6 : u_T := fun k => match k with
  | 0 => ("ThingStream", "writing", "LThingStream$Side;", true)
  | 1 => ("ThingStream", "reading", "LThingStream$Side;", true)
  | 2 => ("ThingStream", "stream", "LThingStream$Bytes;", true)
  | 3 => ("ThingStream", "writer", "LThingStream$Writer;", true)
  | _ => ("ThingStream", "reader", "LThingStream$Reader;", true)
def zt6 : Nat → FieldType := fun k => match k with
  | 0 => .object "ThingStream$Side"
  | 1 => .object "ThingStream$Side"
  | 2 => .object "ThingStream$Bytes"
  | 3 => .object "ThingStream$Writer"
  | _ => .object "ThingStream$Reader"
theorem zn6 : ∀ a, a < 5 → ∀ b, b < 5 → a ≠ b → (zT6 a).2.1 ≠ (zT6 b).2.1 := by decide +kernel
theorem zt6_ok : ∀ k, k < 5 → parseFieldDescriptor (zT6 k).2.2.1 = some (zt6 k) := by decide +kernel
def zR7 : String := "ThingStreamModel"
def zT7 : u_T := fun k => match k with
  | 0 => ("ThingStreamModel", "thrown", "I", false)
  | 1 => ("ThingStreamModel", "there", "[Z", true)
  | 2 => ("ThingStreamModel", "parent", "[I", true)
  | 3 => ("ThingStreamModel", "mark", "[I", true)
  | 4 => ("ThingStreamModel", "fields", "[I", true)
  | 5 => ("ThingStreamModel", "name", "[I", true)
  | 6 => ("ThingStreamModel", "kind", "[I", true)
  | 7 => ("ThingStreamModel", "count", "[I", true)
  | 8 => ("ThingStreamModel", "shape", "[I", true)
  | 9 => ("ThingStreamModel", "length", "[I", true)
  | 10 => ("ThingStreamModel", "value", "[J", true)
  | 11 => ("ThingStreamModel", "link", "[I", true)
  | 12 => ("ThingStreamModel", "size", "I", false)
  | 13 => ("ThingStreamModel", "stream", "[I", true)
  | 14 => ("ThingStreamModel", "limits", "[I", true)
  | 15 => ("ThingStreamModel", "where", "I", false)
  | 16 => ("ThingStreamModel", "handles", "I", false)
  | 17 => ("ThingStreamModel", "shapeHandle", "[I", true)
  | 18 => ("ThingStreamModel", "thingHandle", "[I", true)
  | 19 => ("ThingStreamModel", "handle", "[I", true)
  | 20 => ("ThingStreamModel", "open", "I", false)
  | 21 => ("ThingStreamModel", "opened", "[I", true)
  | 22 => ("ThingStreamModel", "far", "[I", true)
  | 23 => ("ThingStreamModel", "p", "I", false)
  | 24 => ("ThingStreamModel", "fault", "I", false)
  | 25 => ("ThingStreamModel", "descriptions", "I", false)
  | 26 => ("ThingStreamModel", "dShape", "[I", true)
  | 27 => ("ThingStreamModel", "dAt", "[I", true)
  | 28 => ("ThingStreamModel", "dParent", "[I", true)
  | 29 => ("ThingStreamModel", "dMark", "[I", true)
  | 30 => ("ThingStreamModel", "dFields", "[I", true)
  | 31 => ("ThingStreamModel", "dName", "[I", true)
  | 32 => ("ThingStreamModel", "dKind", "[I", true)
  | 33 => ("ThingStreamModel", "things", "I", false)
  | 34 => ("ThingStreamModel", "tDescription", "[I", true)
  | 35 => ("ThingStreamModel", "tLength", "[I", true)
  | 36 => ("ThingStreamModel", "tValue", "[J", true)
  | 37 => ("ThingStreamModel", "tHas", "[I", true)
  | 38 => ("ThingStreamModel", "tLink", "[I", true)
  | _ => ("ThingStreamModel", "began", "I", false)
def zt7 : Nat → FieldType := fun k => match k with
  | 0 => .int
  | 1 => .array .boolean
  | 2 => .array .int
  | 3 => .array .int
  | 4 => .array .int
  | 5 => .array .int
  | 6 => .array .int
  | 7 => .array .int
  | 8 => .array .int
  | 9 => .array .int
  | 10 => .array .long
  | 11 => .array .int
  | 12 => .int
  | 13 => .array .int
  | 14 => .array .int
  | 15 => .int
  | 16 => .int
  | 17 => .array .int
  | 18 => .array .int
  | 19 => .array .int
  | 20 => .int
  | 21 => .array .int
  | 22 => .array .int
  | 23 => .int
  | 24 => .int
  | 25 => .int
  | 26 => .array .int
  | 27 => .array .int
  | 28 => .array .int
  | 29 => .array .int
  | 30 => .array .int
  | 31 => .array .int
  | 32 => .array .int
  | 33 => .int
  | 34 => .array .int
  | 35 => .array .int
  | 36 => .array .long
  | 37 => .array .int
  | 38 => .array .int
  | _ => .int
theorem zn7 : ∀ a, a < 40 → ∀ b, b < 40 → a ≠ b → (zT7 a).2.1 ≠ (zT7 b).2.1 := by decide +kernel
theorem zt7_ok : ∀ k, k < 40 → parseFieldDescriptor (zT7 k).2.2.1 = some (zt7 k) := by decide +kernel
abbrev vwCl : List vw_C := [(zR0, zT0, 3), (zR1, zT1, 11), (zR2, zT2, 7), (zR3, zT3, 2), (zR4, zT4, 4), (zR5, zT5, 5), (zR6, zT6, 5), (zR7, zT7, 40)]
abbrev z_Y9 : Type := MethodName × ByteArray × Nat × Option FieldType × List (Nat × Nat × Nat × Nat)
def zY_TS_init : z_Y9 := (⟨"ThingStream", "<init>", "()V"⟩, prog_1_method_1_code, 1, none, [])
def zY_Object_init : z_Y9 := (⟨"java/lang/Object", "<init>", "()V"⟩, object_method_1_code, 1, none, [])
def zY_Side_init : z_Y9 := (⟨"ThingStream$Side", "<init>", "(I)V"⟩, prog_5_method_1_code, 2, none, [])
def zY_Shapes_init : z_Y9 := (⟨"ThingStream$Shapes", "<init>", "(I)V"⟩, prog_4_method_1_code, 2, none, [])
def zY_Things_init : z_Y9 := (⟨"ThingStream$Things", "<init>", "(I)V"⟩, prog_6_method_1_code, 2, none, [])
def zY_Bytes_init : z_Y9 := (⟨"ThingStream$Bytes", "<init>", "()V"⟩, prog_2_method_1_code, 1, none, [])
def zY_Writer_init : z_Y9 := (⟨"ThingStream$Writer", "<init>", "(LThingStream$Bytes;LThingStream$Side;)V"⟩, prog_7_method_1_code, 3, none, [])
def zY_Reader_init : z_Y9 := (⟨"ThingStream$Reader", "<init>", "(LThingStream$Bytes;LThingStream$Side;)V"⟩, prog_3_method_1_code, 3, none, [])
def zY_TS_shape : z_Y9 := (⟨"ThingStream", "shape", "(IIII)Z"⟩, prog_1_method_2_code, 6, (some .boolean), [])
def zY_TS_sideToReshape : z_Y9 := (⟨"ThingStream", "sideToReshape", "(I)LThingStream$Side;"⟩, prog_1_method_21_code, 2, (some (.object "ThingStream$Side")), [])
def zY_TS_sideOf : z_Y9 := (⟨"ThingStream", "sideOf", "(I)LThingStream$Side;"⟩, prog_1_method_20_code, 2, (some (.object "ThingStream$Side")), [])
def zY_Shapes_begin : z_Y9 := (⟨"ThingStream$Shapes", "begin", "(IIII)V"⟩, prog_4_method_3_code, 5, none, [])
def zY_Things_removeAll : z_Y9 := (⟨"ThingStream$Things", "removeAll", "()V"⟩, prog_6_method_9_code, 1, none, [])
def zY_TS_field : z_Y9 := (⟨"ThingStream", "field", "(IIII)Z"⟩, prog_1_method_3_code, 6, (some .boolean), [])
def zY_Shapes_mayAddField : z_Y9 := (⟨"ThingStream$Shapes", "mayAddField", "(III)Z"⟩, prog_4_method_4_code, 4, (some .boolean), [])
def zY_Shapes_has : z_Y9 := (⟨"ThingStream$Shapes", "has", "(I)Z"⟩, prog_4_method_2_code, 2, (some .boolean), [])
def zY_Shapes_fieldOf : z_Y9 := (⟨"ThingStream$Shapes", "fieldOf", "(II)I"⟩, prog_4_method_8_code, 4, (some .int), [])
def zY_Shapes_nameOf : z_Y9 := (⟨"ThingStream$Shapes", "nameOf", "(II)I"⟩, prog_4_method_9_code, 3, (some .int), [])
def zY_Shapes_addField : z_Y9 := (⟨"ThingStream$Shapes", "addField", "(III)V"⟩, prog_4_method_5_code, 6, none, [])
def zY_Shapes_rank : z_Y9 := (⟨"ThingStream$Shapes", "rank", "(II)I"⟩, prog_4_method_7_code, 2, (some .int), [])
def zY_TS_build : z_Y9 := (⟨"ThingStream", "build", "(I)I"⟩, prog_1_method_4_code, 2, (some .int), [])
def zY_Things_isFull : z_Y9 := (⟨"ThingStream$Things", "isFull", "()Z"⟩, prog_6_method_3_code, 1, (some .boolean), [])
def zY_Things_addRecord : z_Y9 := (⟨"ThingStream$Things", "addRecord", "(ILThingStream$Shapes;)I"⟩, prog_6_method_11_code, 5, (some .int), [])
def zY_Shapes_chainLength : z_Y9 := (⟨"ThingStream$Shapes", "chainLength", "(I)I"⟩, prog_4_method_12_code, 4, (some .int), [])
def zY_Shapes_parentOf : z_Y9 := (⟨"ThingStream$Shapes", "parentOf", "(I)I"⟩, prog_4_method_11_code, 2, (some .int), [])
def zY_Shapes_upTheChain : z_Y9 := (⟨"ThingStream$Shapes", "upTheChain", "(II)I"⟩, prog_4_method_13_code, 5, (some .int), [])
def zY_Things_emptyFields : z_Y9 := (⟨"ThingStream$Things", "emptyFields", "(IILThingStream$Shapes;)V"⟩, prog_6_method_12_code, 5, none, [])
def zY_Things_slotOfField : z_Y9 := (⟨"ThingStream$Things", "slotOfField", "(III)I"⟩, prog_6_method_8_code, 4, (some .int), [])
def zY_Things_firstSlot : z_Y9 := (⟨"ThingStream$Things", "firstSlot", "(I)I"⟩, prog_6_method_7_code, 2, (some .int), [])
def zY_Shapes_kindOf : z_Y9 := (⟨"ThingStream$Shapes", "kindOf", "(II)I"⟩, prog_4_method_10_code, 3, (some .int), [])
def zY_TS_row : z_Y9 := (⟨"ThingStream", "row", "(I)I"⟩, prog_1_method_5_code, 2, (some .int), [])
def zY_Things_addRow : z_Y9 := (⟨"ThingStream$Things", "addRow", "(I)I"⟩, prog_6_method_10_code, 4, (some .int), [])
def zY_TS_set : z_Y9 := (⟨"ThingStream", "set", "(IIIJ)Z"⟩, prog_1_method_6_code, 8, (some .boolean), [])
def zY_Side_slotOf : z_Y9 := (⟨"ThingStream$Side", "slotOf", "(III)I"⟩, prog_5_method_2_code, 5, (some .int), [])
def zY_Things_isRecord : z_Y9 := (⟨"ThingStream$Things", "isRecord", "(I)Z"⟩, prog_6_method_4_code, 2, (some .boolean), [])
def zY_Things_has : z_Y9 := (⟨"ThingStream$Things", "has", "(I)Z"⟩, prog_6_method_2_code, 2, (some .boolean), [])
def zY_Shapes_chainHas : z_Y9 := (⟨"ThingStream$Shapes", "chainHas", "(II)Z"⟩, prog_4_method_14_code, 5, (some .boolean), [])
def zY_TS_cutToKind : z_Y9 := (⟨"ThingStream", "cutToKind", "(JI)J"⟩, prog_1_method_23_code, 4, (some .long), [])
def zY_TS_bytesOfKind : z_Y9 := (⟨"ThingStream", "bytesOfKind", "(I)I"⟩, prog_1_method_22_code, 1, (some .int), [])
def zY_Things_mayLinkTo : z_Y9 := (⟨"ThingStream$Things", "mayLinkTo", "(J)Z"⟩, prog_6_method_6_code, 3, (some .boolean), [])
def zY_TS_link : z_Y9 := (⟨"ThingStream", "link", "(III)Z"⟩, prog_1_method_7_code, 4, (some .boolean), [])
def zY_Things_hasLink : z_Y9 := (⟨"ThingStream$Things", "hasLink", "(II)Z"⟩, prog_6_method_5_code, 3, (some .boolean), [])
def zY_TS_write : z_Y9 := (⟨"ThingStream", "write", "(I)I"⟩, prog_1_method_8_code, 2, (some .int), [])
def zY_Writer_begin : z_Y9 := (⟨"ThingStream$Writer", "begin", "()V"⟩, prog_7_method_2_code, 1, none, [])
def zY_Arrays_fill : z_Y9 := (⟨"java/util/Arrays", "fill", "([II)V"⟩, prog_17_method_103_code, 4, none, [])
def zY_Bytes_removeAll : z_Y9 := (⟨"ThingStream$Bytes", "removeAll", "()V"⟩, prog_2_method_4_code, 1, none, [])
def zY_Bytes_append : z_Y9 := (⟨"ThingStream$Bytes", "append", "(I)V"⟩, prog_2_method_5_code, 2, none, [])
def zY_Bytes_isFull : z_Y9 := (⟨"ThingStream$Bytes", "isFull", "()Z"⟩, prog_2_method_3_code, 1, (some .boolean), [])
def zY_Writer_writeValue : z_Y9 := (⟨"ThingStream$Writer", "writeValue", "(II)V"⟩, prog_7_method_3_code, 3, none, [])
def zY_Writer_writeHandle : z_Y9 := (⟨"ThingStream$Writer", "writeHandle", "(I)V"⟩, prog_7_method_9_code, 2, none, [])
def zY_Writer_writeNumber : z_Y9 := (⟨"ThingStream$Writer", "writeNumber", "(JI)V"⟩, prog_7_method_10_code, 5, none, [])
def zY_Writer_writeRecord : z_Y9 := (⟨"ThingStream$Writer", "writeRecord", "(II)V"⟩, prog_7_method_5_code, 5, none, [])
def zY_Writer_writeDescription : z_Y9 := (⟨"ThingStream$Writer", "writeDescription", "(I)V"⟩, prog_7_method_7_code, 4, none, [])
def zY_Writer_writeNewDescription : z_Y9 := (⟨"ThingStream$Writer", "writeNewDescription", "(I)V"⟩, prog_7_method_8_code, 3, none, [])
def zY_Writer_nextHandle : z_Y9 := (⟨"ThingStream$Writer", "nextHandle", "()I"⟩, prog_7_method_11_code, 1, (some .int), [])
def zY_Writer_writeFields : z_Y9 := (⟨"ThingStream$Writer", "writeFields", "(III)V"⟩, prog_7_method_6_code, 8, none, [])
def zY_Writer_writeRow : z_Y9 := (⟨"ThingStream$Writer", "writeRow", "(II)V"⟩, prog_7_method_4_code, 5, none, [])
def zY_TS_clear : z_Y9 := (⟨"ThingStream", "clear", "()V"⟩, prog_1_method_9_code, 1, none, [])
def zY_TS_at : z_Y9 := (⟨"ThingStream", "at", "(I)I"⟩, prog_1_method_10_code, 2, (some .int), [])
def zY_Bytes_has : z_Y9 := (⟨"ThingStream$Bytes", "has", "(I)Z"⟩, prog_2_method_2_code, 2, (some .boolean), [])
def zY_TS_put : z_Y9 := (⟨"ThingStream", "put", "(II)Z"⟩, prog_1_method_11_code, 3, (some .boolean), [])
def zY_TS_cut : z_Y9 := (⟨"ThingStream", "cut", "(I)Z"⟩, prog_1_method_12_code, 2, (some .boolean), [])
def zY_TS_limit : z_Y9 := (⟨"ThingStream", "limit", "(II)Z"⟩, prog_1_method_13_code, 3, (some .boolean), [])
def zY_Reader_changeLimit : z_Y9 := (⟨"ThingStream$Reader", "changeLimit", "(II)Z"⟩, prog_3_method_2_code, 3, (some .boolean), [])
def zY_TS_position : z_Y9 := (⟨"ThingStream", "position", "()I"⟩, prog_1_method_15_code, 1, (some .int), [])
def zY_TS_things : z_Y9 := (⟨"ThingStream", "things", "(I)I"⟩, prog_1_method_16_code, 3, (some .int), [])
def zY_TS_thing : z_Y9 := (⟨"ThingStream", "thing", "(III)I"⟩, prog_1_method_17_code, 5, (some .int), [])
def zY_TS_get : z_Y9 := (⟨"ThingStream", "get", "(IIII)J"⟩, prog_1_method_18_code, 7, (some .long), [])
def zY_TS_goes : z_Y9 := (⟨"ThingStream", "goes", "(III)I"⟩, prog_1_method_19_code, 5, (some .int), [])
def zY_Law_read : z_Y9 := (⟨"ThingStreamLaw", "read", "(LThingStream;[J)I"⟩, method_3_code, 3, (some .int), [(0, 8, 11, 13), (0, 8, 14, 15), (0, 8, 17, 17)])
def zY_TS_read : z_Y9 := (⟨"ThingStream", "read", "()I"⟩, prog_1_method_14_code, 1, (some .int), [])
def zY_Reader_begin : z_Y9 := (⟨"ThingStream$Reader", "begin", "()V"⟩, prog_3_method_3_code, 1, none, [])
def zY_Reader_filtered : z_Y9 := (⟨"ThingStream$Reader", "filtered", "(I)V"⟩, prog_3_method_21_code, 2, none, [])
def zY_Reader_nextByte : z_Y9 := (⟨"ThingStream$Reader", "nextByte", "()I"⟩, prog_3_method_18_code, 1, (some .int), [])
def zY_Reader_wrong : z_Y9 := (⟨"ThingStream$Reader", "wrong", "(I)V"⟩, prog_3_method_19_code, 2, none, [])
def zY_Reader_readValue : z_Y9 := (⟨"ThingStream$Reader", "readValue", "(I)I"⟩, prog_3_method_5_code, 3, (some .int), [])
def zY_Reader_readThingHandle : z_Y9 := (⟨"ThingStream$Reader", "readThingHandle", "()I"⟩, prog_3_method_7_code, 3, (some .int), [])
def zY_Reader_readNumber : z_Y9 := (⟨"ThingStream$Reader", "readNumber", "(I)J"⟩, prog_3_method_17_code, 5, (some .long), [])
def zY_Reader_admit : z_Y9 := (⟨"ThingStream$Reader", "admit", "(II)V"⟩, prog_3_method_6_code, 3, none, [])
def zY_Reader_readRecord : z_Y9 := (⟨"ThingStream$Reader", "readRecord", "(I)I"⟩, prog_3_method_9_code, 7, (some .int), [])
def zY_Reader_readDescription : z_Y9 := (⟨"ThingStream$Reader", "readDescription", "(I)I"⟩, prog_3_method_11_code, 3, (some .int), [])
def zY_Reader_readDescriptionHandle : z_Y9 := (⟨"ThingStream$Reader", "readDescriptionHandle", "(I)I"⟩, prog_3_method_12_code, 4, (some .int), [])
def zY_Reader_readNewDescription : z_Y9 := (⟨"ThingStream$Reader", "readNewDescription", "(II)I"⟩, prog_3_method_13_code, 7, (some .int), [])
def zY_Reader_readFieldOf : z_Y9 := (⟨"ThingStream$Reader", "readFieldOf", "(I)V"⟩, prog_3_method_14_code, 4, none, [])
def zY_Shapes_comesLast : z_Y9 := (⟨"ThingStream$Shapes", "comesLast", "(III)Z"⟩, prog_4_method_6_code, 5, (some .boolean), [])
def zY_Reader_giveHandle : z_Y9 := (⟨"ThingStream$Reader", "giveHandle", "(II)V"⟩, prog_3_method_16_code, 3, none, [])
def zY_Reader_isStrange : z_Y9 := (⟨"ThingStream$Reader", "isStrange", "(I)Z"⟩, prog_3_method_15_code, 5, (some .boolean), [])
def zY_Reader_strange : z_Y9 := (⟨"ThingStream$Reader", "strange", "(I)V"⟩, prog_3_method_20_code, 2, none, [])
def zY_Reader_readFields : z_Y9 := (⟨"ThingStream$Reader", "readFields", "(III)V"⟩, prog_3_method_10_code, 10, none, [])
def zY_Reader_readRow : z_Y9 := (⟨"ThingStream$Reader", "readRow", "(I)I"⟩, prog_3_method_8_code, 6, (some .int), [])
def zY_Reader_finish : z_Y9 := (⟨"ThingStream$Reader", "finish", "()V"⟩, prog_3_method_4_code, 2, none, [])
def zY_Model_init : z_Y9 := (⟨"ThingStreamModel", "<init>", "()V"⟩, prog_9_method_1_code, 1, none, [])
def zY_Model_thrown : z_Y9 := (⟨"ThingStreamModel", "thrown", "()I"⟩, prog_9_method_2_code, 1, (some .int), [])
def zY_Model_shape : z_Y9 := (⟨"ThingStreamModel", "shape", "(IIII)Z"⟩, prog_9_method_4_code, 6, (some .boolean), [])
def zY_Model_in : z_Y9 := (⟨"ThingStreamModel", "in", "(III)Z"⟩, prog_9_method_3_code, 3, (some .boolean), [])
def zY_Model_field : z_Y9 := (⟨"ThingStreamModel", "field", "(IIII)Z"⟩, prog_9_method_6_code, 7, (some .boolean), [])
def zY_Model_fieldOf : z_Y9 := (⟨"ThingStreamModel", "fieldOf", "(II)I"⟩, prog_9_method_5_code, 4, (some .int), [])
def zY_Model_order : z_Y9 := (⟨"ThingStreamModel", "order", "(II)I"⟩, prog_9_method_7_code, 2, (some .int), [])
def zY_Model_build : z_Y9 := (⟨"ThingStreamModel", "build", "(I)I"⟩, prog_9_method_12_code, 3, (some .int), [])
def zY_Model_fill : z_Y9 := (⟨"ThingStreamModel", "fill", "(II)V"⟩, prog_9_method_11_code, 6, none, [])
def zY_Model_above : z_Y9 := (⟨"ThingStreamModel", "above", "(II)I"⟩, prog_9_method_8_code, 4, (some .int), [])
def zY_Model_row : z_Y9 := (⟨"ThingStreamModel", "row", "(I)I"⟩, prog_9_method_13_code, 4, (some .int), [])
def zY_Model_set : z_Y9 := (⟨"ThingStreamModel", "set", "(IIIJ)Z"⟩, prog_9_method_16_code, 7, (some .boolean), [])
def zY_Model_fieldIn : z_Y9 := (⟨"ThingStreamModel", "fieldIn", "(IIII)I"⟩, prog_9_method_15_code, 5, (some .int), [])
def zY_Model_isThing : z_Y9 := (⟨"ThingStreamModel", "isThing", "(II)Z"⟩, prog_9_method_14_code, 3, (some .boolean), [])
def zY_Model_isInChain : z_Y9 := (⟨"ThingStreamModel", "isInChain", "(III)Z"⟩, prog_9_method_9_code, 5, (some .boolean), [])
def zY_Model_cut : z_Y9 := (⟨"ThingStreamModel", "cut", "(JI)J"⟩, prog_9_method_10_code, 3, (some .long), [])
def zY_Model_link : z_Y9 := (⟨"ThingStreamModel", "link", "(III)Z"⟩, prog_9_method_17_code, 4, (some .boolean), [])
def zY_Model_clear : z_Y9 := (⟨"ThingStreamModel", "clear", "()V"⟩, prog_9_method_18_code, 1, none, [])
def zY_Model_write : z_Y9 := (⟨"ThingStreamModel", "write", "(I)I"⟩, prog_9_method_26_code, 3, (some .int), [])
def zY_Model_say : z_Y9 := (⟨"ThingStreamModel", "say", "(I)V"⟩, prog_9_method_19_code, 2, none, [])
def zY_Model_sayValue : z_Y9 := (⟨"ThingStreamModel", "sayValue", "(I)V"⟩, prog_9_method_23_code, 2, none, [])
def zY_Model_sayHandle : z_Y9 := (⟨"ThingStreamModel", "sayHandle", "(I)V"⟩, prog_9_method_20_code, 2, none, [])
def zY_Model_sayDescription : z_Y9 := (⟨"ThingStreamModel", "sayDescription", "(I)V"⟩, prog_9_method_22_code, 4, none, [])
def zY_Model_sayNumber : z_Y9 := (⟨"ThingStreamModel", "sayNumber", "(JI)V"⟩, prog_9_method_21_code, 6, none, [])
def zY_Model_sayMore : z_Y9 := (⟨"ThingStreamModel", "sayMore", "()V"⟩, prog_9_method_25_code, 8, none, [])
def zY_Model_fieldNumber : z_Y9 := (⟨"ThingStreamModel", "fieldNumber", "(II)I"⟩, prog_9_method_24_code, 6, (some .int), [])
def zY_Model_at : z_Y9 := (⟨"ThingStreamModel", "at", "(I)I"⟩, prog_9_method_27_code, 2, (some .int), [])
def zY_Model_put : z_Y9 := (⟨"ThingStreamModel", "put", "(II)Z"⟩, prog_9_method_28_code, 3, (some .boolean), [])
def zY_Model_cut2 : z_Y9 := (⟨"ThingStreamModel", "cut", "(I)Z"⟩, prog_9_method_29_code, 2, (some .boolean), [])
def zY_Model_limit : z_Y9 := (⟨"ThingStreamModel", "limit", "(II)Z"⟩, prog_9_method_30_code, 4, (some .boolean), [])
def zY_Model_read : z_Y9 := (⟨"ThingStreamModel", "read", "()I"⟩, prog_9_method_49_code, 2, (some .int), [])
def zY_Model_readAll : z_Y9 := (⟨"ThingStreamModel", "readAll", "()Z"⟩, prog_9_method_47_code, 6, (some .boolean), [])
def zY_Model_fail : z_Y9 := (⟨"ThingStreamModel", "fail", "(II)Z"⟩, prog_9_method_31_code, 3, (some .boolean), [])
def zY_Model_has : z_Y9 := (⟨"ThingStreamModel", "has", "(I)Z"⟩, prog_9_method_32_code, 2, (some .boolean), [])
def zY_Model_take : z_Y9 := (⟨"ThingStreamModel", "take", "()I"⟩, prog_9_method_33_code, 1, (some .int), [])
def zY_Model_begin : z_Y9 := (⟨"ThingStreamModel", "begin", "()I"⟩, prog_9_method_40_code, 4, (some .int), [])
def zY_Model_takeHandle : z_Y9 := (⟨"ThingStreamModel", "takeHandle", "(Z)I"⟩, prog_9_method_35_code, 4, (some .int), [])
def zY_Model_beginRecord : z_Y9 := (⟨"ThingStreamModel", "beginRecord", "()Z"⟩, prog_9_method_41_code, 3, (some .boolean), [])
def zY_Model_description : z_Y9 := (⟨"ThingStreamModel", "description", "()I"⟩, prog_9_method_39_code, 10, (some .int), [])
def zY_Model_describe : z_Y9 := (⟨"ThingStreamModel", "describe", "(II)Z"⟩, prog_9_method_36_code, 4, (some .boolean), [])
def zY_Model_takeNumber : z_Y9 := (⟨"ThingStreamModel", "takeNumber", "(I)J"⟩, prog_9_method_34_code, 6, (some .long), [])
def zY_Model_describeField : z_Y9 := (⟨"ThingStreamModel", "describeField", "(II)Z"⟩, prog_9_method_37_code, 5, (some .boolean), [])
def zY_Model_agrees : z_Y9 := (⟨"ThingStreamModel", "agrees", "(I)Z"⟩, prog_9_method_38_code, 6, (some .boolean), [])
def zY_Model_beginRow : z_Y9 := (⟨"ThingStreamModel", "beginRow", "()Z"⟩, prog_9_method_42_code, 2, (some .boolean), [])
def zY_Model_store : z_Y9 := (⟨"ThingStreamModel", "store", "(I)V"⟩, prog_9_method_46_code, 4, none, [])
def zY_Model_readField : z_Y9 := (⟨"ThingStreamModel", "readField", "(II)I"⟩, prog_9_method_43_code, 6, (some .int), [])
def zY_Model_keep : z_Y9 := (⟨"ThingStreamModel", "keep", "(IIJ)V"⟩, prog_9_method_44_code, 6, none, [])
def zY_Model_goOn : z_Y9 := (⟨"ThingStreamModel", "goOn", "()I"⟩, prog_9_method_45_code, 4, (some .int), [])
def zY_Model_becomeThings : z_Y9 := (⟨"ThingStreamModel", "becomeThings", "()V"⟩, prog_9_method_48_code, 7, none, [])
def zY_Model_position : z_Y9 := (⟨"ThingStreamModel", "position", "()I"⟩, prog_9_method_50_code, 1, (some .int), [])
def zY_Model_things : z_Y9 := (⟨"ThingStreamModel", "things", "(I)I"⟩, prog_9_method_51_code, 2, (some .int), [])
def zY_Model_thing : z_Y9 := (⟨"ThingStreamModel", "thing", "(III)I"⟩, prog_9_method_52_code, 4, (some .int), [])
def zY_Model_get : z_Y9 := (⟨"ThingStreamModel", "get", "(IIII)J"⟩, prog_9_method_53_code, 5, (some .long), [])
def zY_Model_goes : z_Y9 := (⟨"ThingStreamModel", "goes", "(III)I"⟩, prog_9_method_54_code, 4, (some .int), [])
end
section
/-! A small machine over worlds: values whose references are numbers of cells; a frame is pc, named locals, stack; a heap is a number of cells and a function. zEx: from this frame the body comes to an end with Q. zCl: the method, called so, comes to an end with Q. An end is an answer or a thrown exception's kind. -/
def z_v (al : Nat → Nat) (v : Value) : Value := match v with
  | .ref i => .ref (al i)
  | u => u
def z_ok (n : Nat) (v : Value) : Prop := match v with
  | .ref i => i < n
  | _ => True
def z_E (kA : Nat → Nat) (al : Nat → Nat) (c : va_E) : va_E := match c with
  | .inl q => .inl (kA q.1, q.2)
  | .inr o => .inr (o.1, o.2.map (z_v al))
def z_okE (n : Nat) (c : va_E) : Prop := match c with
  | .inl _ => True
  | .inr o => ∀ v ∈ o.2, z_ok n v
/-- cells, what they hold, how many cells and slots may still be made -/
abbrev z_M : Type := Nat × (Nat → va_E) × Nat × Nat
/-- an answer, or the kind of what was thrown -/
abbrev z_O : Type := Option Value ⊕ Nat
/-- the launch, the law's own first state, classes and slots, classes of arrays -/
abbrev z_W : Type := Launch × State × va_G × (Nat → Nat)
abbrev z_Y : Type := MethodName × ByteArray × Nat × Option FieldType × List (Nat × Nat × Nat × Nat)
/-- the word that says a method's code -/
def z_cw (Y : z_Y) : Cond := if Y.2.2.2.2 = [] then .code Y.1 Y.2.1 Y.2.2.1 Y.2.2.2.1 else .codeWith Y.1 Y.2.1 Y.2.2.1 Y.2.2.2.1 Y.2.2.2.2
def z_ws (kA : Nat → Nat) (al : Nat → Nat) (M : z_M) : va_W := (List.range (M.1 - 2)).map fun j => (al (j + 2), z_E kA al (M.2.1 (j + 2)))
def z_A (w : z_W) : Nat → Prop := fun q => w.2.1.heap.size ≤ q
def z_tys (w : z_W) : List (ClassId × FieldType) := [(w.2.2.2 0, .int), (w.2.2.2 1, .long), (w.2.2.2 2, .boolean)]
/-- a word of the tables holds wherever the run can be -/
def z_has (w : z_W) (c : Cond) : Prop := ∀ (A : Array Value) (U : State), w.2.1.WarmedH U.vm → c.before A U = true
def z_Rel (w : z_W) (al : Nat → Nat) (M : z_M) (H : Heap) : Prop :=
  va_P w.2.2.1 vwCl (z_ws w.2.2.2 al M) H ∧ va_D (z_A w) (z_ws w.2.2.2 al M) ∧ (∀ i, 2 ≤ i → i < M.1 → z_okE M.1 (M.2.1 i)) ∧
  (∀ i, i < 2 → ∃ (L : Nat) (f : Nat → Int32), M.2.1 i = .inl (0, L, .inl f) ∧ va_X (al i) L f w.2.1 w.2.1.heap ∧ al i < w.2.1.heap.size ∧ al i = w.2.2.2 (10 + i)) ∧ 2 ≤ M.1
def z_In (w : z_W) (Y : z_Y) (d : Nat) (p : Program) (R : Room) (s : State) (m : MethodId) (meth : Method) (c : Code) : Prop :=
  p.tables.exec = Jvm.exec ∧ c.code = Y.2.1 ∧ c.maxLocals = Y.2.2.1 ∧ meth.sig.returnType = Y.2.2.2.1 ∧ meth.locks = false ∧ s.vm.findClass Y.1.cls = some m.cls ∧ meth.name = Y.1.name ∧
  c.exceptionTable.toList = tableOf Y.2.2.2.2 ∧ w.2.1.WarmedH s.vm ∧ d ≤ R.frames ∧ 64 * d ≤ R.locals
def z_Pt (w : z_W) (R : Room) (ae : Nat → Nat) (ne : Nat) (al : Nat → Nat) (M : z_M) (H : Heap) (locs : List Loc) (cells slots : Nat) : Prop :=
  va_S (z_A w) w.2.1.heap H locs ∧ (∀ i, i < ne → al i = ae i) ∧ ne ≤ M.1 ∧ cells + M.2.2.1 ≤ R.cells ∧ slots + M.2.2.2 ≤ R.slots
def z_Lv (al : Nat → Nat) (n nL : Nat) (ls : Array Slot) (lv : List (Nat × Value)) : Prop :=
  lv_has ls nL (lv.map fun q => (q.1, z_v al q.2)) ∧ ∀ q ∈ lv, z_ok n q.2
def z_exc (k : Nat) : String := if k = 1 then "java/lang/IllegalArgumentException" else if k = 2 then "java/lang/IllegalStateException" else "java/lang/UnsupportedOperationException"
def z_Out (w : z_W) (al : Nat → Nat) (n : Nat) (out : z_O) (o : Outcome) (t : State) : Prop := match out with
  | .inl v => o = .returned (v.map (z_v al)) ∧ ∀ u, v = some u → z_ok n u
  | .inr k => ∃ (q : Addr) (ce : Cell), o = .threw q ∧ t.heap[q]? = some ce ∧ ce.vm = .none ∧ w.2.1.vm.findClass (z_exc k) = some ce.cls
def z_Post (w : z_W) (s : State) (R : Room) (ae : Nat → Nat) (ne : Nat) (Q : z_O → z_M → Prop) (o : Outcome) (t : State) : Prop :=
  ∃ (out : z_O) (M : z_M) (al : Nat → Nat) (L : List Loc) (k n : Nat), Q out M ∧ z_Out w al M.1 out o t ∧ z_Rel w al M t.heap ∧ z_Pt w R ae ne al M t.heap L k n ∧
    s.WarmedH t.vm ∧ s.sameButNew ({ t with vm := s.vm } : State) L k n
def z_End (w : z_W) (below : List Frame) (s : State) (R : Room) (ae : Nat → Nat) (ne : Nat) (Q : z_O → z_M → Prop) : State → Prop := fun t =>
  ∃ o, t.status = .running ∧ Ended t below o ∧ z_Post w s R ae ne Q o t
def z_Ex (w : z_W) (Y : z_Y) (d : Nat) (Q : z_O → z_M → Prop) (pc : Nat) (lv : List (Nat × Value)) (st : List Value) (M : z_M) : Prop :=
  ∀ (p : Program) (e : Env) (R : Room) (s : State) (m : MethodId) (args : Array Value) (below : List Frame) (meth : Method) (c : Code) (H : Heap) (locs : List Loc) (cells slots : Nat) (al ae : Nat → Nat) (ne : Nat) (ls : Array Slot),
    z_In w Y d p R s m meth c → z_Rel w al M H → z_Pt w R ae ne al M H locs cells slots → z_Lv al M.1 Y.2.2.1 ls lv → (∀ v ∈ st, z_ok M.1 v) →
    W p w.1 e R s m args below meth c H locs cells slots (z_End w below s R ae ne Q) (F0 m pc ls (st.map (z_v al)))
def z_room (d : Nat) (M : z_M) : Room := { frames := d, cells := M.2.2.1, slots := M.2.2.2, locals := 64 * d }
def z_Pre (w : z_W) (al : Nat → Nat) (as : List Value) (M : z_M) : Array Value → State → Prop := fun a U =>
  a = (as.map (z_v al)).toArray ∧ w.2.1.WarmedH U.vm ∧ z_Rel w al M U.heap ∧ va_S (z_A w) w.2.1.heap U.heap [] ∧ ∀ v ∈ as, z_ok M.1 v
def z_Cl (w : z_W) (Y : z_Y) (d : Nat) (as : List Value) (M : z_M) (Q : z_O → z_M → Prop) : Prop :=
  ∀ al, MetFree w.1 Y.1 (headSpec [z_cw Y] (z_room d M)) (z_Pre w al as M) (fun _ _ _ _ _ => True) (fun _ st o t => z_Post w st (z_room d M) al M.1 Q o t)
-- ---------- small facts
theorem z_v_int {al : Nat → Nat} {x : Int32} : z_v al (.int x) = .int x := rfl
theorem z_v_cat {al : Nat → Nat} (v : Value) : (z_v al v).category = v.category := by cases v <;> rfl
theorem z_v_ext {al be : Nat → Nat} {n : Nat} (h : ∀ i, i < n → be i = al i) {v : Value} (hv : z_ok n v) : z_v be v = z_v al v := by
  cases v with
  | ref i => exact congrArg Value.ref (h i hv)
  | _ => rfl
theorem z_ok_mono {n k : Nat} (h : n ≤ k) {v : Value} (hv : z_ok n v) : z_ok k v := by
  cases v with
  | ref i => exact Nat.lt_of_lt_of_le hv h
  | _ => trivial
theorem z_okE_mono {n k : Nat} (h : n ≤ k) {c : va_E} (hc : z_okE n c) : z_okE k c := by
  cases c with
  | inl q => trivial
  | inr o => exact fun v hv => z_ok_mono h (hc v hv)
theorem z_E_ext {kA al be : Nat → Nat} {n : Nat} (h : ∀ i, i < n → be i = al i) {c : va_E} (hc : z_okE n c) : z_E kA be c = z_E kA al c := by
  cases c with
  | inl q => rfl
  | inr o =>
    show (Sum.inr (o.1, o.2.map (z_v be)) : va_E) = .inr (o.1, o.2.map (z_v al))
    rw [List.map_congr_left (fun v hv => z_v_ext h (hc v hv))]
theorem z_st_ext {al be : Nat → Nat} {n : Nat} (h : ∀ i, i < n → be i = al i) {st : List Value} (hv : ∀ v ∈ st, z_ok n v) : st.map (z_v be) = st.map (z_v al) :=
  List.map_congr_left (fun v h9 => z_v_ext h (hv v h9))
theorem z_Lv_ext {al be : Nat → Nat} {n k nL : Nat} (hk : n ≤ k) (h : ∀ i, i < n → be i = al i) {ls : Array Slot} {lv : List (Nat × Value)} (hl : z_Lv al n nL ls lv) : z_Lv be k nL ls lv := by
  refine ⟨?_, fun q hq => z_ok_mono hk (hl.2 q hq)⟩
  have e : (lv.map fun q => (q.1, z_v be q.2)) = lv.map fun q => (q.1, z_v al q.2) := List.map_congr_left (fun q hq => by rw [z_v_ext h (hl.2 q hq)])
  rw [e]
  exact hl.1
theorem z_ws_get {kA al : Nat → Nat} {M : z_M} {i : Nat} (h2 : 2 ≤ i) (hi : i < M.1) : (z_ws kA al M)[i - 2]? = some (al i, z_E kA al (M.2.1 i)) := by
  unfold z_ws
  rw [List.getElem?_map, List.getElem?_range (by omega)]
  show some (al (i - 2 + 2), z_E kA al (M.2.1 (i - 2 + 2))) = _
  rw [Nat.sub_add_cancel h2]
theorem z_ws_set {kA al : Nat → Nat} {M : z_M} {i : Nat} (h2 : 2 ≤ i) (hi : i < M.1) (c : va_E) (a b : Nat) : (z_ws kA al M).set (i - 2) (al i, z_E kA al c) = z_ws kA al (M.1, va_up M.2.1 i c, a, b) := by
  apply List.ext_getElem?
  intro k
  unfold z_ws
  by_cases hk : k = i - 2
  · subst hk
    rw [List.getElem?_set_self (by simp; omega), List.getElem?_map, List.getElem?_range (by omega)]
    show _ = some (al (i - 2 + 2), z_E kA al (va_up M.2.1 i c (i - 2 + 2)))
    rw [Nat.sub_add_cancel h2]
    simp [va_up]
  · rw [List.getElem?_set_ne (Ne.symm hk), List.getElem?_map, List.getElem?_map]
    cases hq : (List.range (M.1 - 2))[k]? with
    | none => rfl
    | some j =>
      have hj : j = k := by
        have h9 := List.getElem?_eq_some_iff.mp hq
        obtain ⟨h8, h7⟩ := h9
        rw [List.getElem_range] at h7
        exact h7.symm
      subst hj
      have hne : ¬ j + 2 = i := by omega
      simp [va_up, hne]
theorem z_ws_push {kA al : Nat → Nat} {M : z_M} (h2 : 2 ≤ M.1) (hok : ∀ i, 2 ≤ i → i < M.1 → z_okE M.1 (M.2.1 i)) (q : Nat) (c : va_E) (hc : z_okE M.1 c) (a b : Nat) :
    z_ws kA al M ++ [(q, z_E kA al c)] = z_ws kA (va_up al M.1 q) (M.1 + 1, va_up M.2.1 M.1 c, a, b) := by
  have hext : ∀ i, i < M.1 → va_up al M.1 q i = al i := fun i hi => by
    have hne : ¬ i = M.1 := by omega
    simp [va_up, hne]
  unfold z_ws
  show _ = (List.range (M.1 + 1 - 2)).map _
  rw [show M.1 + 1 - 2 = (M.1 - 2) + 1 by omega, List.range_succ, List.map_append]
  congr 1
  · apply List.map_congr_left
    intro j hj
    have hj2 := List.mem_range.mp hj
    have hlt : j + 2 < M.1 := by omega
    have hne : ¬ j + 2 = M.1 := by omega
    show _ = (va_up al M.1 q (j + 2), z_E kA (va_up al M.1 q) (va_up M.2.1 M.1 c (j + 2)))
    have e1 : va_up M.2.1 M.1 c (j + 2) = M.2.1 (j + 2) := by simp [va_up, hne]
    rw [e1, hext _ hlt, z_E_ext hext (hok _ (by omega) hlt)]
  · show [(q, z_E kA al c)] = [(va_up al M.1 q (M.1 - 2 + 2), z_E kA (va_up al M.1 q) (va_up M.2.1 M.1 c (M.1 - 2 + 2)))]
    rw [Nat.sub_add_cancel h2]
    have e1 : va_up M.2.1 M.1 c M.1 = c := by simp [va_up]
    have e2 : va_up al M.1 q M.1 = q := by simp [va_up]
    rw [e1, e2, z_E_ext hext hc]
theorem z_up_old {al : Nat → Nat} {n q : Nat} : ∀ i, i < n → va_up al n q i = al i := fun i hi => by
  have e : ¬ i = n := by omega
  simp [va_up, e]
theorem z_Rel.set {w : z_W} {al : Nat → Nat} {M : z_M} {H H1 : Heap} {i : Nat} {c : va_E} (h : z_Rel w al M H) (h2 : 2 ≤ i) (hi : i < M.1) (hc : z_okE M.1 c)
    (hP : va_P w.2.2.1 vwCl ((z_ws w.2.2.2 al M).set (i - 2) (al i, z_E w.2.2.2 al c)) H1) (hD : va_D (z_A w) ((z_ws w.2.2.2 al M).set (i - 2) (al i, z_E w.2.2.2 al c))) : z_Rel w al (M.1, va_up M.2.1 i c, M.2.2) H1 := by
  rw [z_ws_set h2 hi c M.2.2.1 M.2.2.2] at hP hD
  refine ⟨hP, hD, fun j h3 h4 => ?_, fun j hj => ?_, h.2.2.2.2⟩
  · show z_okE M.1 (va_up M.2.1 i c j)
    by_cases e : j = i
    · subst e; simpa [va_up] using hc
    · simpa [va_up, e] using h.2.2.1 j h3 h4
  · obtain ⟨L, f, e1, e2, e3⟩ := h.2.2.2.1 j hj
    have e : ¬ j = i := by omega
    exact ⟨L, f, by simpa [va_up, e] using e1, e2, e3⟩
theorem z_Rel.push {w : z_W} {al : Nat → Nat} {M : z_M} {H H1 : Heap} {q : Nat} {c : va_E} {a b : Nat} (h : z_Rel w al M H) (hc : z_okE M.1 c)
    (hP : va_P w.2.2.1 vwCl (z_ws w.2.2.2 al M ++ [(q, z_E w.2.2.2 al c)]) H1) (hD : va_D (z_A w) (z_ws w.2.2.2 al M ++ [(q, z_E w.2.2.2 al c)])) : z_Rel w (va_up al M.1 q) (M.1 + 1, va_up M.2.1 M.1 c, a, b) H1 := by
  rw [z_ws_push h.2.2.2.2 h.2.2.1 q c hc a b] at hP hD
  have h2 := h.2.2.2.2
  refine ⟨hP, hD, fun j h3 h4 => ?_, fun j hj => ?_, Nat.le_succ_of_le h2⟩
  · show z_okE (M.1 + 1) (va_up M.2.1 M.1 c j)
    by_cases e : j = M.1
    · subst e; simpa [va_up] using z_okE_mono (Nat.le_succ _) hc
    · have h5 : j < M.1 := by have : j < M.1 + 1 := h4; omega
      simpa [va_up, e] using z_okE_mono (Nat.le_succ _) (h.2.2.1 j h3 h5)
  · obtain ⟨L, f, e1, e2, e3⟩ := h.2.2.2.1 j hj
    have e : ¬ j = M.1 := by omega
    have e9 : va_up al M.1 q j = al j := z_up_old j (by omega)
    refine ⟨L, f, by simpa [va_up, e] using e1, ?_⟩
    rw [e9]
    exact ⟨e2, e3⟩
theorem W.mono9 {p : Program} {l : Launch} {e : Env} {R : Room} {s : State} {m : MethodId} {args : Array Value} {below : List Frame} {meth : Method} {c : Code} {H : Heap} {locs : List Loc} {cells slots : Nat} {Q Q' : State → Prop} {g : JFrame}
    (h : ∀ t, Q t → Q' t) (k : W p l e R s m args below meth c H locs cells slots Q g) : W p l e R s m args below meth c H locs cells slots Q' g := fun T hT X => by
  obtain ⟨t, a, b⟩ := k T hT X
  exact ⟨t, a, h t b⟩
/-- a word that stays where the tables only get warmer -/
def z_gw (c : Cond) : Bool := match c with
  | .fieldLinkNest .. => true
  | .methodLinkNest .. => true
  | c => goodWord c
theorem z_gw_at {c : Cond} {s U : State} {A A' : Array Value} (hW : s.WarmedH U.vm) (hg : z_gw c = true) (h : c.before A s = true) : c.before A' U = true := by
  by_cases h1 : goodWord c = true
  · exact word_at hW (good_of_word h1) h
  · cases c <;> first
      | exact absurd hg h1
      | exact va_Nw.use rfl (va_Nw.warmF hW (va_Nw.of rfl h))
      | exact va_Nw.use rfl (va_Nw.warmM hW (va_Nw.of rfl h))
theorem z_has_of {w : z_W} {c : Cond} {A : Array Value} (hg : z_gw c = true) (h : c.before A w.2.1 = true) : z_has w c := fun _ _ hW => z_gw_at hW hg h
theorem z_K {w : z_W} {s : State} (h : va_K w.2.2.1 vwCl (z_tys w) w.2.1) (hW : w.2.1.WarmedH s.vm) : va_K w.2.2.1 vwCl (z_tys w) s := va_K.moved hW.alike h
theorem z_cw_spec {Y : z_Y} {s : State} {m : MethodId} {a : Array Value} (hn : s.methodNamed? Y.1 = some m) (h : (z_cw Y).before a s = true) : ∃ meth c, s.vm.method? m = some meth ∧ meth.code = some c ∧ c.code = Y.2.1 ∧ c.maxLocals = Y.2.2.1 ∧ meth.sig.returnType = Y.2.2.2.1 ∧ meth.locks = false ∧
    c.exceptionTable.toList = tableOf Y.2.2.2.2 ∧ parseMethodDescriptor Y.1.desc = some meth.sig := by
  unfold z_cw at h
  split at h
  next h0 =>
    obtain ⟨meth, c, h1, h2, h3, h4, h5, h6, h7, h8⟩ := Cond.code_spec hn h
    refine ⟨meth, c, h1, h2, h3, h4, h5, h6, ?_, h8⟩
    rw [Array.isEmpty_iff.mp h7, h0]
    rfl
  next h0 =>
    obtain ⟨m9, meth, c, hn9, h1, h2, h3, h4, h7, h5, h6, h8⟩ := Cond.codeWith_spec h
    cases Option.some.inj (hn9.symm.trans hn)
    exact ⟨meth, c, h1, h2, h3, h4, h5, h6, by rw [← h7, table_eq], h8⟩
end
section
section ZR
variable {w : z_W} {Y : z_Y} {d : Nat} {Q : z_O → z_M → Prop} {pc : Nat} {lv lv' : List (Nat × Value)} {st : List Value} {M : z_M}
def z_lk (lv : List (Nat × Value)) (i : Nat) : Option Value := (lv.find? (fun q => q.1 == i)).map Prod.snd
def z_s1 (lv : List (Nat × Value)) (i : Nat) (v : Value) : List (Nat × Value) := (i, v) :: lv.filter (fun q => !(q.1 == i) && !(q.1 + 1 == i && q.2.category == 2))
def z_s2 (lv : List (Nat × Value)) (i : Nat) (v : Value) : List (Nat × Value) := (i, v) :: lv.filter (fun q => !(q.1 == i) && (!(q.1 == i + 1) && !(q.1 + 1 == i && q.2.category == 2)))
theorem z_lk_mem {i : Nat} {v : Value} (h : z_lk lv i = some v) : (i, v) ∈ lv := by
  unfold z_lk at h
  cases hf : lv.find? (fun q => q.1 == i) with
  | none => rw [hf] at h; cases h
  | some q =>
    rw [hf] at h
    have h1 : q.2 = v := Option.some.inj h
    have h2 := List.find?_some hf
    have h3 : q.1 = i := by simpa using h2
    have h4 := List.mem_of_find?_eq_some hf
    rw [← h1, ← h3]
    exact h4
theorem z_lk_at {i : Nat} {v : Value} {al : Nat → Nat} {n nL : Nat} {ls : Array Slot} (h : z_lk lv i = some v) (hl : z_Lv al n nL ls lv) : ls[i]? = some (.val (z_v al v)) :=
  hl.1.2.2 (i, z_v al v) (List.mem_map.mpr ⟨(i, v), z_lk_mem h, rfl⟩)
theorem z_lk_ok {i : Nat} {v : Value} {n : Nat} (h : z_lk lv i = some v) (hl : ∀ q ∈ lv, z_ok n q.2) : z_ok n v := hl _ (z_lk_mem h)
theorem z_s1_map {al : Nat → Nat} {i : Nat} {v : Value} : (i, z_v al v) :: (lv.map fun q => (q.1, z_v al q.2)).filter (fun q => !(q.1 == i) && !(q.1 + 1 == i && q.2.category == 2)) = (z_s1 lv i v).map fun q => (q.1, z_v al q.2) := by
  unfold z_s1
  rw [List.map_cons, List.filter_map]
  congr 2
  apply List.filter_congr
  intro q _
  simp [z_v_cat]
theorem z_s2_map {al : Nat → Nat} {i : Nat} {v : Value} : (i, z_v al v) :: (lv.map fun q => (q.1, z_v al q.2)).filter (fun q => !(q.1 == i) && (!(q.1 == i + 1) && !(q.1 + 1 == i && q.2.category == 2))) = (z_s2 lv i v).map fun q => (q.1, z_v al q.2) := by
  unfold z_s2
  rw [List.map_cons, List.filter_map]
  congr 2
  apply List.filter_congr
  intro q _
  simp [z_v_cat]
theorem z_s1_ok {n i : Nat} {v : Value} (hv : z_ok n v) (hl : ∀ q ∈ lv, z_ok n q.2) : ∀ q ∈ z_s1 lv i v, z_ok n q.2 := fun q hq => by
  rcases List.mem_cons.mp hq with rfl | h
  · exact hv
  · exact hl q (List.mem_filter.mp h).1
theorem z_s2_ok {n i : Nat} {v : Value} (hv : z_ok n v) (hl : ∀ q ∈ lv, z_ok n q.2) : ∀ q ∈ z_s2 lv i v, z_ok n q.2 := fun q hq => by
  rcases List.mem_cons.mp hq with rfl | h
  · exact hv
  · exact hl q (List.mem_filter.mp h).1
theorem z_oc {n : Nat} {v : Value} (hv : z_ok n v) (h : ∀ u ∈ st, z_ok n u) : ∀ u ∈ v :: st, z_ok n u := fun u hu => by
  rcases List.mem_cons.mp hu with rfl | h9
  · exact hv
  · exact h u h9
theorem z_ot {n : Nat} {v : Value} (h : ∀ u ∈ v :: st, z_ok n u) : ∀ u ∈ st, z_ok n u := fun u hu => h u (List.mem_cons_of_mem _ hu)
theorem z_oh {n : Nat} {v : Value} (h : ∀ u ∈ v :: st, z_ok n u) : z_ok n v := h v List.mem_cons_self
theorem z_go0 {st' : List Value} {pc' : Nat} (hok : (∀ v ∈ st, z_ok M.1 v) → (∀ q ∈ lv, z_ok M.1 q.2) → ∀ v ∈ st', z_ok M.1 v)
    (h : ∀ {p : Program} {l : Launch} {e : Env} {R : Room} {s : State} {m : MethodId} {args : Array Value} {below : List Frame} {meth : Method} {c : Code} {H : Heap} {locs : List Loc} {cells slots : Nat} {Q' : State → Prop} {al : Nat → Nat} {ls : Array Slot},
      p.tables.exec = Jvm.exec → c.code = Y.2.1 → s.vm.findClass Y.1.cls = some m.cls → w.2.1.WarmedH s.vm → z_Lv al M.1 Y.2.2.1 ls lv →
      W p l e R s m args below meth c H locs cells slots Q' (F0 m pc' ls (st'.map (z_v al))) → W p l e R s m args below meth c H locs cells slots Q' (F0 m pc ls (st.map (z_v al))))
    (k : z_Ex w Y d Q pc' lv st' M) : z_Ex w Y d Q pc lv st M := by
  intro p e R s m args below meth c H locs cells slots al ae ne ls C hR hT hl ho
  exact h C.1 C.2.1 C.2.2.2.2.2.1 C.2.2.2.2.2.2.2.2.1 hl (k p e R s m args below meth c H locs cells slots al ae ne ls C hR hT hl (hok ho hl.2))
theorem z_go1 {st' : List Value} {pc' : Nat} (hok : (∀ v ∈ st, z_ok M.1 v) → (∀ q ∈ lv, z_ok M.1 q.2) → (∀ v ∈ st', z_ok M.1 v) ∧ ∀ q ∈ lv', z_ok M.1 q.2)
    (h : ∀ {p : Program} {l : Launch} {e : Env} {R : Room} {s : State} {m : MethodId} {args : Array Value} {below : List Frame} {meth : Method} {c : Code} {H : Heap} {locs : List Loc} {cells slots : Nat} {Q' : State → Prop} {al : Nat → Nat} {ls : Array Slot},
      p.tables.exec = Jvm.exec → c.code = Y.2.1 → z_Lv al M.1 Y.2.2.1 ls lv →
      (∀ ls' : Array Slot, lv_has ls' Y.2.2.1 (lv'.map fun q => (q.1, z_v al q.2)) → W p l e R s m args below meth c H locs cells slots Q' (F0 m pc' ls' (st'.map (z_v al)))) → W p l e R s m args below meth c H locs cells slots Q' (F0 m pc ls (st.map (z_v al))))
    (k : z_Ex w Y d Q pc' lv' st' M) : z_Ex w Y d Q pc lv st M := by
  intro p e R s m args below meth c H locs cells slots al ae ne ls C hR hT hl ho
  have h9 := hok ho hl.2
  exact h C.1 C.2.1 hl (fun ls' hl' => k p e R s m args below meth c H locs cells slots al ae ne ls' C hR hT ⟨hl', h9.2⟩ h9.1)
theorem z_go2 {st' : List Value} {pc1 pc2 : Nat} {P1 P2 : Prop} (hok : (∀ v ∈ st, z_ok M.1 v) → ∀ v ∈ st', z_ok M.1 v)
    (h : ∀ {p : Program} {l : Launch} {e : Env} {R : Room} {s : State} {m : MethodId} {args : Array Value} {below : List Frame} {meth : Method} {c : Code} {H : Heap} {locs : List Loc} {cells slots : Nat} {Q' : State → Prop} {al : Nat → Nat} {ls : Array Slot},
      p.tables.exec = Jvm.exec → c.code = Y.2.1 → (P1 → W p l e R s m args below meth c H locs cells slots Q' (F0 m pc1 ls (st'.map (z_v al)))) → (P2 → W p l e R s m args below meth c H locs cells slots Q' (F0 m pc2 ls (st'.map (z_v al)))) →
      W p l e R s m args below meth c H locs cells slots Q' (F0 m pc ls (st.map (z_v al))))
    (k1 : P1 → z_Ex w Y d Q pc1 lv st' M) (k2 : P2 → z_Ex w Y d Q pc2 lv st' M) : z_Ex w Y d Q pc lv st M := by
  intro p e R s m args below meth c H locs cells slots al ae ne ls C hR hT hl ho
  exact h C.1 C.2.1 (fun h1 => k1 h1 p e R s m args below meth c H locs cells slots al ae ne ls C hR hT hl (hok ho)) (fun h1 => k2 h1 p e R s m args below meth c H locs cells slots al ae ne ls C hR hT hl (hok ho))

theorem z_iconst {n : Int} {v : Int32} (dg : decode Y.2.1 pc = .ok (.iconst n, 1)) (hv : Int32.ofInt n = v) (k : z_Ex w Y d Q (pc + 1) lv (.int v :: st) M) : z_Ex w Y d Q pc lv (st) M :=
  z_go0 (fun ho hq => by exact z_oc trivial ho) (fun hx hb hown hW hl k => by exact lv_iconst hx hb dg hv k) k
theorem z_bipush {n : Int} {v : Int32} (dg : decode Y.2.1 pc = .ok (.bipush n, 2)) (hv : (Int8.ofInt n).toInt32 = v) (k : z_Ex w Y d Q (pc + 2) lv (.int v :: st) M) : z_Ex w Y d Q pc lv (st) M :=
  z_go0 (fun ho hq => by exact z_oc trivial ho) (fun hx hb hown hW hl k => by exact lv_bipush hx hb dg hv k) k
theorem z_sipush {n : Int} {v : Int32} (dg : decode Y.2.1 pc = .ok (.sipush n, 3)) (hv : (Int16.ofInt n).toInt32 = v) (k : z_Ex w Y d Q (pc + 3) lv (.int v :: st) M) : z_Ex w Y d Q pc lv (st) M :=
  z_go0 (fun ho hq => by exact z_oc trivial ho) (fun hx hb hown hW hl k => by exact lv_sipush hx hb dg hv k) k
theorem z_lconst {n : Fin 2} {v : Int64} (dg : decode Y.2.1 pc = .ok (.lconst n, 1)) (hv : Int64.ofNat (n : Nat) = v) (k : z_Ex w Y d Q (pc + 1) lv (.long v :: st) M) : z_Ex w Y d Q pc lv (st) M :=
  z_go0 (fun ho hq => by exact z_oc trivial ho) (fun hx hb hown hW hl k => by exact lv_lconst hx hb dg hv k) k
theorem z_null  (dg : decode Y.2.1 pc = .ok (.aconst_null, 1))  (k : z_Ex w Y d Q (pc + 1) lv (.null :: st) M) : z_Ex w Y d Q pc lv (st) M :=
  z_go0 (fun ho hq => by exact z_oc trivial ho) (fun hx hb hown hW hl k => by exact lv_null hx hb dg k) k
theorem z_iload_n {k9 : Fin 4} {i : Nat} {x : Int32} (dg : decode Y.2.1 pc = .ok (.iload_n k9, 1)) (hi : (k9 : Nat) = i) (hv : z_lk lv i = some (.int x)) (k : z_Ex w Y d Q (pc + 1) lv (.int x :: st) M) : z_Ex w Y d Q pc lv (st) M :=
  z_go0 (fun ho hq => by exact z_oc trivial ho) (fun hx hb hown hW hl k => by exact lv_iload_n hx hb dg hi (z_lk_at hv hl) k) k
theorem z_iload {i : Nat} {x : Int32} (dg : decode Y.2.1 pc = .ok (.iload i, 2)) (hv : z_lk lv i = some (.int x)) (k : z_Ex w Y d Q (pc + 2) lv (.int x :: st) M) : z_Ex w Y d Q pc lv (st) M :=
  z_go0 (fun ho hq => by exact z_oc trivial ho) (fun hx hb hown hW hl k => by exact lv_iload hx hb dg (z_lk_at hv hl) k) k
theorem z_lload_n {k9 : Fin 4} {i : Nat} {x : Int64} (dg : decode Y.2.1 pc = .ok (.lload_n k9, 1)) (hi : (k9 : Nat) = i) (hv : z_lk lv i = some (.long x)) (k : z_Ex w Y d Q (pc + 1) lv (.long x :: st) M) : z_Ex w Y d Q pc lv (st) M :=
  z_go0 (fun ho hq => by exact z_oc trivial ho) (fun hx hb hown hW hl k => by exact lv_lload_n hx hb dg hi (z_lk_at hv hl) k) k
theorem z_lload {i : Nat} {x : Int64} (dg : decode Y.2.1 pc = .ok (.lload i, 2)) (hv : z_lk lv i = some (.long x)) (k : z_Ex w Y d Q (pc + 2) lv (.long x :: st) M) : z_Ex w Y d Q pc lv (st) M :=
  z_go0 (fun ho hq => by exact z_oc trivial ho) (fun hx hb hown hW hl k => by exact lv_lload hx hb dg (z_lk_at hv hl) k) k
theorem z_aload_n {k9 : Fin 4} {i : Nat} {x : Nat} (dg : decode Y.2.1 pc = .ok (.aload_n k9, 1)) (hi : (k9 : Nat) = i) (hv : z_lk lv i = some (.ref x)) (k : z_Ex w Y d Q (pc + 1) lv (.ref x :: st) M) : z_Ex w Y d Q pc lv (st) M :=
  z_go0 (fun ho hq => by exact z_oc (z_lk_ok hv hq) ho) (fun hx hb hown hW hl k => by exact lv_aload_n hx hb dg hi (z_lk_at hv hl) k) k
theorem z_aload {i : Nat} {x : Nat} (dg : decode Y.2.1 pc = .ok (.aload i, 2)) (hv : z_lk lv i = some (.ref x)) (k : z_Ex w Y d Q (pc + 2) lv (.ref x :: st) M) : z_Ex w Y d Q pc lv (st) M :=
  z_go0 (fun ho hq => by exact z_oc (z_lk_ok hv hq) ho) (fun hx hb hown hW hl k => by exact lv_aload hx hb dg (z_lk_at hv hl) k) k
theorem z_aload_nN {k9 : Fin 4} {i : Nat} (dg : decode Y.2.1 pc = .ok (.aload_n k9, 1)) (hi : (k9 : Nat) = i) (hv : z_lk lv i = some .null) (k : z_Ex w Y d Q (pc + 1) lv (.null :: st) M) : z_Ex w Y d Q pc lv (st) M :=
  z_go0 (fun ho hq => by exact z_oc trivial ho) (fun hx hb hown hW hl k => by exact lv_aload_nN hx hb dg hi (z_lk_at hv hl) k) k
theorem z_aloadN {i : Nat} (dg : decode Y.2.1 pc = .ok (.aload i, 2)) (hv : z_lk lv i = some .null) (k : z_Ex w Y d Q (pc + 2) lv (.null :: st) M) : z_Ex w Y d Q pc lv (st) M :=
  z_go0 (fun ho hq => by exact z_oc trivial ho) (fun hx hb hown hW hl k => by exact lv_aloadN hx hb dg (z_lk_at hv hl) k) k
theorem z_iadd {x y : Int32} (dg : decode Y.2.1 pc = .ok (.iadd, 1))  (k : z_Ex w Y d Q (pc + 1) lv (.int (x + y) :: st) M) : z_Ex w Y d Q pc lv (.int y :: .int x :: st) M :=
  z_go0 (fun ho hq => by exact z_oc trivial (z_ot (z_ot ho))) (fun hx hb hown hW hl k => by exact lv_iadd hx hb dg k) k
theorem z_isub {x y : Int32} (dg : decode Y.2.1 pc = .ok (.isub, 1))  (k : z_Ex w Y d Q (pc + 1) lv (.int (x - y) :: st) M) : z_Ex w Y d Q pc lv (.int y :: .int x :: st) M :=
  z_go0 (fun ho hq => by exact z_oc trivial (z_ot (z_ot ho))) (fun hx hb hown hW hl k => by exact lv_isub hx hb dg k) k
theorem z_imul {x y : Int32} (dg : decode Y.2.1 pc = .ok (.imul, 1))  (k : z_Ex w Y d Q (pc + 1) lv (.int (x * y) :: st) M) : z_Ex w Y d Q pc lv (.int y :: .int x :: st) M :=
  z_go0 (fun ho hq => by exact z_oc trivial (z_ot (z_ot ho))) (fun hx hb hown hW hl k => by exact lv_imul hx hb dg k) k
theorem z_iand {x y : Int32} (dg : decode Y.2.1 pc = .ok (.iand, 1))  (k : z_Ex w Y d Q (pc + 1) lv (.int (x &&& y) :: st) M) : z_Ex w Y d Q pc lv (.int y :: .int x :: st) M :=
  z_go0 (fun ho hq => by exact z_oc trivial (z_ot (z_ot ho))) (fun hx hb hown hW hl k => by exact lv_iand hx hb dg k) k
theorem z_ior {x y : Int32} (dg : decode Y.2.1 pc = .ok (.ior, 1))  (k : z_Ex w Y d Q (pc + 1) lv (.int (x ||| y) :: st) M) : z_Ex w Y d Q pc lv (.int y :: .int x :: st) M :=
  z_go0 (fun ho hq => by exact z_oc trivial (z_ot (z_ot ho))) (fun hx hb hown hW hl k => by exact lv_ior hx hb dg k) k
theorem z_ixor {x y : Int32} (dg : decode Y.2.1 pc = .ok (.ixor, 1))  (k : z_Ex w Y d Q (pc + 1) lv (.int (x ^^^ y) :: st) M) : z_Ex w Y d Q pc lv (.int y :: .int x :: st) M :=
  z_go0 (fun ho hq => by exact z_oc trivial (z_ot (z_ot ho))) (fun hx hb hown hW hl k => by exact lv_ixor hx hb dg k) k
theorem z_ishl {x y : Int32} (dg : decode Y.2.1 pc = .ok (.ishl, 1))  (k : z_Ex w Y d Q (pc + 1) lv (.int (x <<< (y &&& 31)) :: st) M) : z_Ex w Y d Q pc lv (.int y :: .int x :: st) M :=
  z_go0 (fun ho hq => by exact z_oc trivial (z_ot (z_ot ho))) (fun hx hb hown hW hl k => by exact lv_ishl hx hb dg k) k
theorem z_ishr {x y : Int32} (dg : decode Y.2.1 pc = .ok (.ishr, 1))  (k : z_Ex w Y d Q (pc + 1) lv (.int (x >>> (y &&& 31)) :: st) M) : z_Ex w Y d Q pc lv (.int y :: .int x :: st) M :=
  z_go0 (fun ho hq => by exact z_oc trivial (z_ot (z_ot ho))) (fun hx hb hown hW hl k => by exact lv_ishr hx hb dg k) k
theorem z_idiv {x y : Int32} (dg : decode Y.2.1 pc = .ok (.idiv, 1)) (hne : ¬ y = 0) (k : z_Ex w Y d Q (pc + 1) lv (.int (x / y) :: st) M) : z_Ex w Y d Q pc lv (.int y :: .int x :: st) M :=
  z_go0 (fun ho hq => by exact z_oc trivial (z_ot (z_ot ho))) (fun hx hb hown hW hl k => by exact lv_idiv hx hb dg hne k) k
theorem z_irem {x y : Int32} (dg : decode Y.2.1 pc = .ok (.irem, 1)) (hne : ¬ y = 0) (k : z_Ex w Y d Q (pc + 1) lv (.int (x - x / y * y) :: st) M) : z_Ex w Y d Q pc lv (.int y :: .int x :: st) M :=
  z_go0 (fun ho hq => by exact z_oc trivial (z_ot (z_ot ho))) (fun hx hb hown hW hl k => by exact lv_irem hx hb dg hne k) k
theorem z_ladd {x y : Int64} (dg : decode Y.2.1 pc = .ok (.ladd, 1))  (k : z_Ex w Y d Q (pc + 1) lv (.long (x + y) :: st) M) : z_Ex w Y d Q pc lv (.long y :: .long x :: st) M :=
  z_go0 (fun ho hq => by exact z_oc trivial (z_ot (z_ot ho))) (fun hx hb hown hW hl k => by exact lv_ladd hx hb dg k) k
theorem z_lsub {x y : Int64} (dg : decode Y.2.1 pc = .ok (.lsub, 1))  (k : z_Ex w Y d Q (pc + 1) lv (.long (x - y) :: st) M) : z_Ex w Y d Q pc lv (.long y :: .long x :: st) M :=
  z_go0 (fun ho hq => by exact z_oc trivial (z_ot (z_ot ho))) (fun hx hb hown hW hl k => by exact lv_lsub hx hb dg k) k
theorem z_land {x y : Int64} (dg : decode Y.2.1 pc = .ok (.land, 1))  (k : z_Ex w Y d Q (pc + 1) lv (.long (x &&& y) :: st) M) : z_Ex w Y d Q pc lv (.long y :: .long x :: st) M :=
  z_go0 (fun ho hq => by exact z_oc trivial (z_ot (z_ot ho))) (fun hx hb hown hW hl k => by exact lv_land hx hb dg k) k
theorem z_lor {x y : Int64} (dg : decode Y.2.1 pc = .ok (.lor, 1))  (k : z_Ex w Y d Q (pc + 1) lv (.long (x ||| y) :: st) M) : z_Ex w Y d Q pc lv (.long y :: .long x :: st) M :=
  z_go0 (fun ho hq => by exact z_oc trivial (z_ot (z_ot ho))) (fun hx hb hown hW hl k => by exact lv_lor hx hb dg k) k
theorem z_lxor {x y : Int64} (dg : decode Y.2.1 pc = .ok (.lxor, 1))  (k : z_Ex w Y d Q (pc + 1) lv (.long (x ^^^ y) :: st) M) : z_Ex w Y d Q pc lv (.long y :: .long x :: st) M :=
  z_go0 (fun ho hq => by exact z_oc trivial (z_ot (z_ot ho))) (fun hx hb hown hW hl k => by exact lv_lxor hx hb dg k) k
theorem z_i2l {x : Int32} (dg : decode Y.2.1 pc = .ok (.i2l, 1))  (k : z_Ex w Y d Q (pc + 1) lv (.long x.toInt64 :: st) M) : z_Ex w Y d Q pc lv (.int x :: st) M :=
  z_go0 (fun ho hq => by exact z_oc trivial (z_ot ho)) (fun hx hb hown hW hl k => by exact lv_i2l hx hb dg rfl k) k
theorem z_l2i {x : Int64} (dg : decode Y.2.1 pc = .ok (.l2i, 1))  (k : z_Ex w Y d Q (pc + 1) lv (.int x.toInt32 :: st) M) : z_Ex w Y d Q pc lv (.long x :: st) M :=
  z_go0 (fun ho hq => by exact z_oc trivial (z_ot ho)) (fun hx hb hown hW hl k => by exact lv_l2i hx hb dg rfl k) k
theorem z_i2b {x : Int32} (dg : decode Y.2.1 pc = .ok (.i2b, 1))  (k : z_Ex w Y d Q (pc + 1) lv (.int x.toInt8.toInt32 :: st) M) : z_Ex w Y d Q pc lv (.int x :: st) M :=
  z_go0 (fun ho hq => by exact z_oc trivial (z_ot ho)) (fun hx hb hown hW hl k => by exact lv_i2b hx hb dg rfl k) k
theorem z_i2s {x : Int32} (dg : decode Y.2.1 pc = .ok (.i2s, 1))  (k : z_Ex w Y d Q (pc + 1) lv (.int x.toInt16.toInt32 :: st) M) : z_Ex w Y d Q pc lv (.int x :: st) M :=
  z_go0 (fun ho hq => by exact z_oc trivial (z_ot ho)) (fun hx hb hown hW hl k => by exact lv_i2s hx hb dg rfl k) k
theorem z_lshl {x : Int64} {y : Int32} (dg : decode Y.2.1 pc = .ok (.lshl, 1))  (k : z_Ex w Y d Q (pc + 1) lv (.long (x <<< (y.toInt64 &&& 63)) :: st) M) : z_Ex w Y d Q pc lv (.int y :: .long x :: st) M :=
  z_go0 (fun ho hq => by exact z_oc trivial (z_ot (z_ot ho))) (fun hx hb hown hW hl k => by exact lv_lshl hx hb dg rfl k) k
theorem z_lshr {x : Int64} {y : Int32} (dg : decode Y.2.1 pc = .ok (.lshr, 1))  (k : z_Ex w Y d Q (pc + 1) lv (.long (x >>> (y.toInt64 &&& 63)) :: st) M) : z_Ex w Y d Q pc lv (.int y :: .long x :: st) M :=
  z_go0 (fun ho hq => by exact z_oc trivial (z_ot (z_ot ho))) (fun hx hb hown hW hl k => by exact lv_lshr hx hb dg rfl k) k
theorem z_lcmp {x y : Int64} (dg : decode Y.2.1 pc = .ok (.lcmp, 1))  (k : z_Ex w Y d Q (pc + 1) lv (.int (lg_cmp x y) :: st) M) : z_Ex w Y d Q pc lv (.long y :: .long x :: st) M :=
  z_go0 (fun ho hq => by exact z_oc trivial (z_ot (z_ot ho))) (fun hx hb hown hW hl k => by exact W.lcmp hx hb dg k) k
theorem z_dup {u : Value} (dg : decode Y.2.1 pc = .ok (.dup, 1)) (h1 : u.category = 1) (k : z_Ex w Y d Q (pc + 1) lv (u :: u :: st) M) : z_Ex w Y d Q pc lv (u :: st) M :=
  z_go0 (fun ho hq => by exact z_oc (z_oh ho) ho) (fun hx hb hown hW hl k => by exact lv_dup hx hb dg ((z_v_cat _).trans h1) k) k
theorem z_pop {u : Value} (dg : decode Y.2.1 pc = .ok (.pop, 1)) (h1 : u.category = 1) (k : z_Ex w Y d Q (pc + 1) lv (st) M) : z_Ex w Y d Q pc lv (u :: st) M :=
  z_go0 (fun ho hq => by exact (z_ot ho)) (fun hx hb hown hW hl k => by exact lv_pop hx hb dg ((z_v_cat _).trans h1) k) k
theorem z_dup_x1 {u v : Value} (dg : decode Y.2.1 pc = .ok (.dup_x1, 1)) (h1 : u.category = 1) (h2 : v.category = 1) (k : z_Ex w Y d Q (pc + 1) lv (u :: v :: u :: st) M) : z_Ex w Y d Q pc lv (u :: v :: st) M :=
  z_go0 (fun ho hq => by exact z_oc (z_oh ho) (z_oc (z_oh (z_ot ho)) (z_oc (z_oh ho) (z_ot (z_ot ho))))) (fun hx hb hown hW hl k => by exact lv_dup_x1 hx hb dg ((z_v_cat _).trans h1) ((z_v_cat _).trans h2) k) k
theorem z_dup_x2 {u v t : Value} (dg : decode Y.2.1 pc = .ok (.dup_x2, 1)) (h1 : u.category = 1) (h2 : v.category = 1) (h3 : t.category = 1) (k : z_Ex w Y d Q (pc + 1) lv (u :: v :: t :: u :: st) M) : z_Ex w Y d Q pc lv (u :: v :: t :: st) M :=
  z_go0 (fun ho hq => by exact z_oc (z_oh ho) (z_oc (z_oh (z_ot ho)) (z_oc (z_oh (z_ot (z_ot ho))) (z_oc (z_oh ho) (z_ot (z_ot (z_ot ho))))))) (fun hx hb hown hW hl k => by exact lv_dup_x2 hx hb dg ((z_v_cat _).trans h1) ((z_v_cat _).trans h2) ((z_v_cat _).trans h3) k) k
theorem z_dup2 {u v : Value} (dg : decode Y.2.1 pc = .ok (.dup2, 1)) (h1 : u.category = 1) (h2 : v.category = 1) (k : z_Ex w Y d Q (pc + 1) lv (u :: v :: u :: v :: st) M) : z_Ex w Y d Q pc lv (u :: v :: st) M :=
  z_go0 (fun ho hq => by exact z_oc (z_oh ho) (z_oc (z_oh (z_ot ho)) ho)) (fun hx hb hown hW hl k => by exact lv_dup2_11 hx hb dg ((z_v_cat _).trans h1) ((z_v_cat _).trans h2) k) k
theorem z_ldc2 {idx : Nat} {v : Int64} (dg : decode Y.2.1 pc = .ok (.ldc2_w idx, 3)) (hc : z_has w (.constantLong Y.1.cls idx v)) (k : z_Ex w Y d Q (pc + 3) lv (.long v :: st) M) : z_Ex w Y d Q pc lv (st) M :=
  z_go0 (fun ho hq => by exact z_oc trivial ho) (fun hx hb hown hW hl k => by exact lv_ldc2 hx hb hown (hc _ _ hW) dg k) k
theorem z_ldc {idx : Nat} {v : Int32} (dg : decode Y.2.1 pc = .ok (.ldc idx, 2)) (hc : z_has w (.constant Y.1.cls idx v)) (k : z_Ex w Y d Q (pc + 2) lv (.int v :: st) M) : z_Ex w Y d Q pc lv (st) M :=
  z_go0 (fun ho hq => by exact z_oc trivial ho) (fun hx hb hown hW hl k => by exact lv_ldc hx hb hown (hc _ _ hW) dg k) k
theorem z_istore_n {k9 : Fin 4} {i : Nat} {x : Int32} (dg : decode Y.2.1 pc = .ok (.istore_n k9, 1)) (hi : (k9 : Nat) = i) (hn : i < Y.2.2.1) (hs : z_s1 lv i (.int x) = lv') (k : z_Ex w Y d Q (pc + 1) lv' st M) : z_Ex w Y d Q pc lv (.int x :: st) M := by
  subst hs
  exact z_go1 (fun ho hq => by exact ⟨z_ot ho, z_s1_ok (z_oh ho) hq⟩) (fun hx hb hl k => by exact lv_istore_n hx hb dg hi hl.1 hn (z_s1_map (v := .int x)) (fun ls' hl' => k ls' hl')) k
theorem z_istore {i : Nat} {x : Int32} (dg : decode Y.2.1 pc = .ok (.istore i, 2)) (hn : i < Y.2.2.1) (hs : z_s1 lv i (.int x) = lv') (k : z_Ex w Y d Q (pc + 2) lv' st M) : z_Ex w Y d Q pc lv (.int x :: st) M := by
  subst hs
  exact z_go1 (fun ho hq => by exact ⟨z_ot ho, z_s1_ok (z_oh ho) hq⟩) (fun hx hb hl k => by exact lv_istore hx hb dg hl.1 hn (z_s1_map (v := .int x)) (fun ls' hl' => k ls' hl')) k
theorem z_astore_n {k9 : Fin 4} {i : Nat} {x : Nat} (dg : decode Y.2.1 pc = .ok (.astore_n k9, 1)) (hi : (k9 : Nat) = i) (hn : i < Y.2.2.1) (hs : z_s1 lv i (.ref x) = lv') (k : z_Ex w Y d Q (pc + 1) lv' st M) : z_Ex w Y d Q pc lv (.ref x :: st) M := by
  subst hs
  exact z_go1 (fun ho hq => by exact ⟨z_ot ho, z_s1_ok (z_oh ho) hq⟩) (fun hx hb hl k => by exact lv_astore_n hx hb dg hi hl.1 hn (z_s1_map (v := .ref x)) (fun ls' hl' => k ls' hl')) k
theorem z_astore {i : Nat} {x : Nat} (dg : decode Y.2.1 pc = .ok (.astore i, 2)) (hn : i < Y.2.2.1) (hs : z_s1 lv i (.ref x) = lv') (k : z_Ex w Y d Q (pc + 2) lv' st M) : z_Ex w Y d Q pc lv (.ref x :: st) M := by
  subst hs
  exact z_go1 (fun ho hq => by exact ⟨z_ot ho, z_s1_ok (z_oh ho) hq⟩) (fun hx hb hl k => by exact lv_astore hx hb dg hl.1 hn (z_s1_map (v := .ref x)) (fun ls' hl' => k ls' hl')) k
theorem z_lstore_n {k9 : Fin 4} {i : Nat} {x : Int64} (dg : decode Y.2.1 pc = .ok (.lstore_n k9, 1)) (hi : (k9 : Nat) = i) (hn : i + 1 < Y.2.2.1) (hs : z_s2 lv i (.long x) = lv') (k : z_Ex w Y d Q (pc + 1) lv' st M) : z_Ex w Y d Q pc lv (.long x :: st) M := by
  subst hs
  exact z_go1 (fun ho hq => by exact ⟨z_ot ho, z_s2_ok (z_oh ho) hq⟩) (fun hx hb hl k => by exact lv_lstore_n hx hb dg hi hl.1 hn (z_s2_map (v := .long x)) (fun ls' hl' => k ls' hl')) k
theorem z_lstore {i : Nat} {x : Int64} (dg : decode Y.2.1 pc = .ok (.lstore i, 2)) (hn : i + 1 < Y.2.2.1) (hs : z_s2 lv i (.long x) = lv') (k : z_Ex w Y d Q (pc + 2) lv' st M) : z_Ex w Y d Q pc lv (.long x :: st) M := by
  subst hs
  exact z_go1 (fun ho hq => by exact ⟨z_ot ho, z_s2_ok (z_oh ho) hq⟩) (fun hx hb hl k => by exact lv_lstore hx hb dg hl.1 hn (z_s2_map (v := .long x)) (fun ls' hl' => k ls' hl')) k
theorem z_astore_nN {k9 : Fin 4} {i : Nat} (dg : decode Y.2.1 pc = .ok (.astore_n k9, 1)) (hi : (k9 : Nat) = i) (hn : i < Y.2.2.1) (hs : z_s1 lv i .null = lv') (k : z_Ex w Y d Q (pc + 1) lv' st M) : z_Ex w Y d Q pc lv (.null :: st) M := by
  subst hs
  exact z_go1 (fun ho hq => by exact ⟨z_ot ho, z_s1_ok (v := .null) trivial hq⟩) (fun hx hb hl k => by exact lv_astore_nN hx hb dg hi hl.1 hn (z_s1_map (v := .null)) (fun ls' hl' => k ls' hl')) k
theorem z_astoreN {i : Nat} (dg : decode Y.2.1 pc = .ok (.astore i, 2)) (hn : i < Y.2.2.1) (hs : z_s1 lv i .null = lv') (k : z_Ex w Y d Q (pc + 2) lv' st M) : z_Ex w Y d Q pc lv (.null :: st) M := by
  subst hs
  exact z_go1 (fun ho hq => by exact ⟨z_ot ho, z_s1_ok (v := .null) trivial hq⟩) (fun hx hb hl k => by exact lv_astoreN hx hb dg hl.1 hn (z_s1_map (v := .null)) (fun ls' hl' => k ls' hl')) k
theorem z_iinc {i : Nat} {n : Int} {x : Int32} (dg : decode Y.2.1 pc = .ok (.iinc i n, 3)) (hv : z_lk lv i = some (.int x)) (hn : i < Y.2.2.1) (hs : z_s1 lv i (.int (x + Int32.ofInt n)) = lv') (k : z_Ex w Y d Q (pc + 3) lv' st M) : z_Ex w Y d Q pc lv st M := by
  subst hs
  refine z_go1 (fun ho hq => ⟨ho, z_s1_ok (v := .int _) trivial hq⟩) (fun {p l e R s m args below meth c H locs cells slots Q' al ls} hx hb hl k => ?_) k
  obtain ⟨j, hj⟩ := List.getElem?_of_mem (List.mem_map.mpr ⟨(i, .int x), z_lk_mem hv, rfl⟩ : (i, z_v al (.int x)) ∈ lv.map fun q => (q.1, z_v al q.2))
  exact lv_iinc hx hb dg hl.1 (k := j) hj rfl hn (z_s1_map (v := .int _)) (fun ls' hl' => k ls' hl')
theorem z_if_eq {x : Int32} {off : Int} {tgt : Nat} (dg : decode Y.2.1 pc = .ok (.ifCond .eq off, 3)) (ht : (pc : Int) + off = (tgt : Int)) (k1 : x = 0 → z_Ex w Y d Q tgt lv st M) (k2 : ¬ x = 0 → z_Ex w Y d Q (pc + 3) lv st M) : z_Ex w Y d Q pc lv (.int x :: st) M :=
  z_go2 (fun ho => by exact z_ot ho) (fun hx hb k1 k2 => by exact lv_if_eq hx hb dg ht k1 k2) k1 k2
theorem z_icmp_eq {x y : Int32} {off : Int} {tgt : Nat} (dg : decode Y.2.1 pc = .ok (.if_icmp .eq off, 3)) (ht : (pc : Int) + off = (tgt : Int)) (k1 : x = y → z_Ex w Y d Q tgt lv st M) (k2 : ¬ x = y → z_Ex w Y d Q (pc + 3) lv st M) : z_Ex w Y d Q pc lv (.int y :: .int x :: st) M :=
  z_go2 (fun ho => by exact z_ot (z_ot ho)) (fun hx hb k1 k2 => by exact lv_icmp_eq hx hb dg ht k1 k2) k1 k2
theorem z_if_ne {x : Int32} {off : Int} {tgt : Nat} (dg : decode Y.2.1 pc = .ok (.ifCond .ne off, 3)) (ht : (pc : Int) + off = (tgt : Int)) (k1 : ¬ x = 0 → z_Ex w Y d Q tgt lv st M) (k2 : x = 0 → z_Ex w Y d Q (pc + 3) lv st M) : z_Ex w Y d Q pc lv (.int x :: st) M :=
  z_go2 (fun ho => by exact z_ot ho) (fun hx hb k1 k2 => by exact lv_if_ne hx hb dg ht k1 k2) k1 k2
theorem z_icmp_ne {x y : Int32} {off : Int} {tgt : Nat} (dg : decode Y.2.1 pc = .ok (.if_icmp .ne off, 3)) (ht : (pc : Int) + off = (tgt : Int)) (k1 : ¬ x = y → z_Ex w Y d Q tgt lv st M) (k2 : x = y → z_Ex w Y d Q (pc + 3) lv st M) : z_Ex w Y d Q pc lv (.int y :: .int x :: st) M :=
  z_go2 (fun ho => by exact z_ot (z_ot ho)) (fun hx hb k1 k2 => by exact lv_icmp_ne hx hb dg ht k1 k2) k1 k2
theorem z_if_lt {x : Int32} {off : Int} {tgt : Nat} (dg : decode Y.2.1 pc = .ok (.ifCond .lt off, 3)) (ht : (pc : Int) + off = (tgt : Int)) (k1 : x < 0 → z_Ex w Y d Q tgt lv st M) (k2 : ¬ x < 0 → z_Ex w Y d Q (pc + 3) lv st M) : z_Ex w Y d Q pc lv (.int x :: st) M :=
  z_go2 (fun ho => by exact z_ot ho) (fun hx hb k1 k2 => by exact lv_if_lt hx hb dg ht k1 k2) k1 k2
theorem z_icmp_lt {x y : Int32} {off : Int} {tgt : Nat} (dg : decode Y.2.1 pc = .ok (.if_icmp .lt off, 3)) (ht : (pc : Int) + off = (tgt : Int)) (k1 : x < y → z_Ex w Y d Q tgt lv st M) (k2 : ¬ x < y → z_Ex w Y d Q (pc + 3) lv st M) : z_Ex w Y d Q pc lv (.int y :: .int x :: st) M :=
  z_go2 (fun ho => by exact z_ot (z_ot ho)) (fun hx hb k1 k2 => by exact lv_icmp_lt hx hb dg ht k1 k2) k1 k2
theorem z_if_ge {x : Int32} {off : Int} {tgt : Nat} (dg : decode Y.2.1 pc = .ok (.ifCond .ge off, 3)) (ht : (pc : Int) + off = (tgt : Int)) (k1 : 0 ≤ x → z_Ex w Y d Q tgt lv st M) (k2 : ¬ 0 ≤ x → z_Ex w Y d Q (pc + 3) lv st M) : z_Ex w Y d Q pc lv (.int x :: st) M :=
  z_go2 (fun ho => by exact z_ot ho) (fun hx hb k1 k2 => by exact lv_if_ge hx hb dg ht k1 k2) k1 k2
theorem z_icmp_ge {x y : Int32} {off : Int} {tgt : Nat} (dg : decode Y.2.1 pc = .ok (.if_icmp .ge off, 3)) (ht : (pc : Int) + off = (tgt : Int)) (k1 : y ≤ x → z_Ex w Y d Q tgt lv st M) (k2 : ¬ y ≤ x → z_Ex w Y d Q (pc + 3) lv st M) : z_Ex w Y d Q pc lv (.int y :: .int x :: st) M :=
  z_go2 (fun ho => by exact z_ot (z_ot ho)) (fun hx hb k1 k2 => by exact lv_icmp_ge hx hb dg ht k1 k2) k1 k2
theorem z_if_gt {x : Int32} {off : Int} {tgt : Nat} (dg : decode Y.2.1 pc = .ok (.ifCond .gt off, 3)) (ht : (pc : Int) + off = (tgt : Int)) (k1 : 0 < x → z_Ex w Y d Q tgt lv st M) (k2 : ¬ 0 < x → z_Ex w Y d Q (pc + 3) lv st M) : z_Ex w Y d Q pc lv (.int x :: st) M :=
  z_go2 (fun ho => by exact z_ot ho) (fun hx hb k1 k2 => by exact lv_if_gt hx hb dg ht k1 k2) k1 k2
theorem z_icmp_gt {x y : Int32} {off : Int} {tgt : Nat} (dg : decode Y.2.1 pc = .ok (.if_icmp .gt off, 3)) (ht : (pc : Int) + off = (tgt : Int)) (k1 : y < x → z_Ex w Y d Q tgt lv st M) (k2 : ¬ y < x → z_Ex w Y d Q (pc + 3) lv st M) : z_Ex w Y d Q pc lv (.int y :: .int x :: st) M :=
  z_go2 (fun ho => by exact z_ot (z_ot ho)) (fun hx hb k1 k2 => by exact lv_icmp_gt hx hb dg ht k1 k2) k1 k2
theorem z_if_le {x : Int32} {off : Int} {tgt : Nat} (dg : decode Y.2.1 pc = .ok (.ifCond .le off, 3)) (ht : (pc : Int) + off = (tgt : Int)) (k1 : x ≤ 0 → z_Ex w Y d Q tgt lv st M) (k2 : ¬ x ≤ 0 → z_Ex w Y d Q (pc + 3) lv st M) : z_Ex w Y d Q pc lv (.int x :: st) M :=
  z_go2 (fun ho => by exact z_ot ho) (fun hx hb k1 k2 => by exact lv_if_le hx hb dg ht k1 k2) k1 k2
theorem z_icmp_le {x y : Int32} {off : Int} {tgt : Nat} (dg : decode Y.2.1 pc = .ok (.if_icmp .le off, 3)) (ht : (pc : Int) + off = (tgt : Int)) (k1 : x ≤ y → z_Ex w Y d Q tgt lv st M) (k2 : ¬ x ≤ y → z_Ex w Y d Q (pc + 3) lv st M) : z_Ex w Y d Q pc lv (.int y :: .int x :: st) M :=
  z_go2 (fun ho => by exact z_ot (z_ot ho)) (fun hx hb k1 k2 => by exact lv_icmp_le hx hb dg ht k1 k2) k1 k2
theorem z_goto {off : Int} {tgt : Nat} (dg : decode Y.2.1 pc = .ok (.goto off, 3)) (ht : (pc : Int) + off = (tgt : Int)) (k : z_Ex w Y d Q tgt lv st M) : z_Ex w Y d Q pc lv st M :=
  z_go0 (fun ho hq => by exact ho) (fun hx hb hown hW hl k => by exact lv_goto hx hb dg ht k) k
theorem z_ifnonnull {i : Nat} {off : Int} {tgt : Nat} (dg : decode Y.2.1 pc = .ok (.ifnonnull off, 3)) (ht : (pc : Int) + off = (tgt : Int)) (k : z_Ex w Y d Q tgt lv st M) : z_Ex w Y d Q pc lv (.ref i :: st) M :=
  z_go0 (fun ho hq => by exact z_ot ho) (fun hx hb hown hW hl k => by exact lv_ifnonnull hx hb dg ht k) k
theorem z_ifnull {i : Nat} {off : Int} (dg : decode Y.2.1 pc = .ok (.ifnull off, 3)) (k : z_Ex w Y d Q (pc + 3) lv st M) : z_Ex w Y d Q pc lv (.ref i :: st) M :=
  z_go0 (fun ho hq => by exact z_ot ho) (fun hx hb hown hW hl k => by exact lv_ifnull hx hb dg k) k
theorem z_ifnullN {off : Int} {tgt : Nat} (dg : decode Y.2.1 pc = .ok (.ifnull off, 3)) (ht : (pc : Int) + off = (tgt : Int)) (k : z_Ex w Y d Q tgt lv st M) : z_Ex w Y d Q pc lv (.null :: st) M :=
  z_go0 (fun ho hq => by exact z_ot ho) (fun hx hb hown hW hl k => by exact lv_ifnullN hx hb dg ht k) k
theorem z_ifnonnullN {off : Int} (dg : decode Y.2.1 pc = .ok (.ifnonnull off, 3)) (k : z_Ex w Y d Q (pc + 3) lv st M) : z_Ex w Y d Q pc lv (.null :: st) M :=
  z_go0 (fun ho hq => by exact z_ot ho) (fun hx hb hown hW hl k => by exact lv_ifnonnullN hx hb dg k) k
theorem z_tableOut {dflt lo hi : Int} {offs : Array Int} {len tgt : Nat} {x : Int32} (dg : decode Y.2.1 pc = .ok (.tableswitch dflt lo hi offs, len)) (h : x.toInt < lo ∨ hi < x.toInt) (ht : (pc : Int) + dflt = (tgt : Int)) (k : z_Ex w Y d Q tgt lv st M) : z_Ex w Y d Q pc lv (.int x :: st) M :=
  z_go0 (fun ho hq => by exact z_ot ho) (fun hx hb hown hW hl k => by exact lv_tableOut hx hb dg h ht k) k
theorem z_tableIn {dflt lo hi off : Int} {offs : Array Int} {len tgt : Nat} {x : Int32} (dg : decode Y.2.1 pc = .ok (.tableswitch dflt lo hi offs, len)) (h1 : ¬ x.toInt < lo) (h2 : ¬ hi < x.toInt) (h3 : offs[(x.toInt - lo).toNat]? = some off) (ht : (pc : Int) + off = (tgt : Int)) (k : z_Ex w Y d Q tgt lv st M) : z_Ex w Y d Q pc lv (.int x :: st) M :=
  z_go0 (fun ho hq => by exact z_ot ho) (fun hx hb hown hW hl k => by exact lv_tableIn hx hb dg h1 h2 h3 ht k) k
theorem z_lookup {dflt off : Int} {ps : Array (Int × Int)} {len tgt : Nat} {x : Int32} (dg : decode Y.2.1 pc = .ok (.lookupswitch dflt ps, len)) (hp : (ps.toList.zip (ps.toList.drop 1)).all (fun (a, next) => a.1 < next.1) = true) (h3 : Op.lookupswitch.offset ps.toList dflt x.toInt = off) (ht : (pc : Int) + off = (tgt : Int)) (k : z_Ex w Y d Q tgt lv st M) : z_Ex w Y d Q pc lv (.int x :: st) M :=
  z_go0 (fun ho hq => by exact z_ot ho) (fun hx hb hown hW hl k => by exact lv_lookup hx hb dg hp h3 ht k) k
end ZR
end
section
section ZH
variable {w : z_W} {Y : z_Y} {d : Nat} {Q : z_O → z_M → Prop} {pc : Nat} {lv lv' : List (Nat × Value)} {st : List Value} {M : z_M} {n0 : Nat} {h : Nat → va_E} {nc ns : Nat}
/-- the world is good: what the tables say of our classes and of the arrays' classes -/
def z_Wok (w : z_W) : Prop := va_K w.2.2.1 vwCl (z_tys w) w.2.1
/-- entry idx of class own is field k of class ci -/
def z_fld (w : z_W) (own : String) (idx ci k : Nat) : Prop := ∃ (C : String) (T : u_T) (N : Nat), vwCl[ci]? = some (C, T, N) ∧ k < N ∧ (∀ c ∈ u_ws C T N, z_has w c) ∧
  (z_has w (.fieldLink own idx (T k).1 (T k).2.1 (T k).2.2.1) ∨ ∃ host, z_has w (.fieldLinkNest own idx (T k).1 (T k).2.1 (T k).2.2.1 host))
/-- .. of type ty; fin: final -/
def z_fldP (w : z_W) (own : String) (idx ci k : Nat) (ty : FieldType) (fin : Bool) : Prop := ∃ (C : String) (T : u_T) (N : Nat) (ty0 : Nat → FieldType), vwCl[ci]? = some (C, T, N) ∧ k < N ∧ (∀ c ∈ u_ws C T N, z_has w c) ∧
  (z_has w (.fieldLink own idx (T k).1 (T k).2.1 (T k).2.2.1) ∨ (fin = false ∧ ∃ host, z_has w (.fieldLinkNest own idx (T k).1 (T k).2.1 (T k).2.2.1 host))) ∧
  (∀ j, j < N → parseFieldDescriptor (T j).2.2.1 = some (ty0 j)) ∧ (∀ a, a < N → ∀ b, b < N → a ≠ b → (T a).2.1 ≠ (T b).2.1) ∧ parseFieldDescriptor (T k).2.2.1 = some ty ∧ (T k).2.2.2 = fin ∧ (fin = true → (T k).1 = own)
theorem z_at_obj {al : Nat → Nat} {H : Heap} {i ci : Nat} {fs : List Value} (hR : z_Rel w al M H) (h2 : 2 ≤ i) (hi : i < M.1) (hc : M.2.1 i = .inr (ci, fs)) : (z_ws w.2.2.2 al M)[i - 2]? = some (al i, .inr (ci, fs.map (z_v al))) := by
  rw [z_ws_get h2 hi, hc]; rfl
theorem z_at_arr {al : Nat → Nat} {H : Heap} {i t : Nat} {x : vp_A} (hR : z_Rel w al M H) (h2 : 2 ≤ i) (hi : i < M.1) (hc : M.2.1 i = .inl (t, x)) : (z_ws w.2.2.2 al M)[i - 2]? = some (al i, .inl (w.2.2.2 t, x)) := by
  rw [z_ws_get h2 hi, hc]; rfl
theorem z_obj_ok {al : Nat → Nat} {H : Heap} {i ci : Nat} {fs : List Value} (hR : z_Rel w al M H) (h2 : 2 ≤ i) (hi : i < M.1) (hc : M.2.1 i = .inr (ci, fs)) : ∀ v ∈ fs, z_ok M.1 v := by
  have h := hR.2.2.1 i h2 hi
  rw [hc] at h
  exact h
theorem z_get {idx i ci k : Nat} {fs : List Value} {v : Value} (hw : z_Wok w) (dg : decode Y.2.1 pc = .ok (.getfield idx, 3)) (hf : z_fld w Y.1.cls idx ci k) (h2 : 2 ≤ i) (hc : h i = .inr (ci, fs)) (hv : fs[k]? = some v)
    (kk : z_Ex w Y d Q (pc + 3) lv (v :: st) (n0, h, nc, ns)) : z_Ex w Y d Q pc lv (.ref i :: st) (n0, h, nc, ns) := by
  intro p e R s m args below meth c H locs cells slots al ae ne ls C hR hT hl ho
  obtain ⟨CC, TT, N, e1, e2, e3, e5⟩ := hf
  have hi : i < n0 := z_oh ho
  have hW := C.2.2.2.2.2.2.2.2.1
  have he := z_at_obj hR h2 hi hc
  have hv' : (fs.map (z_v al))[k]? = some (z_v al v) := by rw [List.getElem?_map, hv]; rfl
  have kk' := kk p e R s m args below meth c H locs cells slots al ae ne ls C hR hT hl (z_oc (z_obj_ok hR h2 hi hc v (List.mem_of_getElem? hv)) (z_ot ho))
  rcases e5 with e5 | ⟨host, e5⟩
  · exact va_get C.1 C.2.1 (fun c h => e3 c h _ _ hW) (fun _ h => h) C.2.2.2.2.2.1 (z_K hw hW) hR.1 (i - 2) he e1 k e2 (e5 _ _ hW) (fun _ h => h) hv' dg kk'
  · exact va_getN C.1 C.2.1 (fun c h => e3 c h _ _ hW) (fun _ h => h) C.2.2.2.2.2.1 (z_K hw hW) hR.1 (i - 2) he e1 k e2 (e5 _ _ hW) (fun _ h => h) hv' dg kk'
theorem z_put {idx i ci k : Nat} {fs : List Value} {v : Value} {ty : FieldType} {fin : Bool} (hw : z_Wok w) (dg : decode Y.2.1 pc = .ok (.putfield idx, 3)) (hf : z_fldP w Y.1.cls idx ci k ty fin) (hfin : fin = true → Y.1.name = "<init>") (h2 : 2 ≤ i) (hc : h i = .inr (ci, fs)) (hk : k < fs.length)
    (hn : ∀ al : Nat → Nat, narrow ty (z_v al v) = z_v al v ∧ fits ty (z_v al v) = true) (kk : z_Ex w Y d Q (pc + 3) lv st (n0, va_up h i (.inr (ci, fs.set k v)), nc, ns)) : z_Ex w Y d Q pc lv (v :: .ref i :: st) (n0, h, nc, ns) := by
  intro p e R s m args below meth c H locs cells slots al ae ne ls C hR hT hl ho
  obtain ⟨CC, TT, N, ty0, e1, e2, e3, e5, e6, e7, e8, e9, e10⟩ := hf
  have hi : i < n0 := z_oh (z_ot ho)
  have hW := C.2.2.2.2.2.2.2.2.1
  have he := z_at_obj hR h2 hi hc
  have hset : (Sum.inr (ci, (fs.map (z_v al)).set k (z_v al v)) : va_E) = z_E w.2.2.2 al (.inr (ci, fs.set k v)) := by
    show _ = (Sum.inr (ci, (fs.set k v).map (z_v al)) : va_E)
    rw [List.map_set]
  have hok : z_okE n0 (.inr (ci, fs.set k v)) := fun u hu => by
    rcases List.mem_or_eq_of_mem_set hu with h | h
    · exact z_obj_ok hR h2 hi hc u h
    · rw [h]; exact z_oh ho
  have kk' : ∀ (H1 : Heap) (locs1 : List Loc), va_P w.2.2.1 vwCl ((z_ws w.2.2.2 al (n0, h, nc, ns)).set (i - 2) (al i, .inr (ci, (fs.map (z_v al)).set k (z_v al v)))) H1 → va_D (z_A w) ((z_ws w.2.2.2 al (n0, h, nc, ns)).set (i - 2) (al i, .inr (ci, (fs.map (z_v al)).set k (z_v al v)))) → va_S (z_A w) w.2.1.heap H1 locs1 →
      W p w.1 e R s m args below meth c H1 locs1 cells slots (z_End w below s R ae ne Q) (F0 m (pc + 3) ls (st.map (z_v al))) := by
    intro H1 locs1 hP hD hS
    rw [hset] at hP hD
    exact kk p e R s m args below meth c H1 locs1 cells slots al ae ne ls C (hR.set h2 hi hok hP hD) ⟨hS, hT.2⟩ hl (z_ot (z_ot ho))
  cases fin with
  | false =>
    rcases e5 with e5 | ⟨-, host, e5⟩
    · exact va_put C.1 C.2.1 (fun c h => e3 c h _ _ hW) (fun _ h => h) ty0 e6 e7 C.2.2.2.2.2.1 (z_K hw hW) hR.1 hR.2.1 hT.1 (i - 2) he e1 k e2 (e5 _ _ hW) (fun _ h => h) e9 e8 (hn al).1 (hn al).2 (by rw [List.length_map]; exact hk) dg kk'
    · exact va_putN C.1 C.2.1 (fun c h => e3 c h _ _ hW) (fun _ h => h) ty0 e6 e7 C.2.2.2.2.2.1 (z_K hw hW) hR.1 hR.2.1 hT.1 (i - 2) he e1 k e2 (e5 _ _ hW) (fun _ h => h) e9 e8 (hn al).1 (hn al).2 (by rw [List.length_map]; exact hk) dg kk'
  | true =>
    rcases e5 with e5 | ⟨h9, -⟩
    · exact va_putF C.1 C.2.1 (fun c h => e3 c h _ _ hW) (fun _ h => h) ty0 e6 e7 C.2.2.2.2.2.1 (z_K hw hW) hR.1 hR.2.1 hT.1 (i - 2) he e1 k e2 (e5 _ _ hW) (fun _ h => h) e9 (C.2.2.2.2.2.2.1.trans (hfin rfl)) (e10 rfl) e8 (hn al).1 (hn al).2 (by rw [List.length_map]; exact hk) dg kk'
    · cases h9
theorem z_iald {i n : Nat} {f : Nat → Int32} {j : Int32} (hw : z_Wok w) (dg : decode Y.2.1 pc = .ok (.iaload, 1)) (h2 : 2 ≤ i) (hc : h i = .inl (0, n, .inl f)) (hj : vp_in j n)
    (kk : z_Ex w Y d Q (pc + 1) lv (.int (f j.toNatClampNeg) :: st) (n0, h, nc, ns)) : z_Ex w Y d Q pc lv (.int j :: .ref i :: st) (n0, h, nc, ns) := by
  intro p e R s m args below meth c H locs cells slots al ae ne ls C hR hT hl ho
  have hi : i < n0 := z_oh (z_ot ho)
  have hW := C.2.2.2.2.2.2.2.2.1
  exact va_iald C.1 C.2.1 (z_K hw hW) hR.1 (i - 2) 0 (z_at_arr hR h2 hi hc) rfl hj dg (kk p e R s m args below meth c H locs cells slots al ae ne ls C hR hT hl (z_oc trivial (z_ot (z_ot ho))))
theorem z_lald {i n : Nat} {f : Nat → Int64} {j : Int32} (hw : z_Wok w) (dg : decode Y.2.1 pc = .ok (.laload, 1)) (h2 : 2 ≤ i) (hc : h i = .inl (1, n, .inr (.inl f))) (hj : vp_in j n)
    (kk : z_Ex w Y d Q (pc + 1) lv (.long (f j.toNatClampNeg) :: st) (n0, h, nc, ns)) : z_Ex w Y d Q pc lv (.int j :: .ref i :: st) (n0, h, nc, ns) := by
  intro p e R s m args below meth c H locs cells slots al ae ne ls C hR hT hl ho
  have hi : i < n0 := z_oh (z_ot ho)
  have hW := C.2.2.2.2.2.2.2.2.1
  exact va_lald C.1 C.2.1 (z_K hw hW) hR.1 (i - 2) 1 (z_at_arr hR h2 hi hc) rfl hj dg (kk p e R s m args below meth c H locs cells slots al ae ne ls C hR hT hl (z_oc trivial (z_ot (z_ot ho))))
theorem z_zald {i n : Nat} {f : Nat → Int32} {j : Int32} (hw : z_Wok w) (dg : decode Y.2.1 pc = .ok (.baload, 1)) (h2 : 2 ≤ i) (hc : h i = .inl (2, n, .inl f)) (hj : vp_in j n)
    (kk : z_Ex w Y d Q (pc + 1) lv (.int (f j.toNatClampNeg) :: st) (n0, h, nc, ns)) : z_Ex w Y d Q pc lv (.int j :: .ref i :: st) (n0, h, nc, ns) := by
  intro p e R s m args below meth c H locs cells slots al ae ne ls C hR hT hl ho
  have hi : i < n0 := z_oh (z_ot ho)
  have hW := C.2.2.2.2.2.2.2.2.1
  exact va_zald C.1 C.2.1 (z_K hw hW) hR.1 (i - 2) 2 (z_at_arr hR h2 hi hc) rfl hj dg (kk p e R s m args below meth c H locs cells slots al ae ne ls C hR hT hl (z_oc trivial (z_ot (z_ot ho))))
theorem z_iast {i n : Nat} {f : Nat → Int32} {j x : Int32} (hw : z_Wok w) (dg : decode Y.2.1 pc = .ok (.iastore, 1)) (h2 : 2 ≤ i) (hc : h i = .inl (0, n, .inl f)) (hj : vp_in j n)
    (kk : z_Ex w Y d Q (pc + 1) lv st (n0, va_up h i (.inl (0, n, .inl (upd f j.toNatClampNeg x))), nc, ns)) : z_Ex w Y d Q pc lv (.int x :: .int j :: .ref i :: st) (n0, h, nc, ns) := by
  intro p e R s m args below meth c H locs cells slots al ae ne ls C hR hT hl ho
  have hi : i < n0 := z_oh (z_ot (z_ot ho))
  have hW := C.2.2.2.2.2.2.2.2.1
  exact va_iast C.1 C.2.1 (z_K hw hW) hR.1 hR.2.1 hT.1 (i - 2) 0 (z_at_arr hR h2 hi hc) rfl hj dg (fun H1 locs1 hP hD hS =>
    kk p e R s m args below meth c H1 locs1 cells slots al ae ne ls C (hR.set (c := .inl (0, n, .inl (upd f j.toNatClampNeg x))) h2 hi trivial hP hD) ⟨hS, hT.2⟩ hl (z_ot (z_ot (z_ot ho))))
theorem z_last {i n : Nat} {f : Nat → Int64} {j : Int32} {x : Int64} (hw : z_Wok w) (dg : decode Y.2.1 pc = .ok (.lastore, 1)) (h2 : 2 ≤ i) (hc : h i = .inl (1, n, .inr (.inl f))) (hj : vp_in j n)
    (kk : z_Ex w Y d Q (pc + 1) lv st (n0, va_up h i (.inl (1, n, .inr (.inl (vp_updL f j.toNatClampNeg x)))), nc, ns)) : z_Ex w Y d Q pc lv (.long x :: .int j :: .ref i :: st) (n0, h, nc, ns) := by
  intro p e R s m args below meth c H locs cells slots al ae ne ls C hR hT hl ho
  have hi : i < n0 := z_oh (z_ot (z_ot ho))
  have hW := C.2.2.2.2.2.2.2.2.1
  exact va_last C.1 C.2.1 (z_K hw hW) hR.1 hR.2.1 hT.1 (i - 2) 1 (z_at_arr hR h2 hi hc) rfl hj dg (fun H1 locs1 hP hD hS =>
    kk p e R s m args below meth c H1 locs1 cells slots al ae ne ls C (hR.set (c := .inl (1, n, .inr (.inl (vp_updL f j.toNatClampNeg x)))) h2 hi trivial hP hD) ⟨hS, hT.2⟩ hl (z_ot (z_ot (z_ot ho))))
theorem z_zast {i n : Nat} {f : Nat → Int32} {j x : Int32} (hw : z_Wok w) (dg : decode Y.2.1 pc = .ok (.bastore, 1)) (h2 : 2 ≤ i) (hc : h i = .inl (2, n, .inl f)) (hj : vp_in j n)
    (kk : z_Ex w Y d Q (pc + 1) lv st (n0, va_up h i (.inl (2, n, .inl (upd f j.toNatClampNeg (vp_nar .boolean x)))), nc, ns)) : z_Ex w Y d Q pc lv (.int x :: .int j :: .ref i :: st) (n0, h, nc, ns) := by
  intro p e R s m args below meth c H locs cells slots al ae ne ls C hR hT hl ho
  have hi : i < n0 := z_oh (z_ot (z_ot ho))
  have hW := C.2.2.2.2.2.2.2.2.1
  exact va_zast C.1 C.2.1 (z_K hw hW) hR.1 hR.2.1 hT.1 (i - 2) 2 (z_at_arr hR h2 hi hc) rfl hj dg (fun H1 locs1 hP hD hS =>
    kk p e R s m args below meth c H1 locs1 cells slots al ae ne ls C (hR.set (c := .inl (2, n, .inl (upd f j.toNatClampNeg (vp_nar .boolean x)))) h2 hi trivial hP hD) ⟨hS, hT.2⟩ hl (z_ot (z_ot (z_ot ho))))
theorem z_alen {i t : Nat} {x : vp_A} (hw : z_Wok w) (dg : decode Y.2.1 pc = .ok (.arraylength, 1)) (h2 : 2 ≤ i) (hc : h i = .inl (t, x)) (ht : t < 3)
    (kk : z_Ex w Y d Q (pc + 1) lv (.int (Int32.ofNat x.1) :: st) (n0, h, nc, ns)) : z_Ex w Y d Q pc lv (.ref i :: st) (n0, h, nc, ns) := by
  intro p e R s m args below meth c H locs cells slots al ae ne ls C hR hT hl ho
  have hi : i < n0 := z_oh ho
  have hW := C.2.2.2.2.2.2.2.2.1
  obtain ⟨ty, hty⟩ : ∃ ty, (z_tys w)[t]? = some (w.2.2.2 t, ty) := by
    rcases (show t = 0 ∨ t = 1 ∨ t = 2 by omega) with rfl | rfl | rfl <;> exact ⟨_, rfl⟩
  exact va_alen C.1 C.2.1 (z_K hw hW) hR.1 (i - 2) t (z_at_arr hR h2 hi hc) hty rfl dg (kk p e R s m args below meth c H locs cells slots al ae ne ls C hR hT hl (z_oc trivial (z_ot ho)))
/-- the script, the static table: read only -/
theorem z_ro {al : Nat → Nat} {H : Heap} {locs : List Loc} {s : State} {i n : Nat} {f : Nat → Int32} (hR : z_Rel w al M H) (hS : va_S (z_A w) w.2.1.heap H locs) (hW : w.2.1.WarmedH s.vm) (h2 : i < 2) (hc : M.2.1 i = .inl (0, n, .inl f)) :
    ∃ scr : Cell, H[al i]? = some scr ∧ s.isArrayOf scr .int ∧ scr.vm ≠ .unknown ∧ scr.slots.size = n ∧ ∀ j : Nat, j < n → scr.slots[j]? = some (.int (f j)) := by
  obtain ⟨L, g, e1, ⟨scr, h1, h3, h4, h5, h6⟩, e3, -⟩ := hR.2.2.2.1 i h2
  have e9 := e1.symm.trans hc
  cases e9
  refine ⟨scr, ?_, State.isArrayOf_alike hW.alike h3, h4, h5, h6⟩
  rw [hS.2.1 _ e3 (fun h => Nat.not_lt.mpr h e3)]
  exact h1
theorem z_sld {i n : Nat} {f : Nat → Int32} {j : Int32} (dg : decode Y.2.1 pc = .ok (.iaload, 1)) (h2 : i < 2) (hc : h i = .inl (0, n, .inl f)) (hj : vp_in j n)
    (kk : z_Ex w Y d Q (pc + 1) lv (.int (f j.toNatClampNeg) :: st) (n0, h, nc, ns)) : z_Ex w Y d Q pc lv (.int j :: .ref i :: st) (n0, h, nc, ns) := by
  intro p e R s m args below meth c H locs cells slots al ae ne ls C hR hT hl ho
  have hW := C.2.2.2.2.2.2.2.2.1
  obtain ⟨scr, h1, h3, h4, h5, h6⟩ := z_ro (s := s) hR hT.1 hW h2 hc
  have hlt : j.toNatClampNeg < n := by
    unfold vp_in at hj
    omega
  exact W.iald C.1 C.2.1 h1 h3 h4 (by rw [h5]; exact hj) (h6 _ hlt) (g := F0 m pc ls (.int j :: .ref (al i) :: st.map (z_v al))) rfl rfl dg (kk p e R s m args below meth c H locs cells slots al ae ne ls C hR hT hl (z_oc trivial (z_ot (z_ot ho))))
theorem z_slen {i n : Nat} {f : Nat → Int32} (dg : decode Y.2.1 pc = .ok (.arraylength, 1)) (h2 : i < 2) (hc : h i = .inl (0, n, .inl f))
    (kk : z_Ex w Y d Q (pc + 1) lv (.int (Int32.ofNat n) :: st) (n0, h, nc, ns)) : z_Ex w Y d Q pc lv (.ref i :: st) (n0, h, nc, ns) := by
  intro p e R s m args below meth c H locs cells slots al ae ne ls C hR hT hl ho
  have hW := C.2.2.2.2.2.2.2.2.1
  obtain ⟨scr, h1, h3, h4, h5, h6⟩ := z_ro (s := s) hR hT.1 hW h2 hc
  exact W.alen C.1 C.2.1 h1 h3 (n := Int32.ofNat n) (by rw [h5]) (g := F0 m pc ls (.ref (al i) :: st.map (z_v al))) rfl rfl dg (kk p e R s m args below meth c H locs cells slots al ae ne ls C hR hT hl (z_oc trivial (z_ot ho)))
/-- a frame goes on behind a new cell -/
theorem z_newa {aty : ArrayType} {t N : Nat} {ty : FieldType} {n : Int32} {a0 : vp_A} (hw : z_Wok w) (dg : decode Y.2.1 pc = .ok (.newarray aty, 2)) (hty : newarray.typeOf aty = ty) (ht : (z_tys w)[t]? = some (w.2.2.2 t, ty))
    (hra : ∀ (U : State) (cA : ClassId), va_RA U cA ty → U.vm.findClass ("[" ++ ty.toString) = some cA) (harr : z_has w (.arrayClass ty)) (ha : ∀ cA : ClassId, vp_cell cA a0 = arrV cA N (fun _ => defaultValue ty)) (hn : ¬ n < 0) (hN : n.toNatClampNeg = N)
    (hb : N * componentBytes ty ≤ 536870912) (hc1 : 1 ≤ nc) (hs1 : N ≤ ns)
    (kk : z_Ex w Y d Q (pc + 2) lv (.ref n0 :: st) (n0 + 1, va_up h n0 (.inl (t, a0)), nc - 1, ns - N)) : z_Ex w Y d Q pc lv (.int n :: st) (n0, h, nc, ns) := by
  intro p e R s m args below meth c H locs cells slots al ae ne ls C hR hT hl ho
  have hW := C.2.2.2.2.2.2.2.2.1
  have hK := z_K hw hW
  obtain ⟨hS, h3, h4, h5, h6⟩ := hT
  have h4 : ne ≤ n0 := h4
  have h5 : cells + nc ≤ R.cells := h5
  have h6 : slots + ns ≤ R.slots := h6
  have hz : (va_up al n0 · n0) = fun q => q := funext fun q => by simp [va_up]
  refine va_newa C.1 C.2.1 (by rw [hty]; exact harr _ _ hW) hty hK hR.1 hR.2.1 hS (fun q h => h) ha hn hN hb (by omega) (by omega) dg (fun q cA H1 hK1 hP hD hS1 => ?_)
  have hcA : cA = w.2.2.2 t := by
    have g1 := hra _ _ ((hK1.2 3 (cA, ty) (by simp [z_tys])).2)
    have g2 := hra _ _ ((hK.2 t _ ht).2)
    exact Option.some.inj (g1.symm.trans g2)
  subst hcA
  have hext : ∀ i, i < n0 → va_up al n0 q i = al i := z_up_old
  have k9 := kk p e R s m args below meth c H1 locs (cells + 1) (slots + N) (va_up al n0 q) ae ne ls C (hR.push (c := .inl (t, a0)) trivial hP hD)
    ⟨hS1, fun i hi => (hext i (Nat.lt_of_lt_of_le hi h4)).trans (h3 i hi), Nat.le_succ_of_le h4, by show cells + 1 + (nc - 1) ≤ _; omega, by show slots + N + (ns - N) ≤ _; omega⟩
    (z_Lv_ext (Nat.le_succ _) hext hl) (z_oc (Nat.lt_succ_self _) (fun v hv => z_ok_mono (Nat.le_succ _) (z_ot ho v hv)))
  have e1 : (Value.ref n0 :: st).map (z_v (va_up al n0 q)) = .ref q :: st.map (z_v al) := by
    rw [List.map_cons, z_st_ext hext (z_ot ho)]
    simp [z_v, va_up]
  rw [e1] at k9
  exact k9
def z_newF (w : z_W) (own : String) (idx ci N : Nat) (fs : List Value) : Prop := ∃ (C : String) (T : u_T) (ty : Nat → FieldType), vwCl[ci]? = some (C, T, N) ∧ (∀ c ∈ u_ws C T N, z_has w c) ∧ z_has w (.classLink own idx C) ∧ z_has w (.instantiable C N) ∧ z_has w (.initialized C) ∧
  (∀ k, k < N → parseFieldDescriptor (T k).2.2.1 = some (ty k)) ∧ (∀ j, j < N → defaultValue (ty j) = vp_V fs j) ∧ (∀ al : Nat → Nat, fs.map (z_v al) = fs) ∧ ∀ v ∈ fs, ∀ n, z_ok n v
theorem z_new {idx ci N : Nat} {fs : List Value} (hw : z_Wok w) (dg : decode Y.2.1 pc = .ok (.new idx, 3)) (hf : z_newF w Y.1.cls idx ci N fs) (hc1 : 1 ≤ nc) (hs1 : N ≤ ns)
    (kk : z_Ex w Y d Q (pc + 3) lv (.ref n0 :: st) (n0 + 1, va_up h n0 (.inr (ci, fs)), nc - 1, ns - N)) : z_Ex w Y d Q pc lv st (n0, h, nc, ns) := by
  intro p e R s m args below meth c H locs cells slots al ae ne ls C hR hT hl ho
  have hW := C.2.2.2.2.2.2.2.2.1
  have hK := z_K hw hW
  obtain ⟨hS, h3, h4, h5, h6⟩ := hT
  have h4 : ne ≤ n0 := h4
  have h5 : cells + nc ≤ R.cells := h5
  have h6 : slots + ns ≤ R.slots := h6
  obtain ⟨CC, TT, ty, e1, e2, e3, e4, e5, e6, e7, e8, e9⟩ := hf
  refine va_new (fs := fs) C.1 C.2.1 (fun c h => e2 c h _ _ hW) (fun _ h => h) ty e6 C.2.2.2.2.2.1 (e3 _ _ hW) (e4 _ _ hW) (e5 _ _ hW) hK hR.1 hR.2.1 hS (fun q h => h) e1 e7 (by omega) (by omega) dg (fun q H1 hP hD hS1 => ?_)
  have hext : ∀ i, i < n0 → va_up al n0 q i = al i := z_up_old
  have e10 : (Sum.inr (ci, fs) : va_E) = z_E w.2.2.2 al (.inr (ci, fs)) := by
    show _ = (Sum.inr (ci, fs.map (z_v al)) : va_E)
    rw [e8]
  rw [e10] at hP hD
  have k9 := kk p e R s m args below meth c H1 locs (cells + 1) (slots + N) (va_up al n0 q) ae ne ls C (hR.push (c := .inr (ci, fs)) (fun v hv => e9 v hv _) hP hD)
    ⟨hS1, fun i hi => (hext i (Nat.lt_of_lt_of_le hi h4)).trans (h3 i hi), Nat.le_succ_of_le h4, by show cells + 1 + (nc - 1) ≤ _; omega, by show slots + N + (ns - N) ≤ _; omega⟩
    (z_Lv_ext (Nat.le_succ _) hext hl) (z_oc (Nat.lt_succ_self _) (fun v hv => z_ok_mono (Nat.le_succ _) (ho v hv)))
  have e1 : (Value.ref n0 :: st).map (z_v (va_up al n0 q)) = .ref q :: st.map (z_v al) := by
    rw [List.map_cons, z_st_ext hext ho]
    simp [z_v, va_up]
  rw [e1] at k9
  exact k9
theorem z_objInit {idx : Nat} {u : Nat} (dg : decode Y.2.1 pc = .ok (.invokespecial idx, 3)) (h1 : z_has w (.methodLink Y.1.cls idx objectInit)) (h2 : z_has w (.instanceMethod objectInit)) (h3 : z_has w (.code objectInit ⟨#[0xb1]⟩ 1 none)) (hd : 1 ≤ d)
    (hst : ((st.map fun v => v.category).sum) ≤ 40) (kk : z_Ex w Y d Q (pc + 3) lv st M) : z_Ex w Y d Q pc lv (.ref u :: st) M := by
  intro p e R s m args below meth c H locs cells slots al ae ne ls C hR hT hl ho
  have hW := C.2.2.2.2.2.2.2.2.1
  have hF := C.2.2.2.2.2.2.2.2.2.1
  have hL := C.2.2.2.2.2.2.2.2.2.2
  have hcat : ((st.map (z_v al)).map fun v => v.category).sum = (st.map fun v => v.category).sum := by
    rw [List.map_map]; congr 1; exact List.map_congr_left (fun v _ => z_v_cat v)
  exact W.objInit C.1 C.2.1 C.2.2.2.2.2.1 (h1 _ _ hW) (h2 _ _ hW) (h3 _ _ hW) (g := F0 m pc ls (.ref (al u) :: st.map (z_v al))) rfl (by rw [C.2.2.1]; exact hl.1.1) rfl dg (by omega) (by
      show 2 * 0 + _ + 12 ≤ _
      rw [hcat]; omega) (kk p e R s m args below meth c H locs cells slots al ae ne ls C hR hT hl (z_ot ho))
end ZH
end
section
section ZC
variable {w : z_W} {Y : z_Y} {d : Nat} {Q : z_O → z_M → Prop} {pc : Nat} {lv lv' : List (Nat × Value)} {st : List Value} {M : z_M}
-- ---------- the ends
theorem z_endw {below : List Frame} {s : State} {R : Room} {ae al : Nat → Nat} {ne : Nat} {H : Heap} {locs : List Loc} {cells slots : Nat} {v : Option Value} {a : Array Value} (hR : z_Rel w al M H) (hT : z_Pt w R ae ne al M H locs cells slots) (hv : ∀ u, v = some u → z_ok M.1 u) (hq : Q (.inl v) M) :
    ∀ t, MQ below (fun _ _ o t => o = .returned (v.map (z_v al)) ∧ t.heap = H) a s cells slots (z_A w) t → z_End w below s R ae ne Q t := by
  rintro t ⟨o, h1, h2, ⟨rfl, h4⟩, L, ⟨-, hW', hs⟩, hL⟩
  exact ⟨_, h1, h2, .inl v, M, al, L, cells, slots, hq, ⟨rfl, hv⟩, by rw [h4]; exact hR, ⟨⟨by rw [h4]; exact hT.1.1, by rw [h4]; exact hT.1.2.1, hL⟩, hT.2.1, hT.2.2.1, hT.2.2.2.1, hT.2.2.2.2⟩, hW', hs⟩
theorem z_iret {v : Int32} (dg : decode Y.2.1 pc = .ok (.ireturn, 1)) (hr : Y.2.2.2.1 = some .int) (hq : Q (.inl (some (.int v))) M) : z_Ex w Y d Q pc lv [.int v] M := by
  intro p e R s m args below meth c H locs cells slots al ae ne ls C hR hT hl ho
  exact W.mono9 (z_endw (v := some (.int v)) (a := args) hR hT (fun u hu => by cases hu; trivial) hq) (W.iret C.1 C.2.1 (C.2.2.2.1.trans hr) (fun t ht _ => ⟨rfl, ht⟩) hT.1.2.2 dg C.2.2.2.2.1)
theorem z_zret {v : Int32} {ty : FieldType} (dg : decode Y.2.1 pc = .ok (.ireturn, 1)) (hr : Y.2.2.2.1 = some ty) (hn : narrow ty (.int v) = .int v) (hq : Q (.inl (some (.int v))) M) : z_Ex w Y d Q pc lv [.int v] M := by
  intro p e R s m args below meth c H locs cells slots al ae ne ls C hR hT hl ho
  exact W.mono9 (z_endw (v := some (.int v)) (a := args) hR hT (fun u hu => by cases hu; trivial) hq) (W.zret C.1 C.2.1 (C.2.2.2.1.trans hr) hn (fun t ht _ => ⟨rfl, ht⟩) hT.1.2.2 dg C.2.2.2.2.1)
theorem z_lret {v : Int64} (dg : decode Y.2.1 pc = .ok (.lreturn, 1)) (hr : Y.2.2.2.1 = some .long) (hq : Q (.inl (some (.long v))) M) : z_Ex w Y d Q pc lv [.long v] M := by
  intro p e R s m args below meth c H locs cells slots al ae ne ls C hR hT hl ho
  exact W.mono9 (z_endw (v := some (.long v)) (a := args) hR hT (fun u hu => by cases hu; trivial) hq) (W.lret C.1 C.2.1 (C.2.2.2.1.trans hr) (fun t ht _ => ⟨rfl, ht⟩) hT.1.2.2 dg C.2.2.2.2.1)
theorem z_vret (dg : decode Y.2.1 pc = .ok (.return_, 1)) (hr : Y.2.2.2.1 = none) (hq : Q (.inl none) M) : z_Ex w Y d Q pc lv [] M := by
  intro p e R s m args below meth c H locs cells slots al ae ne ls C hR hT hl ho
  exact W.mono9 (z_endw (v := none) (a := args) hR hT (fun u hu => by cases hu) hq) (W.vret C.1 C.2.1 (C.2.2.2.1.trans hr) (fun t ht _ => ⟨rfl, ht⟩) hT.1.2.2 dg C.2.2.2.2.1)
theorem z_aret {v : Value} {rt : FieldType} (dg : decode Y.2.1 pc = .ok (.areturn, 1)) (hr : Y.2.2.2.1 = some rt) (hrt : (∃ n, rt = .object n) ∨ ∃ t, rt = .array t) (hv : v = .null ∨ ∃ a, v = .ref a) (hq : Q (.inl (some v)) M) : z_Ex w Y d Q pc lv [v] M := by
  intro p e R s m args below meth c H locs cells slots al ae ne ls C hR hT hl ho
  refine W.mono9 (z_endw (v := some v) (a := args) hR hT (fun u hu => by cases hu; exact z_oh ho) hq) (W.aret C.1 C.2.1 (C.2.2.2.1.trans hr) hrt ?_ (fun t ht _ => ⟨rfl, ht⟩) hT.1.2.2 dg C.2.2.2.2.1)
  rcases hv with rfl | ⟨a, rfl⟩
  · exact Or.inl rfl
  · exact Or.inr ⟨al a, rfl⟩
-- ---------- the entry
theorem z_args_map {al : Nat → Nat} : ∀ (as : List Value) (i : Nat), lv_args i (as.map (z_v al)) = (lv_args i as).map fun q => (q.1, z_v al q.2)
  | [], _ => rfl
  | v :: vs, i => by
    show (i, z_v al v) :: lv_args (if (z_v al v).category = 2 then i + 2 else i + 1) (vs.map (z_v al)) = (i, z_v al v) :: (lv_args (if v.category = 2 then i + 2 else i + 1) vs).map _
    rw [z_v_cat, z_args_map vs]
theorem z_args_mem : ∀ (as : List Value) (i : Nat) (q : Nat × Value), q ∈ lv_args i as → q.2 ∈ as
  | [], _, q, h => by cases h
  | v :: vs, i, q, h => by
    rcases List.mem_cons.mp h with rfl | h9
    · exact List.mem_cons_self
    · exact List.mem_cons_of_mem _ (z_args_mem vs _ q h9)
theorem z_sl_len {al : Nat → Nat} : ∀ as : List Value, (lg_sl (as.map (z_v al))).length = (lg_sl as).length
  | [] => rfl
  | v :: vs => by
    have ih := z_sl_len (al := al) vs
    unfold lg_sl at ih ⊢
    rw [List.map_cons, List.flatMap_cons, List.flatMap_cons, List.length_append, List.length_append, ih, z_v_cat]
    split <;> rfl
theorem z_Cl_of {as : List Value} (hp : plainName Y.1.cls = true) (hn : (lg_sl as).length ≤ Y.2.2.1) (k : z_Ex w Y d Q 0 (lv_args 0 as) [] M) : z_Cl w Y d as M Q := by
  intro al
  refine MetFree.of_bodyS (code := Y.2.1) (maxLocals := Y.2.2.1) (ret := Y.2.2.2.1) hp ?_ ?_
  · intro args s m h hn
    obtain ⟨meth, c, h1, h2, h3, h4, h5, h6, -, -⟩ := z_cw_spec hn (atoms_spec (ws := [z_cw Y]) h _ List.mem_cons_self)
    exact ⟨meth, c, h1, h2, h3, h4, h5, h6⟩
  · intro p e s m args below meth c s₁ B hml hP _
    obtain ⟨rfl, hW, hR, hS, hok⟩ := hP
    have hh0 : s₁.heap = s.heap := by rw [B.state]; rfl
    have ht : c.exceptionTable.toList = tableOf Y.2.2.2.2 := by
      obtain ⟨meth9, c9, h1, h2, -, -, -, -, h7, -⟩ := z_cw_spec B.named (atoms_spec (ws := [z_cw Y]) B.pre _ List.mem_cons_self)
      cases Option.some.inj (h1.symm.trans B.method)
      cases Option.some.inj (h2.symm.trans (Stand.of_body B).code)
      exact h7
    have hl := lv_entry (as.map (z_v al)) (n := Y.2.2.1) (by rw [z_sl_len]; exact hn)
    rw [z_args_map] at hl
    have C : z_In w Y d p (z_room d M) s m meth c := ⟨B.exec, B.bytes, hml, B.returns, B.notSynchronized, findClass_of_methodNamed B.named, (name_of_methodNamed B.named B.method).1, ht, hW, Nat.le_refl _, Nat.le_refl _⟩
    have k9 := k p e (z_room d M) s m (as.map (z_v al)).toArray below meth c s.heap [] 0 0 al al M.1 _ C hR ⟨hS, fun _ _ => rfl, Nat.le_refl _, by show 0 + M.2.2.1 ≤ M.2.2.1; omega, by show 0 + M.2.2.2 ≤ M.2.2.2; omega⟩ ⟨hl, fun q hq => hok _ (z_args_mem as 0 q hq)⟩ (fun v h => by cases h)
    have e1 : F0 m 0 ((lg_sl (as.map (z_v al)) ++ List.replicate (Y.2.2.1 - (lg_sl (as.map (z_v al))).length) Slot.unset).toArray) (([] : List Value).map (z_v al)) = entryFrame m (as.map (z_v al)).toArray Y.2.2.1 := (lg_entry_eq m (as.map (z_v al)) Y.2.2.1).symm
    rw [e1] at k9
    obtain ⟨t, a1, o, b1, b2, b3⟩ := k9 s₁ hh0 (Stand.of_body B)
    exact ⟨t, o, a1, b1, b2, b3⟩
-- ---------- a call, either end
theorem z_back {l : Launch} {R rm : Room} {p : Program} {e : Env} {below : List Frame} {s U : State} {sargs a : Array Value} {y : z_Y} {len W9 : Nat} {m : MethodId} {meth : Method} {c : Code} {Ls : List Loc} {c0 s0 : Nat} {g : JFrame} {ig : Instr} {mk : MethodId}
    {Pc : Array Value → State → Prop} {Qf : Array Value → State → Outcome → State → Prop} {E : State → Outcome → State → List Loc → Nat → Nat → Prop}
    (hM : MetFree l y.1 (headSpec [z_cw y] rm) Pc (fun _ _ _ _ _ => True) Qf)
    (hQ : ∀ st o t, Qf a st o t → ∃ L k n, st.WarmedH t.vm ∧ st.sameButNew ({ t with vm := st.vm } : State) L k n ∧ E st o t L k n)
    (X : Stand p l e R s m sargs below meth c U Ls c0 s0) (hg : g.method = m) (hsize : g.locals.size = c.maxLocals) (hdg : decode c.code g.pc = .ok (ig, len)) (hW9 : 2 * g.monitorRoom + (g.stack.map fun v => v.category).sum ≤ W9) (hn : U.methodNamed? y.1 = some mk)
    (hframes : rm.frames + 1 ≤ R.frames) (hlocals : W9 + (y.2.2.1 + 11) + rm.locals ≤ R.locals) (h2 : (z_cw y).before a U = true) (h3 : (Cond.initialized y.1.cls).before a U = true) (h4 : c0 + rm.cells ≤ R.cells) (h5 : s0 + rm.slots ≤ R.slots)
    (hP : Pc a (U.calling g mk a)) :
    ∃ (o : Outcome) (t : State) (L : List Loc) (k n : Nat) (B : State), E (U.calling g mk a) o t L k n ∧ Stand p l e R s m sargs below meth c B (Ls ++ L) (c0 + k) (s0 + n) ∧ B.heap = t.heap ∧ B.vm = t.vm ∧
      ((∃ v, o = .returned v ∧ Steps p.tables e below (doInvoke e (U.setTop g) [] mk a).1 (B.setTop { g with pc := g.pc + len, stack := v.toList ++ g.stack })) ∨
       ∃ q, o = .threw q ∧ Steps p.tables e below (doInvoke e (U.setTop g) [] mk a).1 ((B.setTop g).pushFrame (.throwing q))) := by
  have h1 : (headSpec [z_cw y] rm).pre.before a U = true := atoms_intro fun z hz => by
    rcases List.mem_cons.mp hz with rfl | h
    · exact h2
    · cases h
  obtain ⟨methY, cY, hmY, hcY, -, hlY, -, -, -, -⟩ := z_cw_spec hn h2
  obtain ⟨kY, hkY, -⟩ := className_of_methodNamed hn
  have hinitY : kY.init = .initialized := Cond.initialized_spec (findClass_of_methodNamed hn) hkY h3
  have h : At U g.method c below := by rw [hg]; exact X.here
  have hl9 : W9 + (y.2.2.1 + 11) + (headSpec [z_cw y] rm).room.locals ≤ R.locals := hlocals
  have happ : (headSpec [z_cw y] rm).appliesLoose y.1 e.platform (U.calling g mk a) = true :=
    Spec.appliesLoose_calling (g := g) h hdg hn hkY hinitY (X.room_calling (g := g) (R' := (headSpec [z_cw y] rm).room) hsize hmY hcY hframes (by rw [hlY]; omega) h4 h5) h1
  obtain ⟨mid, hmid⟩ := h.above
  have hfr : (U.setTop g).frames = (.java g :: mid) ++ below := by rw [State.frames_setTop' g h.top, hmid]; rfl
  obtain ⟨o, t, hsteps, -, hend, hq⟩ := Steps.callFree hM p X.admits X.cas X.clock (acts := []) hfr happ hP trivial
  rw [State.frames_setTop' g h.top] at hend
  obtain ⟨g₀, hg0⟩ := Option.isSome_iff_exists.mp h.top
  obtain ⟨r, hr⟩ := State.topJava?_eq_some.mp hg0
  have hq' : Qf a (U.calling g mk a) o t := hq
  obtain ⟨L, k, n, hWt, hsm, hE⟩ := hQ _ _ _ hq'
  have hW' : U.WarmedH t.vm := hWt
  have hr' : (({ U with heap := t.heap, slotsUsed := t.slotsUsed } : State).setVm t.vm).frames = .java g₀ :: r := hr
  obtain ⟨e2, q2, q3, q4, q5, q6⟩ := id hsm
  have e3 : t = ({ (U.calling g mk a).setFrames t.frames with heap := t.heap, slotsUsed := t.slotsUsed } : State).setVm t.vm := by
    have e4 : t = ({ t with vm := (U.calling g mk a).vm } : State).setVm t.vm := rfl
    rw [e2] at e4
    exact e4
  have hsame : U.sameButNew ({ U with heap := t.heap, slotsUsed := t.slotsUsed } : State) L k n := by
    refine ⟨?_, q2, q3, q4, q5, q6⟩
    obtain ⟨t9, ht9, -⟩ := State.frames_cons hr
    show ({ U with heap := t.heap, slotsUsed := t.slotsUsed } : State) = { U.setFrames U.frames with heap := t.heap, slotsUsed := t.slotsUsed }
    rw [State.setFrames_self ht9]
  have XB : Stand p l e R s m sargs below meth c (({ U with heap := t.heap, slotsUsed := t.slotsUsed } : State).setVm t.vm) (Ls ++ L) (c0 + k) (s0 + n) :=
    ⟨X.admits, X.cas, X.clock, X.frames, X.room, X.hears, X.method, X.code, (X.here.setHeapUsed t.heap t.slotsUsed).setVm hW'.alike, X.tail, State.WarmedH.trans X.warmed hW', X.limits, X.bytes, X.same.trans (hsame.setVm s.vm)⟩
  refine ⟨o, t, L, k, n, _, hE, XB, rfl, rfl, ?_⟩
  cases o with
  | returned v =>
    refine Or.inl ⟨v, rfl, ?_⟩
    obtain ⟨c₂, i₂, len₂, hc₂, hd₂, hf₂⟩ := hend
    have hcc : c₂ = c := by
      have h9 : t.code? g.method = U.code? g.method := by
        rw [State.code?_eq, State.code?_eq, hW'.alike.method?]
      exact Option.some.inj (hc₂.symm.trans (h9.trans h.code))
    subst hcc
    have hlen : len₂ = len := by rw [hdg] at hd₂; cases hd₂; rfl
    subst hlen
    have hs₂ : t = (({ U with heap := t.heap, slotsUsed := t.slotsUsed } : State).setVm t.vm).setTop { g with pc := g.pc + len₂, stack := v.toList ++ g.stack } := by
      refine e3.trans ?_
      rw [hf₂, State.calling_eq h.top, State.setFrames_setFrames, State.setTop_of_frames _ hr', hr]
      rfl
    rw [← hs₂]
    exact hsteps
  | threw q =>
    refine Or.inr ⟨q, rfl, ?_⟩
    have hf₂ : t.frames = .throwing q :: .java g :: U.frames.tail := hend
    have hs₂ : t = ((({ U with heap := t.heap, slotsUsed := t.slotsUsed } : State).setVm t.vm).setTop g).pushFrame (.throwing q) := by
      refine e3.trans ?_
      rw [hf₂, State.calling_eq h.top, State.setFrames_setFrames, State.pushFrame, State.frames_setTop _ hr', State.setTop_of_frames _ hr', State.setFrames_setFrames, hr]
      rfl
    rw [← hs₂]
    exact hsteps
/-- a site: the instruction at pc goes to y, with the arguments as (the receiver first), leaving rest -/
def z_site (w : z_W) (Y : z_Y) (pc : Nat) (y : z_Y) (oc : Option String) (as : List Value) : Prop :=
  ∀ {p : Program} {e : Env} {R : Room} {s : State} {m : MethodId} {args : Array Value} {below : List Frame} {meth : Method} {c : Code} {T : State} {locs : List Loc} {cells slots : Nat} (ls : Array Slot) (al : Nat → Nat) (rest : List Value),
    Stand p w.1 e R s m args below meth c T locs cells slots → p.tables.exec = Jvm.exec → c.code = Y.2.1 → s.vm.findClass Y.1.cls = some m.cls → w.2.1.WarmedH s.vm →
    (∀ C, oc = some C → ∃ (i : Nat) (cell : Cell), as.head? = some (.ref i) ∧ T.heap[al i]? = some cell ∧ cell.vm.isStatics = false ∧ s.vm.findClass C = some cell.cls) →
    ∃ (vm₁ : Vm) (mk : MethodId) (ig : Instr), decode c.code pc = .ok (ig, 3) ∧ s.WarmedH vm₁ ∧ s.methodNamed? y.1 = some mk ∧
      ∀ target, (∀ acts, Steps p.tables e below (doInvoke e ((T.setVm vm₁).setTop (F0 m pc ls rest)) acts mk (as.map (z_v al)).toArray).1 target) → Steps p.tables e below (T.setTop (F0 m pc ls ((as.reverse).map (z_v al) ++ rest))) target
def z_np (y : MethodName) (n : Nat) : Prop := y.cls ≠ "java/lang/invoke/MethodHandle" ∧ y.cls ≠ "java/lang/invoke/VarHandle" ∧ (parseMethodDescriptor y.desc).map (fun d => d.parameters.length) = some n
theorem z_np_len {y : MethodName} {n : Nat} (h : z_np y n) (sig) (hs : parseMethodDescriptor y.desc = some sig) : n = sig.parameters.length := by
  have h2 := h.2.2
  rw [hs] at h2
  exact (Option.some.inj h2).symm
theorem z_cw_named {Y : z_Y} {s : State} {a : Array Value} (h : (z_cw Y).before a s = true) : ∃ m, s.methodNamed? Y.1 = some m := by
  unfold z_cw at h
  split at h
  · exact Cond.code_named h
  · obtain ⟨m9, meth, c, hn9, -⟩ := Cond.codeWith_spec h
    exact ⟨m9, hn9⟩
theorem z_siteV {y : z_Y} {idx n i : Nat} {C : String} {as : List Value} (hdg : decode Y.2.1 pc = .ok (.invokevirtual idx, 3)) (hp : z_np y.1 n) (hlen : as.length = n)
    (h1 : z_has w (.methodLink Y.1.cls idx y.1) ∨ ∃ host, z_has w (.methodLinkNest Y.1.cls idx y.1 host)) (h2 : z_has w (.instanceMethod y.1)) (h3 : z_has w (.selects C y.1 y.1)) (h4 : z_has w (z_cw y)) : z_site w Y pc y (some C) (.ref i :: as) := by
  intro p e R s m args below meth c T locs cells slots ls al rest X hexec hb hown hW hrc
  obtain ⟨i9, cellB, e1, hcell, hobj, hcls⟩ := hrc C rfl
  cases e1
  obtain ⟨mk, methM, hnamed, hmethM, hstM, habM⟩ := Cond.instanceMethod_spec (h2 args s hW)
  obtain ⟨methM', cM, hmethM', -, -, -, -, -, -, hsigM⟩ := z_cw_spec hnamed (h4 args s hW)
  cases hmethM.symm.trans hmethM'
  obtain ⟨c2, r2, m2, q1, q2, q3, q4, kP, hkP, hkPi⟩ := Cond.selects_spec (h3 args s hW)
  cases hcls.symm.trans q1
  cases (State.methodFound?_of_named hnamed ⟨hp.1, hp.2.1⟩).symm.trans q2
  cases hnamed.symm.trans q3
  have hselP : selectMethod e.platform s.vm cellB.cls mk = .method mk := by rw [Launch.admits_selectMethod X.admits]; exact q4
  have hst : (F0 m pc ls (((Value.ref i :: as).reverse).map (z_v al) ++ rest)).stack = (as.map (z_v al)).reverse ++ .ref (al i) :: rest := by
    show ((Value.ref i :: as).reverse).map (z_v al) ++ rest = _
    rw [List.map_reverse, List.map_cons, List.reverse_cons, List.append_assoc]
    rfl
  have hl9 : (as.map (z_v al)).length = methM.sig.parameters.length := by rw [List.length_map, hlen]; exact z_np_len hp _ hsigM
  rcases h1 with h1 | ⟨host, h1⟩
  · obtain ⟨vm₁, X₁, hstep₁⟩ := X.invokevirtual hexec hown (h1 args s hW) hnamed hmethM hstM hkP hkPi ⟨hp.1, hp.2.1⟩ (a := al i) (cell := cellB) hcell
      (fun z h => by rw [h] at hobj; cases hobj) hselP hmethM habM hkP hkPi (g := F0 m pc ls (((Value.ref i :: as).reverse).map (z_v al) ++ rest)) rfl (argsL := as.map (z_v al)) (rest := rest) hl9 hst (by rw [hb]; exact hdg)
    exact ⟨vm₁, mk, _, by rw [hb]; exact hdg, X₁.warmed, hnamed, hstep₁⟩
  · obtain ⟨vm₁, X₁, hstep₁⟩ := X.invokevirtualNest hexec hown (h1 args s hW) hnamed hmethM hstM hkP hkPi ⟨hp.1, hp.2.1⟩ (a := al i) (cell := cellB) hcell
      (fun z h => by rw [h] at hobj; cases hobj) hselP hmethM habM hkP hkPi (g := F0 m pc ls (((Value.ref i :: as).reverse).map (z_v al) ++ rest)) rfl (argsL := as.map (z_v al)) (rest := rest) hl9 hst (by rw [hb]; exact hdg)
    exact ⟨vm₁, mk, _, by rw [hb]; exact hdg, X₁.warmed, hnamed, hstep₁⟩
theorem z_siteS {y : z_Y} {idx n : Nat} {as : List Value} (hdg : decode Y.2.1 pc = .ok (.invokestatic idx, 3)) (hp : z_np y.1 n) (hlen : as.length = n)
    (h1 : z_has w (.methodLink Y.1.cls idx y.1) ∨ ∃ host, z_has w (.methodLinkNest Y.1.cls idx y.1 host)) (h2 : z_has w (.static y.1)) (h3 : z_has w (.initialized y.1.cls)) (h4 : z_has w (z_cw y)) : z_site w Y pc y none as := by
  intro p e R s m args below meth c T locs cells slots ls al rest X hexec hb hown hW hrc
  obtain ⟨mk, hnamed⟩ := z_cw_named (h4 args s hW)
  obtain ⟨methM, cM, hmethM, -, -, -, -, -, -, hsigM⟩ := z_cw_spec hnamed (h4 args s hW)
  have hstatic : methM.isStatic = true := Cond.static_spec hnamed hmethM (h2 args s hW)
  obtain ⟨kP, hkP, -⟩ := className_of_methodNamed hnamed
  have hinitP : kP.init = .initialized := Cond.initialized_spec (findClass_of_methodNamed hnamed) hkP (h3 args s hW)
  have hst : (F0 m pc ls ((as.reverse).map (z_v al) ++ rest)).stack = (as.map (z_v al)).reverse ++ rest := by
    show (as.reverse).map (z_v al) ++ rest = _
    rw [List.map_reverse]
  have hl9 : (as.map (z_v al)).length = methM.sig.parameters.length := by rw [List.length_map, hlen]; exact z_np_len hp _ hsigM
  rcases h1 with h1 | ⟨host, h1⟩
  · obtain ⟨vm₁, X₁, hstep₁⟩ := X.invokestatic hexec hown (h1 args s hW) hnamed hmethM hstatic hkP hinitP ⟨hp.1, hp.2.1⟩ (g := F0 m pc ls ((as.reverse).map (z_v al) ++ rest)) rfl (argsL := as.map (z_v al)) (rest := rest) hl9 hst (by rw [hb]; exact hdg)
    exact ⟨vm₁, mk, _, by rw [hb]; exact hdg, X₁.warmed, hnamed, hstep₁⟩
  · obtain ⟨vm₁, X₁, hstep₁⟩ := X.invokestaticNest hexec hown (h1 args s hW) hnamed hmethM hstatic hkP hinitP ⟨hp.1, hp.2.1⟩ (g := F0 m pc ls ((as.reverse).map (z_v al) ++ rest)) rfl (argsL := as.map (z_v al)) (rest := rest) hl9 hst (by rw [hb]; exact hdg)
    exact ⟨vm₁, mk, _, by rw [hb]; exact hdg, X₁.warmed, hnamed, hstep₁⟩
theorem z_siteI {y : z_Y} {idx n i : Nat} {as : List Value} (hdg : decode Y.2.1 pc = .ok (.invokespecial idx, 3)) (hp : z_np y.1 n) (hlen : as.length = n) (hy1 : y.1.name = "<init>") (hy2 : y.2.2.2.1 = none) (hy3 : y.2.2.2.2 = [])
    (h1 : z_has w (.methodLink Y.1.cls idx y.1) ∨ ∃ host, z_has w (.methodLinkNest Y.1.cls idx y.1 host)) (h2 : z_has w (.instanceMethod y.1)) (h4 : z_has w (z_cw y)) : z_site w Y pc y none (.ref i :: as) := by
  intro p e R s m args below meth c T locs cells slots ls al rest X hexec hb hown hW hrc
  have hpl : e.platform.magicAccessors = ({} : Platform).magicAccessors := by rw [X.admits.platform]
  have hst : (F0 m pc ls (((Value.ref i :: as).reverse).map (z_v al) ++ rest)).stack = (as.map (z_v al)).reverse ++ .ref (al i) :: rest := by
    show ((Value.ref i :: as).reverse).map (z_v al) ++ rest = _
    rw [List.map_reverse, List.map_cons, List.reverse_cons, List.append_assoc]
    rfl
  have hl9 : ∀ sig, parseMethodDescriptor y.1.desc = some sig → (as.map (z_v al)).length = sig.parameters.length := fun sig hs => by rw [List.length_map, hlen]; exact z_np_len hp _ hs
  have h4 : z_has w (.code y.1 y.2.1 y.2.2.1 none) := fun A U hU => by
    have h9 := h4 A U hU
    unfold z_cw at h9
    rw [if_pos hy3, hy2] at h9
    exact h9
  rcases h1 with h1 | ⟨host, h1⟩
  · obtain ⟨mk, methM, cM, kP, vm₁, hnamed, -, -, -, -, -, -, -, hW₁, hstep₁⟩ := Steps.initColdArgs (e := e) X.here hexec X.warmed hpl hown hy1 ⟨hp.1, hp.2.1⟩ (h1 args s hW) (h2 args s hW) (h4 args s hW) (f := F0 m pc ls (((Value.ref i :: as).reverse).map (z_v al) ++ rest)) rfl hl9 hst (by rw [hb]; exact hdg)
    exact ⟨vm₁, mk, _, by rw [hb]; exact hdg, hW₁, hnamed, hstep₁⟩
  · obtain ⟨mk, methM, cM, kP, vm₁, hnamed, -, -, -, -, -, -, -, hW₁, hstep₁⟩ := Steps.initColdArgsNest (e := e) X.here hexec X.warmed hpl hown hy1 ⟨hp.1, hp.2.1⟩ (h1 args s hW) (h2 args s hW) (h4 args s hW) (f := F0 m pc ls (((Value.ref i :: as).reverse).map (z_v al) ++ rest)) rfl hl9 hst (by rw [hb]; exact hdg)
    exact ⟨vm₁, mk, _, by rw [hb]; exact hdg, hW₁, hnamed, hstep₁⟩
/-- a call: behind it, or out with what was thrown -/
theorem z_call {y : z_Y} {oc : Option String} {d' : Nat} {as st0 : List Value} {Q' : z_O → z_M → Prop} (hw : z_Wok w) (hnt : Y.2.2.2.2 = []) (hsite : z_site w Y pc y oc as) (hst : as.reverse ++ st = st0) (hcl : z_Cl w y d' as M Q') (hd : d' + 1 ≤ d)
    (hrc : ∀ C, oc = some C → ∃ (i ci : Nat) (fs : List Value) (q : vw_C), as.head? = some (.ref i) ∧ 2 ≤ i ∧ M.2.1 i = .inr (ci, fs) ∧ vwCl[ci]? = some q ∧ q.1 = C)
    (h4 : z_has w (z_cw y)) (h5 : z_has w (.initialized y.1.cls)) (hwords : (st.map fun v => v.category).sum + y.2.2.1 ≤ 50)
    (k1 : ∀ v M', Q' (.inl v) M' → z_Ex w Y d Q (pc + 3) lv (v.toList ++ st) M') (k2 : ∀ k M', Q' (.inr k) M' → Q (.inr k) M') : z_Ex w Y d Q pc lv st0 M := by
  subst hst
  intro p e R s m args below meth c H locs cells slots al ae ne ls C hR hT hl ho T hTH X
  obtain ⟨hx, hb, hml, hret, hlocks, hown, hname, htab, hW, hF, hL⟩ := id C
  obtain ⟨hS, hae, hne, hcc, hss⟩ := id hT
  have hoas : ∀ v ∈ as, z_ok M.1 v := fun v hv => ho v (List.mem_append_left _ (List.mem_reverse.mpr hv))
  have host : ∀ v ∈ st, z_ok M.1 v := fun v hv => ho v (List.mem_append_right _ hv)
  have hrc' : ∀ C9, oc = some C9 → ∃ (i : Nat) (cell : Cell), as.head? = some (.ref i) ∧ T.heap[al i]? = some cell ∧ cell.vm.isStatics = false ∧ s.vm.findClass C9 = some cell.cls := by
    intro C9 h9
    obtain ⟨i, ci, fs, q, e1, e2, e3, e4, e5⟩ := hrc C9 h9
    have hi : i < M.1 := by
      have h8 : (Value.ref i) ∈ as := by
        cases as with
        | nil => cases e1
        | cons z zs => cases e1; exact List.mem_cons_self
      exact hoas _ h8
    obtain ⟨r, g1, cell, g2, g3, g4, -⟩ := hR.1 _ _ (z_at_obj hR e2 hi e3)
    have hr9 : r = q := Option.some.inj (g1.symm.trans e4)
    subst hr9
    obtain ⟨-, hfc, -⟩ := (z_K hw hW).1 ci _ e4
    refine ⟨i, cell, e1, by rw [hTH]; exact g2, by rw [g4]; rfl, ?_⟩
    rw [← e5, g3]
    exact hfc
  obtain ⟨vm₁, mk, ig, hdg, hW₁, hnamed, hstep⟩ := hsite ls al (st.map (z_v al)) X hx hb hown hW hrc'
  have X₁ := X.noted hW₁
  have hcat : ((st.map (z_v al)).map fun v => v.category).sum = (st.map fun v => v.category).sum := by
    rw [List.map_map]; congr 1; exact List.map_congr_left (fun v _ => z_v_cat v)
  have hWU : w.2.1.WarmedH (T.setVm vm₁).vm := State.WarmedH.trans hW hW₁
  obtain ⟨o, t, L, k, n, B, hE, XB, hBh, hBv, hout⟩ := z_back (W9 := (st.map fun v => v.category).sum) (Ls := locs) (c0 := cells) (s0 := slots) (a := (as.map (z_v al)).toArray) (E := fun st9 o t L k n => ∃ (out : z_O) (M' : z_M) (al' : Nat → Nat), Q' out M' ∧ z_Out w al' M'.1 out o t ∧ z_Rel w al' M' t.heap ∧ z_Pt w (z_room d' M) al M.1 al' M' t.heap L k n)
    (hcl al) (fun st9 o t h9 => by
      obtain ⟨out, M', al', L, k, n, h1, h2, h3, h4, h5, h6⟩ := h9
      exact ⟨L, k, n, h5, h6, out, M', al', h1, h2, h3, h4⟩)
    X₁ (g := F0 m pc ls (st.map (z_v al))) rfl (by rw [hml]; exact hl.1.1) hdg (by
      show 2 * 0 + _ ≤ _
      rw [hcat]; omega) (mk := mk) (X₁.named hnamed) (by show d' + 1 ≤ R.frames; omega) (by show _ + 64 * d' ≤ _; omega) (h4 _ _ hWU) (h5 _ _ hWU) (by show cells + M.2.2.1 ≤ _; exact hcc) (by show slots + M.2.2.2 ≤ _; exact hss)
    ⟨rfl, hWU, by show z_Rel w al M T.heap; rw [hTH]; exact hR, by show va_S (z_A w) w.2.1.heap T.heap []; rw [hTH]; exact ⟨hS.1, hS.2.1, fun _ h => by cases h⟩, hoas⟩
  obtain ⟨out, M', al', hq', ho', hR', hS', hae', hne', hcc', hss'⟩ := hE
  have hT' : z_Pt w R ae ne al' M' B.heap (locs ++ L) (cells + k) (slots + n) := by
    refine ⟨⟨by rw [hBh]; exact hS'.1, by rw [hBh]; exact hS'.2.1, fun z hz => (List.mem_append.mp hz).elim (hS.2.2 z) (hS'.2.2 z)⟩, fun i hi => (hae' i (Nat.lt_of_lt_of_le hi hne)).trans (hae i hi), Nat.le_trans hne hne', ?_, ?_⟩
    · have h9 : k + M'.2.2.1 ≤ M.2.2.1 := hcc'
      omega
    · have h9 : n + M'.2.2.2 ≤ M.2.2.2 := hss'
      omega
  have hRB : z_Rel w al' M' B.heap := by rw [hBh]; exact hR'
  have hstE : st.map (z_v al') = st.map (z_v al) := z_st_ext hae' host
  have hjoin : ((as.reverse ++ st).map (z_v al)) = (as.reverse).map (z_v al) ++ st.map (z_v al) := List.map_append
  rw [hjoin]
  rcases hout with ⟨v, rfl, hs⟩ | ⟨q, rfl, hs⟩
  · cases out with
    | inr k9 =>
      obtain ⟨_, _, h9, -⟩ := ho'
      cases h9
    | inl v9 =>
      obtain ⟨h9, hok9⟩ := ho'
      cases h9
      have k9 := k1 v9 M' hq' p e R s m args below meth c B.heap (locs ++ L) (cells + k) (slots + n) al' ae ne ls C hRB hT' (z_Lv_ext hne' hae' hl) (fun u hu => by
        rcases List.mem_append.mp hu with h | h
        · exact hok9 u (by cases v9 with
            | none => cases h
            | some z => rcases List.mem_cons.mp h with rfl | h'; rfl; cases h')
        · exact z_ok_mono hne' (host u h)) B rfl XB
      obtain ⟨t2, a1, b1⟩ := k9
      refine ⟨t2, hstep _ (fun acts => ?_), b1⟩
      rw [doInvoke_state]
      refine hs.trans ?_
      have e9 : ((v9.map (z_v al')).toList ++ st.map (z_v al)) = ((v9.toList ++ st).map (z_v al')) := by
        rw [List.map_append, hstE]
        cases v9 <;> rfl
      show Steps p.tables e below (B.setTop (F0 m (pc + 3) ls ((v9.map (z_v al')).toList ++ st.map (z_v al)))) t2
      rw [e9]
      exact a1
  · cases out with
    | inl v9 =>
      obtain ⟨h9, -⟩ := ho'
      cases h9
    | inr k9 =>
      obtain ⟨q9, ce, h9, hce, hcv, hcl9⟩ := ho'
      cases h9
      obtain ⟨st1, hrun, hend, hWt, hsm⟩ := XB.leaveThrown q (g := F0 m pc ls (st.map (z_v al))) rfl rfl rfl (fun z hz => by rw [htab, hnt] at hz; cases hz) hlocks
      refine ⟨_, (hstep _ (fun acts => by rw [doInvoke_state]; exact hs)).trans st1, .threw q, hrun, hend, .inr k9, M', al', locs ++ L, cells + k, slots + n, k2 k9 M' hq', ⟨q, ce, rfl, ?_, hcv, hcl9⟩, ?_, ?_, hWt, hsm⟩
      · show B.heap[q]? = some ce
        rw [hBh]; exact hce
      · show z_Rel w al' M' B.heap
        exact hRB
      · exact hT'
end ZC
end
section
section ZT
variable {w : z_W} {Y : z_Y} {d : Nat} {Q : z_O → z_M → Prop} {pc : Nat} {lv lv' : List (Nat × Value)} {st : List Value} {M : z_M} {n0 : Nat} {h : Nat → va_E} {nc ns : Nat}
/-- a word that holds wherever the run can be, the first heap's cells being as they were -/
def z_hasH (w : z_W) (c : Cond) : Prop := ∀ (A : Array Value) (U : State), w.2.1.WarmedH U.vm → (∀ q : Nat, q < w.2.1.heap.size → U.heap[q]? = w.2.1.heap[q]?) → c.before A U = true
theorem z_hasH_of {c : Cond} (h9 : z_has w c) : z_hasH w c := fun A U hW _ => h9 A U hW
/-- the same body, as if it began in the heap as it is now -/
theorem z_anew {p : Program} {l : Launch} {e : Env} {R : Room} {s : State} {m : MethodId} {args : Array Value} {below : List Frame} {meth : Method} {c : Code} {T : State} {locs : List Loc} {cells slots : Nat}
    (X : Stand p l e R s m args below meth c T locs cells slots) (a b : Nat) (hc : cells + a ≤ R.cells) (hs : slots + b ≤ R.slots) :
    Stand p l e { frames := R.frames, locals := R.locals, cells := a, slots := b } ((T.setVm s.vm).setFrames (.invoking m args :: below)) m args below meth c T [] 0 0 := by
  have htop : (T.setVm s.vm).topJava?.isSome := X.here.top
  obtain ⟨g₀, hg0⟩ := Option.isSome_iff_exists.mp htop
  obtain ⟨r, hr⟩ := State.topJava?_eq_some.mp hg0
  have hF : ((T.setVm s.vm).setFrames (.invoking m args :: below)).frames = .invoking m args :: below := State.frames_setFrames _ (State.cur_lt_of_top htop)
  have hlim : e.platform.stackLimits (T.setVm s.vm).me = e.platform.stackLimits s.me := X.limits
  have hbyt : (T.setVm s.vm).me.stackBytes = s.me.stackBytes := X.bytes
  have hroom : ((T.setVm s.vm).setFrames (.invoking m args :: below)).hasRoom e.platform { frames := R.frames, locals := R.locals, cells := a, slots := b } = true := by
    have hr0 := X.room
    have hU : ((T.setVm s.vm).setFrames (.invoking m args :: below)).localsInUse = s.localsInUse := by
      rw [State.localsInUse_invoking hF (meth := meth) (c := c) X.method X.code, State.localsInUse_invoking X.frames X.method X.code]
    have q1 := X.heapSize
    have q2 := X.used
    simp only [State.hasRoom, Bool.and_eq_true, decide_eq_true_eq] at hr0 ⊢
    obtain ⟨⟨⟨⟨h1, h2, h3, h4, h5, h6⟩, h7⟩, h8⟩, h9⟩ := hr0
    rw [X.frames, List.length_cons] at h2 h3
    simp only [hF, hU, List.length_cons, State.stackLimits_setFrames, State.stackBytes_setFrames, hlim, hbyt]
    have z1 : ((T.setVm s.vm).setFrames (.invoking m args :: below)).heap.size = T.heap.size := rfl
    have z2 : ((T.setVm s.vm).setFrames (.invoking m args :: below)).slotsUsed = T.slotsUsed := rfl
    rw [z1, z2]
    exact ⟨⟨⟨⟨h1, h2, h3, h4, h5, h6⟩, by omega⟩, by omega⟩, X.book⟩
  have hnil : (T.heap.toList.drop T.heap.size).map (fun z : Cell => z.slots.size) = [] := by
    rw [List.drop_eq_nil_of_le (Nat.le_of_eq Array.length_toList)]; rfl
  refine ⟨X.admits, X.cas, X.clock, hF, hroom, X.hears, X.method, X.code, X.here, X.tail, X.warmed, by rw [State.stackLimits_setFrames]; rfl, by rw [State.stackBytes_setFrames]; rfl, ?_, Nat.le_refl _, Nat.le_refl _, ?_, ?_, fun a9 c9 h9 => ⟨c9, h9, rfl, rfl, fun _ _ => rfl⟩⟩
  · obtain ⟨t, ht, -⟩ := State.frames_cons hr
    show T.setVm s.vm = { ((T.setVm s.vm).setFrames (.invoking m args :: below)).setFrames (T.setVm s.vm).frames with heap := T.heap, slotsUsed := T.slotsUsed }
    rw [State.setFrames_setFrames, State.setFrames_self ht]
    rfl
  · show T.slotsUsed = T.slotsUsed + ((T.heap.toList.drop T.heap.size).map (fun z : Cell => z.slots.size)).sum
    rw [hnil]; rfl
  · show ((T.heap.toList.drop T.heap.size).map (fun z : Cell => z.slots.size)).sum ≤ 0
    rw [hnil]; exact Nat.le_refl _
/-- what 'throw new E()' links -/
def z_thrF (w : z_W) (own : String) (ik ic k : Nat) (names : List String) : Prop :=
  Bundle.fit (z_exc k) = true ∧ (∀ n ∈ names, Bundle.fit n = true) ∧ z_has w (.classLink own ik (z_exc k)) ∧ z_has w (.initialized (z_exc k)) ∧ ∀ c ∈ Bundle.ownAtoms0 own ic (z_exc k) names, z_hasH w c
theorem z_throw {ik ic k : Nat} {names : List String} (hnt : Y.2.2.2.2 = []) (htr : w.1.stackTraces = false) (hf : z_thrF w Y.1.cls ik ic k names)
    (d0 : decode Y.2.1 pc = .ok (.new ik, 3)) (d3 : decode Y.2.1 (pc + 3) = .ok (.dup, 1)) (d4 : decode Y.2.1 (pc + 4) = .ok (.invokespecial ic, 3)) (d7 : decode Y.2.1 (pc + 7) = .ok (.athrow, 1))
    (hd : names.length + 5 ≤ d) (hst : (st.map fun v => v.category).sum ≤ 40) (hc1 : 1 ≤ nc) (hs1 : 6 ≤ ns) (hq : Q (.inr k) (n0, h, nc - 1, ns - 6)) : z_Ex w Y d Q pc lv st (n0, h, nc, ns) := by
  intro p e R s m args below meth c H locs cells slots al ae ne ls C hR hT hl ho T hTH X
  obtain ⟨hx, hb, hml, hret, hlocks, hown, hname, htab, hW, hF, hL⟩ := id C
  obtain ⟨hS, hae, hne, hcc, hss⟩ := id hT
  obtain ⟨f1, f2, f3, f4, f5⟩ := hf
  have htr' : e.platform.stackTraces = false := (show e.platform.stackTraces = w.1.stackTraces by rw [X.admits.platform]).trans htr
  have hcc9 : cells + nc ≤ R.cells := hcc
  have hss9 : slots + ns ≤ R.slots := hss
  have Z := z_anew X 1 6 (by omega) (by omega)
  generalize hs' : (T.setVm s.vm).setFrames (.invoking m args :: below) = s' at Z
  have hvm : s'.vm = s.vm := by rw [← hs']; rfl
  have hhp : s'.heap = H := by rw [← hs']; exact hTH
  have hW' : w.2.1.WarmedH s'.vm := by rw [hvm]; exact hW
  have hold : ∀ q : Nat, q < w.2.1.heap.size → s'.heap[q]? = w.2.1.heap[q]? := fun q hq9 => by rw [hhp]; exact hS.2.1 q hq9 (fun h9 => Nat.not_lt.mpr h9 hq9)
  have hat : ∀ c ∈ Bundle.ownAtoms0 Y.1.cls ic (z_exc k) names, c.before args s' = true := fun c hc => f5 c hc args s' hW' hold
  have hown' : s'.vm.findClass Y.1.cls = some m.cls := by rw [hvm]; exact hown
  have hins : (Cond.instantiable (z_exc k) 6).before args s' = true := hat _ (by simp [Bundle.ownAtoms0])
  obtain ⟨vm₁, cX, kX, hfX, hkX, -, -, X₁, st1⟩ := Z.newCold hx (own := Y.1.cls) (C := z_exc k) (index := ik) (n := 6) hown' (f3 _ _ hW') hins (f4 _ _ hW') (g := F0 m pc ls (st.map (z_v al))) rfl (by rw [hb]; exact d0) (Nat.le_refl _) (Nat.le_refl _)
  generalize hT1 : (T.setVm vm₁).pushCell { cls := cX, slots := kX.instanceTypes.map defaultValue, vm := .none } = T1 at X₁ st1
  have hcellA : T1.heap[T.heap.size]? = some (freshCell cX kX) := by rw [← hT1]; exact State.heap_pushCell_size _ _
  have d3' : decode c.code (pc + 3) = .ok (.dup, 1) := by rw [hb]; exact d3
  have hcat : ((st.map (z_v al)).map fun v => v.category).sum = (st.map fun v => v.category).sum := by
    rw [List.map_map]; congr 1; exact List.map_congr_left (fun v _ => z_v_cat v)
  have hc1' : (Value.ref T.heap.size).category = 1 := rfl
  obtain ⟨U, hsteps, hrun, hend, hWU, hsame, ce, hce, hO⟩ := X₁.ctorThrow0 hx htr' (own := Y.1.cls) (cls := z_exc k) (names := names) (ic := ic) hown' f1 f2 hat (fun z hz => by cases hz) hfX hkX hcellA (by rw [hhp, hTH]; exact Nat.le_refl _)
    (g := F0 m (pc + 4) ls (.ref T.heap.size :: .ref T.heap.size :: st.map (z_v al))) rfl (by rw [hml]; exact hl.1.1) rfl rfl (rest := st.map (z_v al)) rfl (by rw [hb]; exact d4) (by rw [hb]; exact d7) (fun z hz => by rw [htab, hnt] at hz; cases hz)
    (by show names.length + 3 < R.frames; omega) (by
      show 2 * 0 + _ + _ ≤ R.locals
      simp only [List.map_cons, List.sum_cons, hc1', hcat]
      omega) hlocks
  have hkept : ∀ q : Nat, q < H.size → U.heap[q]? = H[q]? := by
    intro q hq9
    rw [← hhp] at hq9 ⊢
    obtain ⟨c9, e1, e2, e3, e4⟩ := hsame.2.2.2.2.2 q _ (Array.getElem?_eq_getElem hq9)
    have hsl : c9.slots = (s'.heap[q]).slots := Array.ext_getElem? fun i => e4 i (fun hm => by cases hm)
    have h9 : c9 = s'.heap[q] := by rw [hsl] at e2; exact e2
    have e5 : U.heap[q]? = some c9 := e1
    rw [e5, h9, Array.getElem?_eq_getElem hq9]
  have hsz : H.size ≤ U.heap.size := by rw [← hhp]; exact hsame.2.1
  have hWs : s.WarmedH U.vm := State.WarmedH.trans (by rw [hvm]; exact State.WarmedH.refl s) hWU
  have hall : s.sameButNew ({ U with vm := s.vm } : State) locs (cells + 1) (slots + 6) := by
    subst hs'
    obtain ⟨e1, e2⟩ := hsame
    rw [State.setFrames_setFrames] at e1
    have h2 : (T.setVm s.vm).sameButNew ({ U with vm := s.vm } : State) [] (0 + 1) (0 + 6) := ⟨e1, e2⟩
    have h3 := X.same.trans h2
    rw [List.append_nil] at h3
    exact h3
  refine ⟨U, st1 _ ?_, .threw T.heap.size, hrun, hend, .inr k, (n0, h, nc - 1, ns - 6), al, locs, cells + 1, slots + 6, hq, ⟨T.heap.size, ce, rfl, hce, hO.vm, ?_⟩, ?_, ?_, hWs, hall⟩
  · show Steps p.tables e below (T1.setTop (F0 m (pc + 3) ls (.ref T.heap.size :: st.map (z_v al)))) U
    jvm_step X₁.here [X₁.here.top, hx, d3', Value.category]
    exact hsteps
  · have h9 := hO.cls
    rw [hvm, hW.alike.findClass] at h9
    exact h9
  · exact ⟨hR.1.kept (fun k9 q hq9 => hkept _ ((hR.1 k9 q hq9).lt)), hR.2.1, hR.2.2⟩
  · refine ⟨⟨Nat.le_trans hS.1 hsz, fun q h1 h2 => (hkept q (Nat.lt_of_lt_of_le h1 hS.1)).trans (hS.2.1 q h1 h2), hS.2.2⟩, hae, hne, ?_, ?_⟩
    · show cells + 1 + (nc - 1) ≤ R.cells
      omega
    · show slots + 6 + (ns - 6) ≤ R.slots
      omega
end ZT
end
