section
-- ===== PART A: goes FIRST, ahead of the names: the tables' words, and 'selects' of the private methods out of them =====
/-- a private method of a class that the tables say can be made, by its rows of tables_1 -/
def lw_okq (q : MethodName × Nat) : Prop := (q.1.cls ≠ "java/lang/invoke/MethodHandle" ∧ q.1.cls ≠ "java/lang/invoke/VarHandle") ∧ Cond.instantiable q.1.cls q.2 ∈ tables_1 ∧ Cond.privateMethod q.1 ∈ tables_1 ∧ Cond.instanceMethod q.1 ∈ tables_1
theorem lw_p0 : lw_okq (⟨"ThingStream", "sideToReshape", "(I)LThingStream$Side;"⟩, 5) := ⟨⟨by decide +kernel, by decide +kernel⟩, List.mem_of_getElem? (i := 17) (by decide +kernel), List.mem_of_getElem? (i := 228) (by decide +kernel), List.mem_of_getElem? (i := 229) (by decide +kernel)⟩
theorem lw_p1 : lw_okq (⟨"ThingStream", "sideOf", "(I)LThingStream$Side;"⟩, 5) := ⟨⟨by decide +kernel, by decide +kernel⟩, List.mem_of_getElem? (i := 17) (by decide +kernel), List.mem_of_getElem? (i := 232) (by decide +kernel), List.mem_of_getElem? (i := 233) (by decide +kernel)⟩
theorem lw_p2 : lw_okq (⟨"ThingStream$Things", "emptyFields", "(IILThingStream$Shapes;)V"⟩, 4) := ⟨⟨by decide +kernel, by decide +kernel⟩, List.mem_of_getElem? (i := 68) (by decide +kernel), List.mem_of_getElem? (i := 296) (by decide +kernel), List.mem_of_getElem? (i := 297) (by decide +kernel)⟩
theorem lw_p3 : lw_okq (⟨"ThingStream$Writer", "writeHandle", "(I)V"⟩, 5) := ⟨⟨by decide +kernel, by decide +kernel⟩, List.mem_of_getElem? (i := 132) (by decide +kernel), List.mem_of_getElem? (i := 393) (by decide +kernel), List.mem_of_getElem? (i := 394) (by decide +kernel)⟩
theorem lw_p4 : lw_okq (⟨"ThingStream$Writer", "writeNumber", "(JI)V"⟩, 5) := ⟨⟨by decide +kernel, by decide +kernel⟩, List.mem_of_getElem? (i := 132) (by decide +kernel), List.mem_of_getElem? (i := 397) (by decide +kernel), List.mem_of_getElem? (i := 398) (by decide +kernel)⟩
theorem lw_p5 : lw_okq (⟨"ThingStream$Writer", "writeRecord", "(II)V"⟩, 5) := ⟨⟨by decide +kernel, by decide +kernel⟩, List.mem_of_getElem? (i := 132) (by decide +kernel), List.mem_of_getElem? (i := 402) (by decide +kernel), List.mem_of_getElem? (i := 403) (by decide +kernel)⟩
theorem lw_p6 : lw_okq (⟨"ThingStream$Writer", "writeDescription", "(I)V"⟩, 5) := ⟨⟨by decide +kernel, by decide +kernel⟩, List.mem_of_getElem? (i := 132) (by decide +kernel), List.mem_of_getElem? (i := 406) (by decide +kernel), List.mem_of_getElem? (i := 407) (by decide +kernel)⟩
theorem lw_p7 : lw_okq (⟨"ThingStream$Writer", "writeNewDescription", "(I)V"⟩, 5) := ⟨⟨by decide +kernel, by decide +kernel⟩, List.mem_of_getElem? (i := 132) (by decide +kernel), List.mem_of_getElem? (i := 410) (by decide +kernel), List.mem_of_getElem? (i := 411) (by decide +kernel)⟩
theorem lw_p8 : lw_okq (⟨"ThingStream$Writer", "nextHandle", "()I"⟩, 5) := ⟨⟨by decide +kernel, by decide +kernel⟩, List.mem_of_getElem? (i := 132) (by decide +kernel), List.mem_of_getElem? (i := 416) (by decide +kernel), List.mem_of_getElem? (i := 417) (by decide +kernel)⟩
theorem lw_p9 : lw_okq (⟨"ThingStream$Writer", "writeFields", "(III)V"⟩, 5) := ⟨⟨by decide +kernel, by decide +kernel⟩, List.mem_of_getElem? (i := 132) (by decide +kernel), List.mem_of_getElem? (i := 423) (by decide +kernel), List.mem_of_getElem? (i := 424) (by decide +kernel)⟩
theorem lw_p10 : lw_okq (⟨"ThingStream$Writer", "writeRow", "(II)V"⟩, 5) := ⟨⟨by decide +kernel, by decide +kernel⟩, List.mem_of_getElem? (i := 132) (by decide +kernel), List.mem_of_getElem? (i := 430) (by decide +kernel), List.mem_of_getElem? (i := 431) (by decide +kernel)⟩
theorem lw_p11 : lw_okq (⟨"ThingStream$Reader", "filtered", "(I)V"⟩, 11) := ⟨⟨by decide +kernel, by decide +kernel⟩, List.mem_of_getElem? (i := 154) (by decide +kernel), List.mem_of_getElem? (i := 501) (by decide +kernel), List.mem_of_getElem? (i := 502) (by decide +kernel)⟩
theorem lw_p12 : lw_okq (⟨"java/lang/Throwable", "fillInStackTrace", "(I)Ljava/lang/Throwable;"⟩, 6) := ⟨⟨by decide +kernel, by decide +kernel⟩, List.mem_of_getElem? (i := 543) (by decide +kernel), List.mem_of_getElem? (i := 541) (by decide +kernel), List.mem_of_getElem? (i := 542) (by decide +kernel)⟩
theorem lw_p13 : lw_okq (⟨"ThingStream$Reader", "nextByte", "()I"⟩, 11) := ⟨⟨by decide +kernel, by decide +kernel⟩, List.mem_of_getElem? (i := 154) (by decide +kernel), List.mem_of_getElem? (i := 568) (by decide +kernel), List.mem_of_getElem? (i := 569) (by decide +kernel)⟩
theorem lw_p14 : lw_okq (⟨"ThingStream$Reader", "wrong", "(I)V"⟩, 11) := ⟨⟨by decide +kernel, by decide +kernel⟩, List.mem_of_getElem? (i := 154) (by decide +kernel), List.mem_of_getElem? (i := 572) (by decide +kernel), List.mem_of_getElem? (i := 573) (by decide +kernel)⟩
theorem lw_p15 : lw_okq (⟨"ThingStream$Reader", "readThingHandle", "()I"⟩, 11) := ⟨⟨by decide +kernel, by decide +kernel⟩, List.mem_of_getElem? (i := 154) (by decide +kernel), List.mem_of_getElem? (i := 595) (by decide +kernel), List.mem_of_getElem? (i := 596) (by decide +kernel)⟩
def lw_privs_1 : List (MethodName × Nat) := [(⟨"ThingStream", "sideToReshape", "(I)LThingStream$Side;"⟩, 5), (⟨"ThingStream", "sideOf", "(I)LThingStream$Side;"⟩, 5), (⟨"ThingStream$Things", "emptyFields", "(IILThingStream$Shapes;)V"⟩, 4), (⟨"ThingStream$Writer", "writeHandle", "(I)V"⟩, 5), (⟨"ThingStream$Writer", "writeNumber", "(JI)V"⟩, 5), (⟨"ThingStream$Writer", "writeRecord", "(II)V"⟩, 5), (⟨"ThingStream$Writer", "writeDescription", "(I)V"⟩, 5), (⟨"ThingStream$Writer", "writeNewDescription", "(I)V"⟩, 5), (⟨"ThingStream$Writer", "nextHandle", "()I"⟩, 5), (⟨"ThingStream$Writer", "writeFields", "(III)V"⟩, 5), (⟨"ThingStream$Writer", "writeRow", "(II)V"⟩, 5), (⟨"ThingStream$Reader", "filtered", "(I)V"⟩, 11), (⟨"java/lang/Throwable", "fillInStackTrace", "(I)Ljava/lang/Throwable;"⟩, 6), (⟨"ThingStream$Reader", "nextByte", "()I"⟩, 11), (⟨"ThingStream$Reader", "wrong", "(I)V"⟩, 11), (⟨"ThingStream$Reader", "readThingHandle", "()I"⟩, 11)]
theorem lw_r1 : ∀ q ∈ lw_privs_1, lw_okq q := List.forall_mem_cons.mpr ⟨lw_p0, List.forall_mem_cons.mpr ⟨lw_p1, List.forall_mem_cons.mpr ⟨lw_p2, List.forall_mem_cons.mpr ⟨lw_p3, List.forall_mem_cons.mpr ⟨lw_p4, List.forall_mem_cons.mpr ⟨lw_p5, List.forall_mem_cons.mpr ⟨lw_p6, List.forall_mem_cons.mpr ⟨lw_p7, List.forall_mem_cons.mpr ⟨lw_p8, List.forall_mem_cons.mpr ⟨lw_p9, List.forall_mem_cons.mpr ⟨lw_p10, List.forall_mem_cons.mpr ⟨lw_p11, List.forall_mem_cons.mpr ⟨lw_p12, List.forall_mem_cons.mpr ⟨lw_p13, List.forall_mem_cons.mpr ⟨lw_p14, List.forall_mem_cons.mpr ⟨lw_p15, fun _ h => absurd h List.not_mem_nil⟩⟩⟩⟩⟩⟩⟩⟩⟩⟩⟩⟩⟩⟩⟩⟩
theorem lw_p16 : lw_okq (⟨"ThingStream$Reader", "readNumber", "(I)J"⟩, 11) := ⟨⟨by decide +kernel, by decide +kernel⟩, List.mem_of_getElem? (i := 154) (by decide +kernel), List.mem_of_getElem? (i := 599) (by decide +kernel), List.mem_of_getElem? (i := 600) (by decide +kernel)⟩
theorem lw_p17 : lw_okq (⟨"ThingStream$Reader", "admit", "(II)V"⟩, 11) := ⟨⟨by decide +kernel, by decide +kernel⟩, List.mem_of_getElem? (i := 154) (by decide +kernel), List.mem_of_getElem? (i := 603) (by decide +kernel), List.mem_of_getElem? (i := 604) (by decide +kernel)⟩
theorem lw_p18 : lw_okq (⟨"ThingStream$Reader", "readRecord", "(I)I"⟩, 11) := ⟨⟨by decide +kernel, by decide +kernel⟩, List.mem_of_getElem? (i := 154) (by decide +kernel), List.mem_of_getElem? (i := 607) (by decide +kernel), List.mem_of_getElem? (i := 608) (by decide +kernel)⟩
theorem lw_p19 : lw_okq (⟨"ThingStream$Reader", "readDescription", "(I)I"⟩, 11) := ⟨⟨by decide +kernel, by decide +kernel⟩, List.mem_of_getElem? (i := 154) (by decide +kernel), List.mem_of_getElem? (i := 611) (by decide +kernel), List.mem_of_getElem? (i := 612) (by decide +kernel)⟩
theorem lw_p20 : lw_okq (⟨"ThingStream$Reader", "readDescriptionHandle", "(I)I"⟩, 11) := ⟨⟨by decide +kernel, by decide +kernel⟩, List.mem_of_getElem? (i := 154) (by decide +kernel), List.mem_of_getElem? (i := 615) (by decide +kernel), List.mem_of_getElem? (i := 616) (by decide +kernel)⟩
theorem lw_p21 : lw_okq (⟨"ThingStream$Reader", "readNewDescription", "(II)I"⟩, 11) := ⟨⟨by decide +kernel, by decide +kernel⟩, List.mem_of_getElem? (i := 154) (by decide +kernel), List.mem_of_getElem? (i := 619) (by decide +kernel), List.mem_of_getElem? (i := 620) (by decide +kernel)⟩
theorem lw_p22 : lw_okq (⟨"ThingStream$Reader", "readFieldOf", "(I)V"⟩, 11) := ⟨⟨by decide +kernel, by decide +kernel⟩, List.mem_of_getElem? (i := 154) (by decide +kernel), List.mem_of_getElem? (i := 624) (by decide +kernel), List.mem_of_getElem? (i := 625) (by decide +kernel)⟩
theorem lw_p23 : lw_okq (⟨"ThingStream$Reader", "giveHandle", "(II)V"⟩, 11) := ⟨⟨by decide +kernel, by decide +kernel⟩, List.mem_of_getElem? (i := 154) (by decide +kernel), List.mem_of_getElem? (i := 635) (by decide +kernel), List.mem_of_getElem? (i := 636) (by decide +kernel)⟩
theorem lw_p24 : lw_okq (⟨"ThingStream$Reader", "isStrange", "(I)Z"⟩, 11) := ⟨⟨by decide +kernel, by decide +kernel⟩, List.mem_of_getElem? (i := 154) (by decide +kernel), List.mem_of_getElem? (i := 639) (by decide +kernel), List.mem_of_getElem? (i := 640) (by decide +kernel)⟩
theorem lw_p25 : lw_okq (⟨"ThingStream$Reader", "strange", "(I)V"⟩, 11) := ⟨⟨by decide +kernel, by decide +kernel⟩, List.mem_of_getElem? (i := 154) (by decide +kernel), List.mem_of_getElem? (i := 646) (by decide +kernel), List.mem_of_getElem? (i := 647) (by decide +kernel)⟩
theorem lw_p26 : lw_okq (⟨"ThingStream$Reader", "readFields", "(III)V"⟩, 11) := ⟨⟨by decide +kernel, by decide +kernel⟩, List.mem_of_getElem? (i := 154) (by decide +kernel), List.mem_of_getElem? (i := 668) (by decide +kernel), List.mem_of_getElem? (i := 669) (by decide +kernel)⟩
theorem lw_p27 : lw_okq (⟨"ThingStream$Reader", "readRow", "(I)I"⟩, 11) := ⟨⟨by decide +kernel, by decide +kernel⟩, List.mem_of_getElem? (i := 154) (by decide +kernel), List.mem_of_getElem? (i := 676) (by decide +kernel), List.mem_of_getElem? (i := 677) (by decide +kernel)⟩
theorem lw_p28 : lw_okq (⟨"ThingStreamModel", "fieldOf", "(II)I"⟩, 40) := ⟨⟨by decide +kernel, by decide +kernel⟩, List.mem_of_getElem? (i := 686) (by decide +kernel), List.mem_of_getElem? (i := 828) (by decide +kernel), List.mem_of_getElem? (i := 829) (by decide +kernel)⟩
theorem lw_p29 : lw_okq (⟨"ThingStreamModel", "fill", "(II)V"⟩, 40) := ⟨⟨by decide +kernel, by decide +kernel⟩, List.mem_of_getElem? (i := 686) (by decide +kernel), List.mem_of_getElem? (i := 839) (by decide +kernel), List.mem_of_getElem? (i := 840) (by decide +kernel)⟩
theorem lw_p30 : lw_okq (⟨"ThingStreamModel", "above", "(II)I"⟩, 40) := ⟨⟨by decide +kernel, by decide +kernel⟩, List.mem_of_getElem? (i := 686) (by decide +kernel), List.mem_of_getElem? (i := 844) (by decide +kernel), List.mem_of_getElem? (i := 845) (by decide +kernel)⟩
theorem lw_p31 : lw_okq (⟨"ThingStreamModel", "fieldIn", "(IIII)I"⟩, 40) := ⟨⟨by decide +kernel, by decide +kernel⟩, List.mem_of_getElem? (i := 686) (by decide +kernel), List.mem_of_getElem? (i := 856) (by decide +kernel), List.mem_of_getElem? (i := 857) (by decide +kernel)⟩
def lw_privs_2 : List (MethodName × Nat) := [(⟨"ThingStream$Reader", "readNumber", "(I)J"⟩, 11), (⟨"ThingStream$Reader", "admit", "(II)V"⟩, 11), (⟨"ThingStream$Reader", "readRecord", "(I)I"⟩, 11), (⟨"ThingStream$Reader", "readDescription", "(I)I"⟩, 11), (⟨"ThingStream$Reader", "readDescriptionHandle", "(I)I"⟩, 11), (⟨"ThingStream$Reader", "readNewDescription", "(II)I"⟩, 11), (⟨"ThingStream$Reader", "readFieldOf", "(I)V"⟩, 11), (⟨"ThingStream$Reader", "giveHandle", "(II)V"⟩, 11), (⟨"ThingStream$Reader", "isStrange", "(I)Z"⟩, 11), (⟨"ThingStream$Reader", "strange", "(I)V"⟩, 11), (⟨"ThingStream$Reader", "readFields", "(III)V"⟩, 11), (⟨"ThingStream$Reader", "readRow", "(I)I"⟩, 11), (⟨"ThingStreamModel", "fieldOf", "(II)I"⟩, 40), (⟨"ThingStreamModel", "fill", "(II)V"⟩, 40), (⟨"ThingStreamModel", "above", "(II)I"⟩, 40), (⟨"ThingStreamModel", "fieldIn", "(IIII)I"⟩, 40)]
theorem lw_r2 : ∀ q ∈ lw_privs_2, lw_okq q := List.forall_mem_cons.mpr ⟨lw_p16, List.forall_mem_cons.mpr ⟨lw_p17, List.forall_mem_cons.mpr ⟨lw_p18, List.forall_mem_cons.mpr ⟨lw_p19, List.forall_mem_cons.mpr ⟨lw_p20, List.forall_mem_cons.mpr ⟨lw_p21, List.forall_mem_cons.mpr ⟨lw_p22, List.forall_mem_cons.mpr ⟨lw_p23, List.forall_mem_cons.mpr ⟨lw_p24, List.forall_mem_cons.mpr ⟨lw_p25, List.forall_mem_cons.mpr ⟨lw_p26, List.forall_mem_cons.mpr ⟨lw_p27, List.forall_mem_cons.mpr ⟨lw_p28, List.forall_mem_cons.mpr ⟨lw_p29, List.forall_mem_cons.mpr ⟨lw_p30, List.forall_mem_cons.mpr ⟨lw_p31, fun _ h => absurd h List.not_mem_nil⟩⟩⟩⟩⟩⟩⟩⟩⟩⟩⟩⟩⟩⟩⟩⟩
theorem lw_p32 : lw_okq (⟨"ThingStreamModel", "isThing", "(II)Z"⟩, 40) := ⟨⟨by decide +kernel, by decide +kernel⟩, List.mem_of_getElem? (i := 686) (by decide +kernel), List.mem_of_getElem? (i := 860) (by decide +kernel), List.mem_of_getElem? (i := 861) (by decide +kernel)⟩
theorem lw_p33 : lw_okq (⟨"ThingStreamModel", "isInChain", "(III)Z"⟩, 40) := ⟨⟨by decide +kernel, by decide +kernel⟩, List.mem_of_getElem? (i := 686) (by decide +kernel), List.mem_of_getElem? (i := 864) (by decide +kernel), List.mem_of_getElem? (i := 865) (by decide +kernel)⟩
theorem lw_p34 : lw_okq (⟨"ThingStreamModel", "say", "(I)V"⟩, 40) := ⟨⟨by decide +kernel, by decide +kernel⟩, List.mem_of_getElem? (i := 686) (by decide +kernel), List.mem_of_getElem? (i := 883) (by decide +kernel), List.mem_of_getElem? (i := 884) (by decide +kernel)⟩
theorem lw_p35 : lw_okq (⟨"ThingStreamModel", "sayValue", "(I)V"⟩, 40) := ⟨⟨by decide +kernel, by decide +kernel⟩, List.mem_of_getElem? (i := 686) (by decide +kernel), List.mem_of_getElem? (i := 887) (by decide +kernel), List.mem_of_getElem? (i := 888) (by decide +kernel)⟩
theorem lw_p36 : lw_okq (⟨"ThingStreamModel", "sayHandle", "(I)V"⟩, 40) := ⟨⟨by decide +kernel, by decide +kernel⟩, List.mem_of_getElem? (i := 686) (by decide +kernel), List.mem_of_getElem? (i := 891) (by decide +kernel), List.mem_of_getElem? (i := 892) (by decide +kernel)⟩
theorem lw_p37 : lw_okq (⟨"ThingStreamModel", "sayDescription", "(I)V"⟩, 40) := ⟨⟨by decide +kernel, by decide +kernel⟩, List.mem_of_getElem? (i := 686) (by decide +kernel), List.mem_of_getElem? (i := 895) (by decide +kernel), List.mem_of_getElem? (i := 896) (by decide +kernel)⟩
theorem lw_p38 : lw_okq (⟨"ThingStreamModel", "sayNumber", "(JI)V"⟩, 40) := ⟨⟨by decide +kernel, by decide +kernel⟩, List.mem_of_getElem? (i := 686) (by decide +kernel), List.mem_of_getElem? (i := 899) (by decide +kernel), List.mem_of_getElem? (i := 900) (by decide +kernel)⟩
theorem lw_p39 : lw_okq (⟨"ThingStreamModel", "sayMore", "()V"⟩, 40) := ⟨⟨by decide +kernel, by decide +kernel⟩, List.mem_of_getElem? (i := 686) (by decide +kernel), List.mem_of_getElem? (i := 904) (by decide +kernel), List.mem_of_getElem? (i := 905) (by decide +kernel)⟩
theorem lw_p40 : lw_okq (⟨"ThingStreamModel", "fieldNumber", "(II)I"⟩, 40) := ⟨⟨by decide +kernel, by decide +kernel⟩, List.mem_of_getElem? (i := 686) (by decide +kernel), List.mem_of_getElem? (i := 908) (by decide +kernel), List.mem_of_getElem? (i := 909) (by decide +kernel)⟩
theorem lw_p41 : lw_okq (⟨"ThingStreamModel", "readAll", "()Z"⟩, 40) := ⟨⟨by decide +kernel, by decide +kernel⟩, List.mem_of_getElem? (i := 686) (by decide +kernel), List.mem_of_getElem? (i := 932) (by decide +kernel), List.mem_of_getElem? (i := 933) (by decide +kernel)⟩
theorem lw_p42 : lw_okq (⟨"ThingStreamModel", "fail", "(II)Z"⟩, 40) := ⟨⟨by decide +kernel, by decide +kernel⟩, List.mem_of_getElem? (i := 686) (by decide +kernel), List.mem_of_getElem? (i := 936) (by decide +kernel), List.mem_of_getElem? (i := 937) (by decide +kernel)⟩
theorem lw_p43 : lw_okq (⟨"ThingStreamModel", "has", "(I)Z"⟩, 40) := ⟨⟨by decide +kernel, by decide +kernel⟩, List.mem_of_getElem? (i := 686) (by decide +kernel), List.mem_of_getElem? (i := 940) (by decide +kernel), List.mem_of_getElem? (i := 941) (by decide +kernel)⟩
theorem lw_p44 : lw_okq (⟨"ThingStreamModel", "take", "()I"⟩, 40) := ⟨⟨by decide +kernel, by decide +kernel⟩, List.mem_of_getElem? (i := 686) (by decide +kernel), List.mem_of_getElem? (i := 944) (by decide +kernel), List.mem_of_getElem? (i := 945) (by decide +kernel)⟩
theorem lw_p45 : lw_okq (⟨"ThingStreamModel", "begin", "()I"⟩, 40) := ⟨⟨by decide +kernel, by decide +kernel⟩, List.mem_of_getElem? (i := 686) (by decide +kernel), List.mem_of_getElem? (i := 948) (by decide +kernel), List.mem_of_getElem? (i := 949) (by decide +kernel)⟩
theorem lw_p46 : lw_okq (⟨"ThingStreamModel", "takeHandle", "(Z)I"⟩, 40) := ⟨⟨by decide +kernel, by decide +kernel⟩, List.mem_of_getElem? (i := 686) (by decide +kernel), List.mem_of_getElem? (i := 952) (by decide +kernel), List.mem_of_getElem? (i := 953) (by decide +kernel)⟩
theorem lw_p47 : lw_okq (⟨"ThingStreamModel", "beginRecord", "()Z"⟩, 40) := ⟨⟨by decide +kernel, by decide +kernel⟩, List.mem_of_getElem? (i := 686) (by decide +kernel), List.mem_of_getElem? (i := 956) (by decide +kernel), List.mem_of_getElem? (i := 957) (by decide +kernel)⟩
def lw_privs_3 : List (MethodName × Nat) := [(⟨"ThingStreamModel", "isThing", "(II)Z"⟩, 40), (⟨"ThingStreamModel", "isInChain", "(III)Z"⟩, 40), (⟨"ThingStreamModel", "say", "(I)V"⟩, 40), (⟨"ThingStreamModel", "sayValue", "(I)V"⟩, 40), (⟨"ThingStreamModel", "sayHandle", "(I)V"⟩, 40), (⟨"ThingStreamModel", "sayDescription", "(I)V"⟩, 40), (⟨"ThingStreamModel", "sayNumber", "(JI)V"⟩, 40), (⟨"ThingStreamModel", "sayMore", "()V"⟩, 40), (⟨"ThingStreamModel", "fieldNumber", "(II)I"⟩, 40), (⟨"ThingStreamModel", "readAll", "()Z"⟩, 40), (⟨"ThingStreamModel", "fail", "(II)Z"⟩, 40), (⟨"ThingStreamModel", "has", "(I)Z"⟩, 40), (⟨"ThingStreamModel", "take", "()I"⟩, 40), (⟨"ThingStreamModel", "begin", "()I"⟩, 40), (⟨"ThingStreamModel", "takeHandle", "(Z)I"⟩, 40), (⟨"ThingStreamModel", "beginRecord", "()Z"⟩, 40)]
theorem lw_r3 : ∀ q ∈ lw_privs_3, lw_okq q := List.forall_mem_cons.mpr ⟨lw_p32, List.forall_mem_cons.mpr ⟨lw_p33, List.forall_mem_cons.mpr ⟨lw_p34, List.forall_mem_cons.mpr ⟨lw_p35, List.forall_mem_cons.mpr ⟨lw_p36, List.forall_mem_cons.mpr ⟨lw_p37, List.forall_mem_cons.mpr ⟨lw_p38, List.forall_mem_cons.mpr ⟨lw_p39, List.forall_mem_cons.mpr ⟨lw_p40, List.forall_mem_cons.mpr ⟨lw_p41, List.forall_mem_cons.mpr ⟨lw_p42, List.forall_mem_cons.mpr ⟨lw_p43, List.forall_mem_cons.mpr ⟨lw_p44, List.forall_mem_cons.mpr ⟨lw_p45, List.forall_mem_cons.mpr ⟨lw_p46, List.forall_mem_cons.mpr ⟨lw_p47, fun _ h => absurd h List.not_mem_nil⟩⟩⟩⟩⟩⟩⟩⟩⟩⟩⟩⟩⟩⟩⟩⟩
theorem lw_p48 : lw_okq (⟨"ThingStreamModel", "description", "()I"⟩, 40) := ⟨⟨by decide +kernel, by decide +kernel⟩, List.mem_of_getElem? (i := 686) (by decide +kernel), List.mem_of_getElem? (i := 960) (by decide +kernel), List.mem_of_getElem? (i := 961) (by decide +kernel)⟩
theorem lw_p49 : lw_okq (⟨"ThingStreamModel", "describe", "(II)Z"⟩, 40) := ⟨⟨by decide +kernel, by decide +kernel⟩, List.mem_of_getElem? (i := 686) (by decide +kernel), List.mem_of_getElem? (i := 964) (by decide +kernel), List.mem_of_getElem? (i := 965) (by decide +kernel)⟩
theorem lw_p50 : lw_okq (⟨"ThingStreamModel", "takeNumber", "(I)J"⟩, 40) := ⟨⟨by decide +kernel, by decide +kernel⟩, List.mem_of_getElem? (i := 686) (by decide +kernel), List.mem_of_getElem? (i := 968) (by decide +kernel), List.mem_of_getElem? (i := 969) (by decide +kernel)⟩
theorem lw_p51 : lw_okq (⟨"ThingStreamModel", "describeField", "(II)Z"⟩, 40) := ⟨⟨by decide +kernel, by decide +kernel⟩, List.mem_of_getElem? (i := 686) (by decide +kernel), List.mem_of_getElem? (i := 972) (by decide +kernel), List.mem_of_getElem? (i := 973) (by decide +kernel)⟩
theorem lw_p52 : lw_okq (⟨"ThingStreamModel", "agrees", "(I)Z"⟩, 40) := ⟨⟨by decide +kernel, by decide +kernel⟩, List.mem_of_getElem? (i := 686) (by decide +kernel), List.mem_of_getElem? (i := 976) (by decide +kernel), List.mem_of_getElem? (i := 977) (by decide +kernel)⟩
theorem lw_p53 : lw_okq (⟨"ThingStreamModel", "beginRow", "()Z"⟩, 40) := ⟨⟨by decide +kernel, by decide +kernel⟩, List.mem_of_getElem? (i := 686) (by decide +kernel), List.mem_of_getElem? (i := 980) (by decide +kernel), List.mem_of_getElem? (i := 981) (by decide +kernel)⟩
theorem lw_p54 : lw_okq (⟨"ThingStreamModel", "store", "(I)V"⟩, 40) := ⟨⟨by decide +kernel, by decide +kernel⟩, List.mem_of_getElem? (i := 686) (by decide +kernel), List.mem_of_getElem? (i := 984) (by decide +kernel), List.mem_of_getElem? (i := 985) (by decide +kernel)⟩
theorem lw_p55 : lw_okq (⟨"ThingStreamModel", "readField", "(II)I"⟩, 40) := ⟨⟨by decide +kernel, by decide +kernel⟩, List.mem_of_getElem? (i := 686) (by decide +kernel), List.mem_of_getElem? (i := 988) (by decide +kernel), List.mem_of_getElem? (i := 989) (by decide +kernel)⟩
theorem lw_p56 : lw_okq (⟨"ThingStreamModel", "keep", "(IIJ)V"⟩, 40) := ⟨⟨by decide +kernel, by decide +kernel⟩, List.mem_of_getElem? (i := 686) (by decide +kernel), List.mem_of_getElem? (i := 992) (by decide +kernel), List.mem_of_getElem? (i := 993) (by decide +kernel)⟩
theorem lw_p57 : lw_okq (⟨"ThingStreamModel", "goOn", "()I"⟩, 40) := ⟨⟨by decide +kernel, by decide +kernel⟩, List.mem_of_getElem? (i := 686) (by decide +kernel), List.mem_of_getElem? (i := 996) (by decide +kernel), List.mem_of_getElem? (i := 997) (by decide +kernel)⟩
theorem lw_p58 : lw_okq (⟨"ThingStreamModel", "becomeThings", "()V"⟩, 40) := ⟨⟨by decide +kernel, by decide +kernel⟩, List.mem_of_getElem? (i := 686) (by decide +kernel), List.mem_of_getElem? (i := 1000) (by decide +kernel), List.mem_of_getElem? (i := 1001) (by decide +kernel)⟩
def lw_privs_4 : List (MethodName × Nat) := [(⟨"ThingStreamModel", "description", "()I"⟩, 40), (⟨"ThingStreamModel", "describe", "(II)Z"⟩, 40), (⟨"ThingStreamModel", "takeNumber", "(I)J"⟩, 40), (⟨"ThingStreamModel", "describeField", "(II)Z"⟩, 40), (⟨"ThingStreamModel", "agrees", "(I)Z"⟩, 40), (⟨"ThingStreamModel", "beginRow", "()Z"⟩, 40), (⟨"ThingStreamModel", "store", "(I)V"⟩, 40), (⟨"ThingStreamModel", "readField", "(II)I"⟩, 40), (⟨"ThingStreamModel", "keep", "(IIJ)V"⟩, 40), (⟨"ThingStreamModel", "goOn", "()I"⟩, 40), (⟨"ThingStreamModel", "becomeThings", "()V"⟩, 40)]
theorem lw_r4 : ∀ q ∈ lw_privs_4, lw_okq q := List.forall_mem_cons.mpr ⟨lw_p48, List.forall_mem_cons.mpr ⟨lw_p49, List.forall_mem_cons.mpr ⟨lw_p50, List.forall_mem_cons.mpr ⟨lw_p51, List.forall_mem_cons.mpr ⟨lw_p52, List.forall_mem_cons.mpr ⟨lw_p53, List.forall_mem_cons.mpr ⟨lw_p54, List.forall_mem_cons.mpr ⟨lw_p55, List.forall_mem_cons.mpr ⟨lw_p56, List.forall_mem_cons.mpr ⟨lw_p57, List.forall_mem_cons.mpr ⟨lw_p58, fun _ h => absurd h List.not_mem_nil⟩⟩⟩⟩⟩⟩⟩⟩⟩⟩⟩
def lw_privs : List (MethodName × Nat) := lw_privs_1 ++ (lw_privs_2 ++ (lw_privs_3 ++ (lw_privs_4)))
def lw_tbl : List Cond := k2_sels lw_privs ++ tables_1
theorem lw_privs_ok : ∀ q ∈ lw_privs, lw_okq q := by
  show ∀ q ∈ lw_privs_1 ++ (lw_privs_2 ++ (lw_privs_3 ++ (lw_privs_4))), lw_okq q
  exact List.forall_mem_append.mpr ⟨lw_r1, List.forall_mem_append.mpr ⟨lw_r2, List.forall_mem_append.mpr ⟨lw_r3, lw_r4⟩⟩⟩
def zR0 : String := "ThingStream$Bytes"
def zT0 : u_T := fun k => match k with
  | 0 => ("ThingStream$Bytes", "bytes", "[I", true)
  | 1 => ("ThingStream$Bytes", "count", "I", false)
  | _ => ("ThingStream$Bytes", "overflowed", "Z", false)
def zt0 : Nat → FieldType := fun k => match k with
  | 0 => .array .int
  | 1 => .int
  | _ => .boolean
theorem zn0 : ∀ a, a < 3 → ∀ b, b < 3 → a ≠ b → (zT0 a).2.1 ≠ (zT0 b).2.1 := by decide +kernel
theorem zt0_ok : ∀ k, k < 3 → parseFieldDescriptor (zT0 k).2.2.1 = some (zt0 k) := by decide +kernel
def zR1 : String := "ThingStream$Reader"
def zT1 : u_T := fun k => match k with
  | 0 => ("ThingStream$Reader", "stream", "LThingStream$Bytes;", true)
  | 1 => ("ThingStream$Reader", "side", "LThingStream$Side;", true)
  | 2 => ("ThingStream$Reader", "limits", "[I", true)
  | 3 => ("ThingStream$Reader", "told", "LThingStream$Shapes;", true)
  | 4 => ("ThingStream$Reader", "thingsByHandle", "[I", true)
  | 5 => ("ThingStream$Reader", "toldByHandle", "[I", true)
  | 6 => ("ThingStream$Reader", "fresh", "LThingStream$Things;", false)
  | 7 => ("ThingStream$Reader", "toldCount", "I", false)
  | 8 => ("ThingStream$Reader", "handleCount", "I", false)
  | 9 => ("ThingStream$Reader", "place", "I", false)
  | _ => ("ThingStream$Reader", "fault", "I", false)
def zt1 : Nat → FieldType := fun k => match k with
  | 0 => .object "ThingStream$Bytes"
  | 1 => .object "ThingStream$Side"
  | 2 => .array .int
  | 3 => .object "ThingStream$Shapes"
  | 4 => .array .int
  | 5 => .array .int
  | 6 => .object "ThingStream$Things"
  | 7 => .int
  | 8 => .int
  | 9 => .int
  | _ => .int
theorem zn1 : ∀ a, a < 11 → ∀ b, b < 11 → a ≠ b → (zT1 a).2.1 ≠ (zT1 b).2.1 := by decide +kernel
theorem zt1_ok : ∀ k, k < 11 → parseFieldDescriptor (zT1 k).2.2.1 = some (zt1 k) := by decide +kernel
def zR2 : String := "ThingStream$Shapes"
def zT2 : u_T := fun k => match k with
  | 0 => ("ThingStream$Shapes", "there", "[Z", true)
  | 1 => ("ThingStream$Shapes", "numbers", "[I", true)
  | 2 => ("ThingStream$Shapes", "parents", "[I", true)
  | 3 => ("ThingStream$Shapes", "marks", "[I", true)
  | 4 => ("ThingStream$Shapes", "fieldCounts", "[I", true)
  | 5 => ("ThingStream$Shapes", "names", "[I", true)
  | _ => ("ThingStream$Shapes", "kinds", "[I", true)
def zt2 : Nat → FieldType := fun k => match k with
  | 0 => .array .boolean
  | 1 => .array .int
  | 2 => .array .int
  | 3 => .array .int
  | 4 => .array .int
  | 5 => .array .int
  | _ => .array .int
theorem zn2 : ∀ a, a < 7 → ∀ b, b < 7 → a ≠ b → (zT2 a).2.1 ≠ (zT2 b).2.1 := by decide +kernel
theorem zt2_ok : ∀ k, k < 7 → parseFieldDescriptor (zT2 k).2.2.1 = some (zt2 k) := by decide +kernel
def zR3 : String := "ThingStream$Side"
def zT3 : u_T := fun k => match k with
  | 0 => ("ThingStream$Side", "shapes", "LThingStream$Shapes;", true)
  | _ => ("ThingStream$Side", "held", "LThingStream$Things;", false)
def zt3 : Nat → FieldType := fun k => match k with
  | 0 => .object "ThingStream$Shapes"
  | _ => .object "ThingStream$Things"
theorem zn3 : ∀ a, a < 2 → ∀ b, b < 2 → a ≠ b → (zT3 a).2.1 ≠ (zT3 b).2.1 := by decide +kernel
theorem zt3_ok : ∀ k, k < 2 → parseFieldDescriptor (zT3 k).2.2.1 = some (zt3 k) := by decide +kernel
def zR4 : String := "ThingStream$Things"
def zT4 : u_T := fun k => match k with
  | 0 => ("ThingStream$Things", "shapes", "[I", true)
  | 1 => ("ThingStream$Things", "lengths", "[I", true)
  | 2 => ("ThingStream$Things", "values", "[J", true)
  | _ => ("ThingStream$Things", "count", "I", false)
def zt4 : Nat → FieldType := fun k => match k with
  | 0 => .array .int
  | 1 => .array .int
  | 2 => .array .long
  | _ => .int
theorem zn4 : ∀ a, a < 4 → ∀ b, b < 4 → a ≠ b → (zT4 a).2.1 ≠ (zT4 b).2.1 := by decide +kernel
theorem zt4_ok : ∀ k, k < 4 → parseFieldDescriptor (zT4 k).2.2.1 = some (zt4 k) := by decide +kernel
def zR5 : String := "ThingStream$Writer"
def zT5 : u_T := fun k => match k with
  | 0 => ("ThingStream$Writer", "stream", "LThingStream$Bytes;", true)
  | 1 => ("ThingStream$Writer", "side", "LThingStream$Side;", true)
  | 2 => ("ThingStream$Writer", "thingHandles", "[I", true)
  | 3 => ("ThingStream$Writer", "shapeHandles", "[I", true)
  | _ => ("ThingStream$Writer", "handleCount", "I", false)
def zt5 : Nat → FieldType := fun k => match k with
  | 0 => .object "ThingStream$Bytes"
  | 1 => .object "ThingStream$Side"
  | 2 => .array .int
  | 3 => .array .int
  | _ => .int
theorem zn5 : ∀ a, a < 5 → ∀ b, b < 5 → a ≠ b → (zT5 a).2.1 ≠ (zT5 b).2.1 := by decide +kernel
theorem zt5_ok : ∀ k, k < 5 → parseFieldDescriptor (zT5 k).2.2.1 = some (zt5 k) := by decide +kernel
def zR6 : String := "ThingStream"
def zT6 : u_T := fun k => match k with
  | 0 => ("ThingStream", "writing", "LThingStream$Side;", true)
  | 1 => ("ThingStream", "reading", "LThingStream$Side;", true)
  | 2 => ("ThingStream", "stream", "LThingStream$Bytes;", true)
  | 3 => ("ThingStream", "writer", "LThingStream$Writer;", true)
  | _ => ("ThingStream", "reader", "LThingStream$Reader;", true)
def zt6 : Nat → FieldType := fun k => match k with
  | 0 => .object "ThingStream$Side"
  | 1 => .object "ThingStream$Side"
  | 2 => .object "ThingStream$Bytes"
  | 3 => .object "ThingStream$Writer"
  | _ => .object "ThingStream$Reader"
theorem zn6 : ∀ a, a < 5 → ∀ b, b < 5 → a ≠ b → (zT6 a).2.1 ≠ (zT6 b).2.1 := by decide +kernel
theorem zt6_ok : ∀ k, k < 5 → parseFieldDescriptor (zT6 k).2.2.1 = some (zt6 k) := by decide +kernel
def zR7 : String := "ThingStreamModel"
def zT7 : u_T := fun k => match k with
  | 0 => ("ThingStreamModel", "thrown", "I", false)
  | 1 => ("ThingStreamModel", "there", "[Z", true)
  | 2 => ("ThingStreamModel", "parent", "[I", true)
  | 3 => ("ThingStreamModel", "mark", "[I", true)
  | 4 => ("ThingStreamModel", "fields", "[I", true)
  | 5 => ("ThingStreamModel", "name", "[I", true)
  | 6 => ("ThingStreamModel", "kind", "[I", true)
  | 7 => ("ThingStreamModel", "count", "[I", true)
  | 8 => ("ThingStreamModel", "shape", "[I", true)
  | 9 => ("ThingStreamModel", "length", "[I", true)
  | 10 => ("ThingStreamModel", "value", "[J", true)
  | 11 => ("ThingStreamModel", "link", "[I", true)
  | 12 => ("ThingStreamModel", "size", "I", false)
  | 13 => ("ThingStreamModel", "stream", "[I", true)
  | 14 => ("ThingStreamModel", "limits", "[I", true)
  | 15 => ("ThingStreamModel", "where", "I", false)
  | 16 => ("ThingStreamModel", "handles", "I", false)
  | 17 => ("ThingStreamModel", "shapeHandle", "[I", true)
  | 18 => ("ThingStreamModel", "thingHandle", "[I", true)
  | 19 => ("ThingStreamModel", "handle", "[I", true)
  | 20 => ("ThingStreamModel", "open", "I", false)
  | 21 => ("ThingStreamModel", "opened", "[I", true)
  | 22 => ("ThingStreamModel", "far", "[I", true)
  | 23 => ("ThingStreamModel", "p", "I", false)
  | 24 => ("ThingStreamModel", "fault", "I", false)
  | 25 => ("ThingStreamModel", "descriptions", "I", false)
  | 26 => ("ThingStreamModel", "dShape", "[I", true)
  | 27 => ("ThingStreamModel", "dAt", "[I", true)
  | 28 => ("ThingStreamModel", "dParent", "[I", true)
  | 29 => ("ThingStreamModel", "dMark", "[I", true)
  | 30 => ("ThingStreamModel", "dFields", "[I", true)
  | 31 => ("ThingStreamModel", "dName", "[I", true)
  | 32 => ("ThingStreamModel", "dKind", "[I", true)
  | 33 => ("ThingStreamModel", "things", "I", false)
  | 34 => ("ThingStreamModel", "tDescription", "[I", true)
  | 35 => ("ThingStreamModel", "tLength", "[I", true)
  | 36 => ("ThingStreamModel", "tValue", "[J", true)
  | 37 => ("ThingStreamModel", "tHas", "[I", true)
  | 38 => ("ThingStreamModel", "tLink", "[I", true)
  | _ => ("ThingStreamModel", "began", "I", false)
def zt7 : Nat → FieldType := fun k => match k with
  | 0 => .int
  | 1 => .array .boolean
  | 2 => .array .int
  | 3 => .array .int
  | 4 => .array .int
  | 5 => .array .int
  | 6 => .array .int
  | 7 => .array .int
  | 8 => .array .int
  | 9 => .array .int
  | 10 => .array .long
  | 11 => .array .int
  | 12 => .int
  | 13 => .array .int
  | 14 => .array .int
  | 15 => .int
  | 16 => .int
  | 17 => .array .int
  | 18 => .array .int
  | 19 => .array .int
  | 20 => .int
  | 21 => .array .int
  | 22 => .array .int
  | 23 => .int
  | 24 => .int
  | 25 => .int
  | 26 => .array .int
  | 27 => .array .int
  | 28 => .array .int
  | 29 => .array .int
  | 30 => .array .int
  | 31 => .array .int
  | 32 => .array .int
  | 33 => .int
  | 34 => .array .int
  | 35 => .array .int
  | 36 => .array .long
  | 37 => .array .int
  | 38 => .array .int
  | _ => .int
theorem zn7 : ∀ a, a < 40 → ∀ b, b < 40 → a ≠ b → (zT7 a).2.1 ≠ (zT7 b).2.1 := by decide +kernel
theorem zt7_ok : ∀ k, k < 40 → parseFieldDescriptor (zT7 k).2.2.1 = some (zt7 k) := by decide +kernel
abbrev vwCl : List vw_C := [(zR0, zT0, 3), (zR1, zT1, 11), (zR2, zT2, 7), (zR3, zT3, 2), (zR4, zT4, 4), (zR5, zT5, 5), (zR6, zT6, 5), (zR7, zT7, 40)]
abbrev z_Y9 : Type := MethodName × ByteArray × Nat × Option FieldType × List (Nat × Nat × Nat × Nat)
def zY_TS_init : z_Y9 := (⟨"ThingStream", "<init>", "()V"⟩, prog_1_method_1_code, 1, none, [])
def zY_Object_init : z_Y9 := (⟨"java/lang/Object", "<init>", "()V"⟩, object_method_1_code, 1, none, [])
def zY_Side_init : z_Y9 := (⟨"ThingStream$Side", "<init>", "(I)V"⟩, prog_5_method_1_code, 2, none, [])
def zY_Shapes_init : z_Y9 := (⟨"ThingStream$Shapes", "<init>", "(I)V"⟩, prog_4_method_1_code, 2, none, [])
def zY_Things_init : z_Y9 := (⟨"ThingStream$Things", "<init>", "(I)V"⟩, prog_6_method_1_code, 2, none, [])
def zY_Bytes_init : z_Y9 := (⟨"ThingStream$Bytes", "<init>", "()V"⟩, prog_2_method_1_code, 1, none, [])
def zY_Writer_init : z_Y9 := (⟨"ThingStream$Writer", "<init>", "(LThingStream$Bytes;LThingStream$Side;)V"⟩, prog_7_method_1_code, 3, none, [])
def zY_Reader_init : z_Y9 := (⟨"ThingStream$Reader", "<init>", "(LThingStream$Bytes;LThingStream$Side;)V"⟩, prog_3_method_1_code, 3, none, [])
def zY_TS_shape : z_Y9 := (⟨"ThingStream", "shape", "(IIII)Z"⟩, prog_1_method_2_code, 6, (some .boolean), [])
def zY_TS_sideToReshape : z_Y9 := (⟨"ThingStream", "sideToReshape", "(I)LThingStream$Side;"⟩, prog_1_method_21_code, 2, (some (.object "ThingStream$Side")), [])
def zY_TS_sideOf : z_Y9 := (⟨"ThingStream", "sideOf", "(I)LThingStream$Side;"⟩, prog_1_method_20_code, 2, (some (.object "ThingStream$Side")), [])
def zY_Shapes_begin : z_Y9 := (⟨"ThingStream$Shapes", "begin", "(IIII)V"⟩, prog_4_method_3_code, 5, none, [])
def zY_Things_removeAll : z_Y9 := (⟨"ThingStream$Things", "removeAll", "()V"⟩, prog_6_method_9_code, 1, none, [])
def zY_TS_field : z_Y9 := (⟨"ThingStream", "field", "(IIII)Z"⟩, prog_1_method_3_code, 6, (some .boolean), [])
def zY_Shapes_mayAddField : z_Y9 := (⟨"ThingStream$Shapes", "mayAddField", "(III)Z"⟩, prog_4_method_4_code, 4, (some .boolean), [])
def zY_Shapes_has : z_Y9 := (⟨"ThingStream$Shapes", "has", "(I)Z"⟩, prog_4_method_2_code, 2, (some .boolean), [])
def zY_Shapes_fieldOf : z_Y9 := (⟨"ThingStream$Shapes", "fieldOf", "(II)I"⟩, prog_4_method_8_code, 4, (some .int), [])
def zY_Shapes_nameOf : z_Y9 := (⟨"ThingStream$Shapes", "nameOf", "(II)I"⟩, prog_4_method_9_code, 3, (some .int), [])
def zY_Shapes_addField : z_Y9 := (⟨"ThingStream$Shapes", "addField", "(III)V"⟩, prog_4_method_5_code, 6, none, [])
def zY_Shapes_rank : z_Y9 := (⟨"ThingStream$Shapes", "rank", "(II)I"⟩, prog_4_method_7_code, 2, (some .int), [])
def zY_TS_build : z_Y9 := (⟨"ThingStream", "build", "(I)I"⟩, prog_1_method_4_code, 2, (some .int), [])
def zY_Things_isFull : z_Y9 := (⟨"ThingStream$Things", "isFull", "()Z"⟩, prog_6_method_3_code, 1, (some .boolean), [])
def zY_Things_addRecord : z_Y9 := (⟨"ThingStream$Things", "addRecord", "(ILThingStream$Shapes;)I"⟩, prog_6_method_11_code, 5, (some .int), [])
def zY_Shapes_chainLength : z_Y9 := (⟨"ThingStream$Shapes", "chainLength", "(I)I"⟩, prog_4_method_12_code, 4, (some .int), [])
def zY_Shapes_parentOf : z_Y9 := (⟨"ThingStream$Shapes", "parentOf", "(I)I"⟩, prog_4_method_11_code, 2, (some .int), [])
def zY_Shapes_upTheChain : z_Y9 := (⟨"ThingStream$Shapes", "upTheChain", "(II)I"⟩, prog_4_method_13_code, 5, (some .int), [])
def zY_Things_emptyFields : z_Y9 := (⟨"ThingStream$Things", "emptyFields", "(IILThingStream$Shapes;)V"⟩, prog_6_method_12_code, 5, none, [])
def zY_Things_slotOfField : z_Y9 := (⟨"ThingStream$Things", "slotOfField", "(III)I"⟩, prog_6_method_8_code, 4, (some .int), [])
def zY_Things_firstSlot : z_Y9 := (⟨"ThingStream$Things", "firstSlot", "(I)I"⟩, prog_6_method_7_code, 2, (some .int), [])
def zY_Shapes_kindOf : z_Y9 := (⟨"ThingStream$Shapes", "kindOf", "(II)I"⟩, prog_4_method_10_code, 3, (some .int), [])
def zY_TS_row : z_Y9 := (⟨"ThingStream", "row", "(I)I"⟩, prog_1_method_5_code, 2, (some .int), [])
def zY_Things_addRow : z_Y9 := (⟨"ThingStream$Things", "addRow", "(I)I"⟩, prog_6_method_10_code, 4, (some .int), [])
def zY_TS_set : z_Y9 := (⟨"ThingStream", "set", "(IIIJ)Z"⟩, prog_1_method_6_code, 8, (some .boolean), [])
def zY_Side_slotOf : z_Y9 := (⟨"ThingStream$Side", "slotOf", "(III)I"⟩, prog_5_method_2_code, 5, (some .int), [])
def zY_Things_isRecord : z_Y9 := (⟨"ThingStream$Things", "isRecord", "(I)Z"⟩, prog_6_method_4_code, 2, (some .boolean), [])
def zY_Things_has : z_Y9 := (⟨"ThingStream$Things", "has", "(I)Z"⟩, prog_6_method_2_code, 2, (some .boolean), [])
def zY_Shapes_chainHas : z_Y9 := (⟨"ThingStream$Shapes", "chainHas", "(II)Z"⟩, prog_4_method_14_code, 5, (some .boolean), [])
def zY_TS_cutToKind : z_Y9 := (⟨"ThingStream", "cutToKind", "(JI)J"⟩, prog_1_method_23_code, 4, (some .long), [])
def zY_TS_bytesOfKind : z_Y9 := (⟨"ThingStream", "bytesOfKind", "(I)I"⟩, prog_1_method_22_code, 1, (some .int), [])
def zY_Things_mayLinkTo : z_Y9 := (⟨"ThingStream$Things", "mayLinkTo", "(J)Z"⟩, prog_6_method_6_code, 3, (some .boolean), [])
def zY_TS_link : z_Y9 := (⟨"ThingStream", "link", "(III)Z"⟩, prog_1_method_7_code, 4, (some .boolean), [])
def zY_Things_hasLink : z_Y9 := (⟨"ThingStream$Things", "hasLink", "(II)Z"⟩, prog_6_method_5_code, 3, (some .boolean), [])
def zY_TS_write : z_Y9 := (⟨"ThingStream", "write", "(I)I"⟩, prog_1_method_8_code, 2, (some .int), [])
def zY_Writer_begin : z_Y9 := (⟨"ThingStream$Writer", "begin", "()V"⟩, prog_7_method_2_code, 1, none, [])
def zY_Arrays_fill : z_Y9 := (⟨"java/util/Arrays", "fill", "([II)V"⟩, prog_17_method_103_code, 4, none, [])
def zY_Bytes_removeAll : z_Y9 := (⟨"ThingStream$Bytes", "removeAll", "()V"⟩, prog_2_method_4_code, 1, none, [])
def zY_Bytes_append : z_Y9 := (⟨"ThingStream$Bytes", "append", "(I)V"⟩, prog_2_method_5_code, 2, none, [])
def zY_Bytes_isFull : z_Y9 := (⟨"ThingStream$Bytes", "isFull", "()Z"⟩, prog_2_method_3_code, 1, (some .boolean), [])
def zY_Writer_writeValue : z_Y9 := (⟨"ThingStream$Writer", "writeValue", "(II)V"⟩, prog_7_method_3_code, 3, none, [])
def zY_Writer_writeHandle : z_Y9 := (⟨"ThingStream$Writer", "writeHandle", "(I)V"⟩, prog_7_method_9_code, 2, none, [])
def zY_Writer_writeNumber : z_Y9 := (⟨"ThingStream$Writer", "writeNumber", "(JI)V"⟩, prog_7_method_10_code, 5, none, [])
def zY_Writer_writeRecord : z_Y9 := (⟨"ThingStream$Writer", "writeRecord", "(II)V"⟩, prog_7_method_5_code, 5, none, [])
def zY_Writer_writeDescription : z_Y9 := (⟨"ThingStream$Writer", "writeDescription", "(I)V"⟩, prog_7_method_7_code, 4, none, [])
def zY_Writer_writeNewDescription : z_Y9 := (⟨"ThingStream$Writer", "writeNewDescription", "(I)V"⟩, prog_7_method_8_code, 3, none, [])
def zY_Writer_nextHandle : z_Y9 := (⟨"ThingStream$Writer", "nextHandle", "()I"⟩, prog_7_method_11_code, 1, (some .int), [])
def zY_Writer_writeFields : z_Y9 := (⟨"ThingStream$Writer", "writeFields", "(III)V"⟩, prog_7_method_6_code, 8, none, [])
def zY_Writer_writeRow : z_Y9 := (⟨"ThingStream$Writer", "writeRow", "(II)V"⟩, prog_7_method_4_code, 5, none, [])
def zY_TS_clear : z_Y9 := (⟨"ThingStream", "clear", "()V"⟩, prog_1_method_9_code, 1, none, [])
def zY_TS_at : z_Y9 := (⟨"ThingStream", "at", "(I)I"⟩, prog_1_method_10_code, 2, (some .int), [])
def zY_Bytes_has : z_Y9 := (⟨"ThingStream$Bytes", "has", "(I)Z"⟩, prog_2_method_2_code, 2, (some .boolean), [])
def zY_TS_put : z_Y9 := (⟨"ThingStream", "put", "(II)Z"⟩, prog_1_method_11_code, 3, (some .boolean), [])
def zY_TS_cut : z_Y9 := (⟨"ThingStream", "cut", "(I)Z"⟩, prog_1_method_12_code, 2, (some .boolean), [])
def zY_TS_limit : z_Y9 := (⟨"ThingStream", "limit", "(II)Z"⟩, prog_1_method_13_code, 3, (some .boolean), [])
def zY_Reader_changeLimit : z_Y9 := (⟨"ThingStream$Reader", "changeLimit", "(II)Z"⟩, prog_3_method_2_code, 3, (some .boolean), [])
def zY_TS_position : z_Y9 := (⟨"ThingStream", "position", "()I"⟩, prog_1_method_15_code, 1, (some .int), [])
def zY_TS_things : z_Y9 := (⟨"ThingStream", "things", "(I)I"⟩, prog_1_method_16_code, 3, (some .int), [])
def zY_TS_thing : z_Y9 := (⟨"ThingStream", "thing", "(III)I"⟩, prog_1_method_17_code, 5, (some .int), [])
def zY_TS_get : z_Y9 := (⟨"ThingStream", "get", "(IIII)J"⟩, prog_1_method_18_code, 7, (some .long), [])
def zY_TS_goes : z_Y9 := (⟨"ThingStream", "goes", "(III)I"⟩, prog_1_method_19_code, 5, (some .int), [])
def zY_Law_read : z_Y9 := (⟨"ThingStreamLaw", "read", "(LThingStream;[J)I"⟩, method_3_code, 3, (some .int), [(0, 8, 11, 13), (0, 8, 14, 15), (0, 8, 17, 17)])
def zY_TS_read : z_Y9 := (⟨"ThingStream", "read", "()I"⟩, prog_1_method_14_code, 1, (some .int), [])
def zY_Reader_begin : z_Y9 := (⟨"ThingStream$Reader", "begin", "()V"⟩, prog_3_method_3_code, 1, none, [])
def zY_Reader_filtered : z_Y9 := (⟨"ThingStream$Reader", "filtered", "(I)V"⟩, prog_3_method_21_code, 2, none, [])
def zY_Reader_nextByte : z_Y9 := (⟨"ThingStream$Reader", "nextByte", "()I"⟩, prog_3_method_18_code, 1, (some .int), [])
def zY_Reader_wrong : z_Y9 := (⟨"ThingStream$Reader", "wrong", "(I)V"⟩, prog_3_method_19_code, 2, none, [])
def zY_Reader_readValue : z_Y9 := (⟨"ThingStream$Reader", "readValue", "(I)I"⟩, prog_3_method_5_code, 3, (some .int), [])
def zY_Reader_readThingHandle : z_Y9 := (⟨"ThingStream$Reader", "readThingHandle", "()I"⟩, prog_3_method_7_code, 3, (some .int), [])
def zY_Reader_readNumber : z_Y9 := (⟨"ThingStream$Reader", "readNumber", "(I)J"⟩, prog_3_method_17_code, 5, (some .long), [])
def zY_Reader_admit : z_Y9 := (⟨"ThingStream$Reader", "admit", "(II)V"⟩, prog_3_method_6_code, 3, none, [])
def zY_Reader_readRecord : z_Y9 := (⟨"ThingStream$Reader", "readRecord", "(I)I"⟩, prog_3_method_9_code, 7, (some .int), [])
def zY_Reader_readDescription : z_Y9 := (⟨"ThingStream$Reader", "readDescription", "(I)I"⟩, prog_3_method_11_code, 3, (some .int), [])
def zY_Reader_readDescriptionHandle : z_Y9 := (⟨"ThingStream$Reader", "readDescriptionHandle", "(I)I"⟩, prog_3_method_12_code, 4, (some .int), [])
def zY_Reader_readNewDescription : z_Y9 := (⟨"ThingStream$Reader", "readNewDescription", "(II)I"⟩, prog_3_method_13_code, 7, (some .int), [])
def zY_Reader_readFieldOf : z_Y9 := (⟨"ThingStream$Reader", "readFieldOf", "(I)V"⟩, prog_3_method_14_code, 4, none, [])
def zY_Shapes_comesLast : z_Y9 := (⟨"ThingStream$Shapes", "comesLast", "(III)Z"⟩, prog_4_method_6_code, 5, (some .boolean), [])
def zY_Reader_giveHandle : z_Y9 := (⟨"ThingStream$Reader", "giveHandle", "(II)V"⟩, prog_3_method_16_code, 3, none, [])
def zY_Reader_isStrange : z_Y9 := (⟨"ThingStream$Reader", "isStrange", "(I)Z"⟩, prog_3_method_15_code, 5, (some .boolean), [])
def zY_Reader_strange : z_Y9 := (⟨"ThingStream$Reader", "strange", "(I)V"⟩, prog_3_method_20_code, 2, none, [])
def zY_Reader_readFields : z_Y9 := (⟨"ThingStream$Reader", "readFields", "(III)V"⟩, prog_3_method_10_code, 10, none, [])
def zY_Reader_readRow : z_Y9 := (⟨"ThingStream$Reader", "readRow", "(I)I"⟩, prog_3_method_8_code, 6, (some .int), [])
def zY_Reader_finish : z_Y9 := (⟨"ThingStream$Reader", "finish", "()V"⟩, prog_3_method_4_code, 2, none, [])
def zY_Model_init : z_Y9 := (⟨"ThingStreamModel", "<init>", "()V"⟩, prog_9_method_1_code, 1, none, [])
def zY_Model_thrown : z_Y9 := (⟨"ThingStreamModel", "thrown", "()I"⟩, prog_9_method_2_code, 1, (some .int), [])
def zY_Model_shape : z_Y9 := (⟨"ThingStreamModel", "shape", "(IIII)Z"⟩, prog_9_method_4_code, 6, (some .boolean), [])
def zY_Model_in : z_Y9 := (⟨"ThingStreamModel", "in", "(III)Z"⟩, prog_9_method_3_code, 3, (some .boolean), [])
def zY_Model_field : z_Y9 := (⟨"ThingStreamModel", "field", "(IIII)Z"⟩, prog_9_method_6_code, 7, (some .boolean), [])
def zY_Model_fieldOf : z_Y9 := (⟨"ThingStreamModel", "fieldOf", "(II)I"⟩, prog_9_method_5_code, 4, (some .int), [])
def zY_Model_order : z_Y9 := (⟨"ThingStreamModel", "order", "(II)I"⟩, prog_9_method_7_code, 2, (some .int), [])
def zY_Model_build : z_Y9 := (⟨"ThingStreamModel", "build", "(I)I"⟩, prog_9_method_12_code, 3, (some .int), [])
def zY_Model_fill : z_Y9 := (⟨"ThingStreamModel", "fill", "(II)V"⟩, prog_9_method_11_code, 6, none, [])
def zY_Model_above : z_Y9 := (⟨"ThingStreamModel", "above", "(II)I"⟩, prog_9_method_8_code, 4, (some .int), [])
def zY_Model_row : z_Y9 := (⟨"ThingStreamModel", "row", "(I)I"⟩, prog_9_method_13_code, 4, (some .int), [])
def zY_Model_set : z_Y9 := (⟨"ThingStreamModel", "set", "(IIIJ)Z"⟩, prog_9_method_16_code, 7, (some .boolean), [])
def zY_Model_fieldIn : z_Y9 := (⟨"ThingStreamModel", "fieldIn", "(IIII)I"⟩, prog_9_method_15_code, 5, (some .int), [])
def zY_Model_isThing : z_Y9 := (⟨"ThingStreamModel", "isThing", "(II)Z"⟩, prog_9_method_14_code, 3, (some .boolean), [])
def zY_Model_isInChain : z_Y9 := (⟨"ThingStreamModel", "isInChain", "(III)Z"⟩, prog_9_method_9_code, 5, (some .boolean), [])
def zY_Model_cut : z_Y9 := (⟨"ThingStreamModel", "cut", "(JI)J"⟩, prog_9_method_10_code, 3, (some .long), [])
def zY_Model_link : z_Y9 := (⟨"ThingStreamModel", "link", "(III)Z"⟩, prog_9_method_17_code, 4, (some .boolean), [])
def zY_Model_clear : z_Y9 := (⟨"ThingStreamModel", "clear", "()V"⟩, prog_9_method_18_code, 1, none, [])
def zY_Model_write : z_Y9 := (⟨"ThingStreamModel", "write", "(I)I"⟩, prog_9_method_26_code, 3, (some .int), [])
def zY_Model_say : z_Y9 := (⟨"ThingStreamModel", "say", "(I)V"⟩, prog_9_method_19_code, 2, none, [])
def zY_Model_sayValue : z_Y9 := (⟨"ThingStreamModel", "sayValue", "(I)V"⟩, prog_9_method_23_code, 2, none, [])
def zY_Model_sayHandle : z_Y9 := (⟨"ThingStreamModel", "sayHandle", "(I)V"⟩, prog_9_method_20_code, 2, none, [])
def zY_Model_sayDescription : z_Y9 := (⟨"ThingStreamModel", "sayDescription", "(I)V"⟩, prog_9_method_22_code, 4, none, [])
def zY_Model_sayNumber : z_Y9 := (⟨"ThingStreamModel", "sayNumber", "(JI)V"⟩, prog_9_method_21_code, 6, none, [])
def zY_Model_sayMore : z_Y9 := (⟨"ThingStreamModel", "sayMore", "()V"⟩, prog_9_method_25_code, 8, none, [])
def zY_Model_fieldNumber : z_Y9 := (⟨"ThingStreamModel", "fieldNumber", "(II)I"⟩, prog_9_method_24_code, 6, (some .int), [])
def zY_Model_at : z_Y9 := (⟨"ThingStreamModel", "at", "(I)I"⟩, prog_9_method_27_code, 2, (some .int), [])
def zY_Model_put : z_Y9 := (⟨"ThingStreamModel", "put", "(II)Z"⟩, prog_9_method_28_code, 3, (some .boolean), [])
def zY_Model_cut2 : z_Y9 := (⟨"ThingStreamModel", "cut", "(I)Z"⟩, prog_9_method_29_code, 2, (some .boolean), [])
def zY_Model_limit : z_Y9 := (⟨"ThingStreamModel", "limit", "(II)Z"⟩, prog_9_method_30_code, 4, (some .boolean), [])
def zY_Model_read : z_Y9 := (⟨"ThingStreamModel", "read", "()I"⟩, prog_9_method_49_code, 2, (some .int), [])
def zY_Model_readAll : z_Y9 := (⟨"ThingStreamModel", "readAll", "()Z"⟩, prog_9_method_47_code, 6, (some .boolean), [])
def zY_Model_fail : z_Y9 := (⟨"ThingStreamModel", "fail", "(II)Z"⟩, prog_9_method_31_code, 3, (some .boolean), [])
def zY_Model_has : z_Y9 := (⟨"ThingStreamModel", "has", "(I)Z"⟩, prog_9_method_32_code, 2, (some .boolean), [])
def zY_Model_take : z_Y9 := (⟨"ThingStreamModel", "take", "()I"⟩, prog_9_method_33_code, 1, (some .int), [])
def zY_Model_begin : z_Y9 := (⟨"ThingStreamModel", "begin", "()I"⟩, prog_9_method_40_code, 4, (some .int), [])
def zY_Model_takeHandle : z_Y9 := (⟨"ThingStreamModel", "takeHandle", "(Z)I"⟩, prog_9_method_35_code, 4, (some .int), [])
def zY_Model_beginRecord : z_Y9 := (⟨"ThingStreamModel", "beginRecord", "()Z"⟩, prog_9_method_41_code, 3, (some .boolean), [])
def zY_Model_description : z_Y9 := (⟨"ThingStreamModel", "description", "()I"⟩, prog_9_method_39_code, 10, (some .int), [])
def zY_Model_describe : z_Y9 := (⟨"ThingStreamModel", "describe", "(II)Z"⟩, prog_9_method_36_code, 4, (some .boolean), [])
def zY_Model_takeNumber : z_Y9 := (⟨"ThingStreamModel", "takeNumber", "(I)J"⟩, prog_9_method_34_code, 6, (some .long), [])
def zY_Model_describeField : z_Y9 := (⟨"ThingStreamModel", "describeField", "(II)Z"⟩, prog_9_method_37_code, 5, (some .boolean), [])
def zY_Model_agrees : z_Y9 := (⟨"ThingStreamModel", "agrees", "(I)Z"⟩, prog_9_method_38_code, 6, (some .boolean), [])
def zY_Model_beginRow : z_Y9 := (⟨"ThingStreamModel", "beginRow", "()Z"⟩, prog_9_method_42_code, 2, (some .boolean), [])
def zY_Model_store : z_Y9 := (⟨"ThingStreamModel", "store", "(I)V"⟩, prog_9_method_46_code, 4, none, [])
def zY_Model_readField : z_Y9 := (⟨"ThingStreamModel", "readField", "(II)I"⟩, prog_9_method_43_code, 6, (some .int), [])
def zY_Model_keep : z_Y9 := (⟨"ThingStreamModel", "keep", "(IIJ)V"⟩, prog_9_method_44_code, 6, none, [])
def zY_Model_goOn : z_Y9 := (⟨"ThingStreamModel", "goOn", "()I"⟩, prog_9_method_45_code, 4, (some .int), [])
def zY_Model_becomeThings : z_Y9 := (⟨"ThingStreamModel", "becomeThings", "()V"⟩, prog_9_method_48_code, 7, none, [])
def zY_Model_position : z_Y9 := (⟨"ThingStreamModel", "position", "()I"⟩, prog_9_method_50_code, 1, (some .int), [])
def zY_Model_things : z_Y9 := (⟨"ThingStreamModel", "things", "(I)I"⟩, prog_9_method_51_code, 2, (some .int), [])
def zY_Model_thing : z_Y9 := (⟨"ThingStreamModel", "thing", "(III)I"⟩, prog_9_method_52_code, 4, (some .int), [])
def zY_Model_get : z_Y9 := (⟨"ThingStreamModel", "get", "(IIII)J"⟩, prog_9_method_53_code, 5, (some .long), [])
def zY_Model_goes : z_Y9 := (⟨"ThingStreamModel", "goes", "(III)I"⟩, prog_9_method_54_code, 4, (some .int), [])
def zY_Law_law : z_Y9 := (⟨"ThingStreamLaw", "law", "([I)Z"⟩, code, 7, (some .boolean), [])
end
section
/-! A small machine over worlds: values whose references are numbers of cells; a frame is pc, named locals, stack; a heap is a number of cells and a function. zEx: from this frame the body comes to an end with Q. zCl: the method, called so, comes to an end with Q. An end is an answer or a thrown exception's kind. -/
def z_v (al : Nat → Nat) (v : Value) : Value := match v with
  | .ref i => .ref (al i)
  | u => u
def z_ok (n : Nat) (v : Value) : Prop := match v with
  | .ref i => i < n
  | _ => True
def z_E (kA : Nat → Nat) (al : Nat → Nat) (c : va_E) : va_E := match c with
  | .inl q => .inl (kA q.1, q.2)
  | .inr o => .inr (o.1, o.2.map (z_v al))
def z_okE (n : Nat) (c : va_E) : Prop := match c with
  | .inl _ => True
  | .inr o => ∀ v ∈ o.2, z_ok n v
/-- cells, what they hold, how many cells and slots may still be made -/
abbrev z_M : Type := Nat × (Nat → va_E) × Nat × Nat
/-- an answer, or the kind of what was thrown -/
abbrev z_O : Type := Option Value ⊕ Nat
/-- the launch, the law's own first state, classes and slots, classes of arrays -/
abbrev z_W : Type := Launch × State × va_G × (Nat → Nat)
abbrev z_Y : Type := MethodName × ByteArray × Nat × Option FieldType × List (Nat × Nat × Nat × Nat)
/-- the word that says a method's code -/
def z_cw (Y : z_Y) : Cond := if Y.2.2.2.2 = [] then .code Y.1 Y.2.1 Y.2.2.1 Y.2.2.2.1 else .codeWith Y.1 Y.2.1 Y.2.2.1 Y.2.2.2.1 Y.2.2.2.2
def z_ws (kA : Nat → Nat) (al : Nat → Nat) (M : z_M) : va_W := (List.range (M.1 - 2)).map fun j => (al (j + 2), z_E kA al (M.2.1 (j + 2)))
def z_A (w : z_W) : Nat → Prop := fun q => w.2.1.heap.size ≤ q
def z_tys (w : z_W) : List (ClassId × FieldType) := [(w.2.2.2 0, .int), (w.2.2.2 1, .long), (w.2.2.2 2, .boolean)]
/-- a word of the tables holds wherever the run can be -/
def z_has (w : z_W) (c : Cond) : Prop := ∀ (A : Array Value) (U : State), w.2.1.WarmedH U.vm → c.before A U = true
def z_Rel (w : z_W) (al : Nat → Nat) (M : z_M) (H : Heap) : Prop :=
  va_P w.2.2.1 vwCl (z_ws w.2.2.2 al M) H ∧ va_D (z_A w) (z_ws w.2.2.2 al M) ∧ (∀ i, 2 ≤ i → i < M.1 → z_okE M.1 (M.2.1 i)) ∧
  (∀ i, i < 2 → ∃ (L : Nat) (f : Nat → Int32), M.2.1 i = .inl (0, L, .inl f) ∧ va_X (al i) L f w.2.1 w.2.1.heap ∧ al i < w.2.1.heap.size ∧ al i = w.2.2.2 (10 + i)) ∧ 2 ≤ M.1
def z_In (w : z_W) (Y : z_Y) (d : Nat) (p : Program) (R : Room) (s : State) (m : MethodId) (meth : Method) (c : Code) : Prop :=
  p.tables.exec = Jvm.exec ∧ c.code = Y.2.1 ∧ c.maxLocals = Y.2.2.1 ∧ meth.sig.returnType = Y.2.2.2.1 ∧ meth.locks = false ∧ s.vm.findClass Y.1.cls = some m.cls ∧ meth.name = Y.1.name ∧
  c.exceptionTable.toList = tableOf Y.2.2.2.2 ∧ w.2.1.WarmedH s.vm ∧ d ≤ R.frames ∧ 64 * d ≤ R.locals
def z_Pt (w : z_W) (R : Room) (ae : Nat → Nat) (ne : Nat) (al : Nat → Nat) (M : z_M) (H : Heap) (locs : List Loc) (cells slots : Nat) : Prop :=
  va_S (z_A w) w.2.1.heap H locs ∧ (∀ i, i < ne → al i = ae i) ∧ ne ≤ M.1 ∧ cells + M.2.2.1 ≤ R.cells ∧ slots + M.2.2.2 ≤ R.slots
def z_Lv (al : Nat → Nat) (n nL : Nat) (ls : Array Slot) (lv : List (Nat × Value)) : Prop :=
  lv_has ls nL (lv.map fun q => (q.1, z_v al q.2)) ∧ ∀ q ∈ lv, z_ok n q.2
def z_exc (k : Nat) : String := if k = 1 then "java/lang/IllegalArgumentException" else if k = 2 then "java/lang/IllegalStateException" else "java/lang/UnsupportedOperationException"
def z_Out (w : z_W) (al : Nat → Nat) (n : Nat) (out : z_O) (o : Outcome) (t : State) : Prop := match out with
  | .inl v => o = .returned (v.map (z_v al)) ∧ ∀ u, v = some u → z_ok n u
  | .inr k => ∃ (q : Addr) (ce : Cell), o = .threw q ∧ t.heap[q]? = some ce ∧ ce.vm = .none ∧ w.2.1.vm.findClass (z_exc k) = some ce.cls
def z_Post (w : z_W) (s : State) (R : Room) (ae : Nat → Nat) (ne : Nat) (Q : z_O → z_M → Prop) (o : Outcome) (t : State) : Prop :=
  ∃ (out : z_O) (M : z_M) (al : Nat → Nat) (L : List Loc) (k n : Nat), Q out M ∧ z_Out w al M.1 out o t ∧ z_Rel w al M t.heap ∧ z_Pt w R ae ne al M t.heap L k n ∧
    s.WarmedH t.vm ∧ s.sameButNew ({ t with vm := s.vm } : State) L k n
def z_End (w : z_W) (below : List Frame) (s : State) (R : Room) (ae : Nat → Nat) (ne : Nat) (Q : z_O → z_M → Prop) : State → Prop := fun t =>
  ∃ o, t.status = .running ∧ Ended t below o ∧ z_Post w s R ae ne Q o t
def z_Ex (w : z_W) (Y : z_Y) (d : Nat) (Q : z_O → z_M → Prop) (pc : Nat) (lv : List (Nat × Value)) (st : List Value) (M : z_M) : Prop :=
  ∀ (p : Program) (e : Env) (R : Room) (s : State) (m : MethodId) (args : Array Value) (below : List Frame) (meth : Method) (c : Code) (H : Heap) (locs : List Loc) (cells slots : Nat) (al ae : Nat → Nat) (ne : Nat) (ls : Array Slot),
    z_In w Y d p R s m meth c → z_Rel w al M H → z_Pt w R ae ne al M H locs cells slots → z_Lv al M.1 Y.2.2.1 ls lv → (∀ v ∈ st, z_ok M.1 v) →
    W p w.1 e R s m args below meth c H locs cells slots (z_End w below s R ae ne Q) (F0 m pc ls (st.map (z_v al)))
def z_room (d : Nat) (M : z_M) : Room := { frames := d, cells := M.2.2.1, slots := M.2.2.2, locals := 64 * d }
def z_Pre (w : z_W) (al : Nat → Nat) (as : List Value) (M : z_M) : Array Value → State → Prop := fun a U =>
  a = (as.map (z_v al)).toArray ∧ w.2.1.WarmedH U.vm ∧ z_Rel w al M U.heap ∧ va_S (z_A w) w.2.1.heap U.heap [] ∧ ∀ v ∈ as, z_ok M.1 v
def z_Cl (w : z_W) (Y : z_Y) (d : Nat) (as : List Value) (M : z_M) (Q : z_O → z_M → Prop) : Prop :=
  ∀ al, MetFree w.1 Y.1 (headSpec [z_cw Y] (z_room d M)) (z_Pre w al as M) (fun _ _ _ _ _ => True) (fun _ st o t => z_Post w st (z_room d M) al M.1 Q o t)
-- ---------- small facts
theorem z_v_int {al : Nat → Nat} {x : Int32} : z_v al (.int x) = .int x := rfl
theorem z_v_cat {al : Nat → Nat} (v : Value) : (z_v al v).category = v.category := by cases v <;> rfl
theorem z_v_ext {al be : Nat → Nat} {n : Nat} (h : ∀ i, i < n → be i = al i) {v : Value} (hv : z_ok n v) : z_v be v = z_v al v := by
  cases v with
  | ref i => exact congrArg Value.ref (h i hv)
  | _ => rfl
theorem z_ok_mono {n k : Nat} (h : n ≤ k) {v : Value} (hv : z_ok n v) : z_ok k v := by
  cases v with
  | ref i => exact Nat.lt_of_lt_of_le hv h
  | _ => trivial
theorem z_okE_mono {n k : Nat} (h : n ≤ k) {c : va_E} (hc : z_okE n c) : z_okE k c := by
  cases c with
  | inl q => trivial
  | inr o => exact fun v hv => z_ok_mono h (hc v hv)
theorem z_E_ext {kA al be : Nat → Nat} {n : Nat} (h : ∀ i, i < n → be i = al i) {c : va_E} (hc : z_okE n c) : z_E kA be c = z_E kA al c := by
  cases c with
  | inl q => rfl
  | inr o =>
    show (Sum.inr (o.1, o.2.map (z_v be)) : va_E) = .inr (o.1, o.2.map (z_v al))
    rw [List.map_congr_left (fun v hv => z_v_ext h (hc v hv))]
theorem z_st_ext {al be : Nat → Nat} {n : Nat} (h : ∀ i, i < n → be i = al i) {st : List Value} (hv : ∀ v ∈ st, z_ok n v) : st.map (z_v be) = st.map (z_v al) :=
  List.map_congr_left (fun v h9 => z_v_ext h (hv v h9))
theorem z_Lv_ext {al be : Nat → Nat} {n k nL : Nat} (hk : n ≤ k) (h : ∀ i, i < n → be i = al i) {ls : Array Slot} {lv : List (Nat × Value)} (hl : z_Lv al n nL ls lv) : z_Lv be k nL ls lv := by
  refine ⟨?_, fun q hq => z_ok_mono hk (hl.2 q hq)⟩
  have e : (lv.map fun q => (q.1, z_v be q.2)) = lv.map fun q => (q.1, z_v al q.2) := List.map_congr_left (fun q hq => by rw [z_v_ext h (hl.2 q hq)])
  rw [e]
  exact hl.1
theorem z_ws_get {kA al : Nat → Nat} {M : z_M} {i : Nat} (h2 : 2 ≤ i) (hi : i < M.1) : (z_ws kA al M)[i - 2]? = some (al i, z_E kA al (M.2.1 i)) := by
  unfold z_ws
  rw [List.getElem?_map, List.getElem?_range (by omega)]
  show some (al (i - 2 + 2), z_E kA al (M.2.1 (i - 2 + 2))) = _
  rw [Nat.sub_add_cancel h2]
theorem z_ws_set {kA al : Nat → Nat} {M : z_M} {i : Nat} (h2 : 2 ≤ i) (hi : i < M.1) (c : va_E) (a b : Nat) : (z_ws kA al M).set (i - 2) (al i, z_E kA al c) = z_ws kA al (M.1, va_up M.2.1 i c, a, b) := by
  apply List.ext_getElem?
  intro k
  unfold z_ws
  by_cases hk : k = i - 2
  · subst hk
    rw [List.getElem?_set_self (by simp; omega), List.getElem?_map, List.getElem?_range (by omega)]
    show _ = some (al (i - 2 + 2), z_E kA al (va_up M.2.1 i c (i - 2 + 2)))
    rw [Nat.sub_add_cancel h2]
    simp [va_up]
  · rw [List.getElem?_set_ne (Ne.symm hk), List.getElem?_map, List.getElem?_map]
    cases hq : (List.range (M.1 - 2))[k]? with
    | none => rfl
    | some j =>
      have hj : j = k := by
        have h9 := List.getElem?_eq_some_iff.mp hq
        obtain ⟨h8, h7⟩ := h9
        rw [List.getElem_range] at h7
        exact h7.symm
      subst hj
      have hne : ¬ j + 2 = i := by omega
      simp [va_up, hne]
theorem z_ws_push {kA al : Nat → Nat} {M : z_M} (h2 : 2 ≤ M.1) (hok : ∀ i, 2 ≤ i → i < M.1 → z_okE M.1 (M.2.1 i)) (q : Nat) (c : va_E) (hc : z_okE M.1 c) (a b : Nat) :
    z_ws kA al M ++ [(q, z_E kA al c)] = z_ws kA (va_up al M.1 q) (M.1 + 1, va_up M.2.1 M.1 c, a, b) := by
  have hext : ∀ i, i < M.1 → va_up al M.1 q i = al i := fun i hi => by
    have hne : ¬ i = M.1 := by omega
    simp [va_up, hne]
  unfold z_ws
  show _ = (List.range (M.1 + 1 - 2)).map _
  rw [show M.1 + 1 - 2 = (M.1 - 2) + 1 by omega, List.range_succ, List.map_append]
  congr 1
  · apply List.map_congr_left
    intro j hj
    have hj2 := List.mem_range.mp hj
    have hlt : j + 2 < M.1 := by omega
    have hne : ¬ j + 2 = M.1 := by omega
    show _ = (va_up al M.1 q (j + 2), z_E kA (va_up al M.1 q) (va_up M.2.1 M.1 c (j + 2)))
    have e1 : va_up M.2.1 M.1 c (j + 2) = M.2.1 (j + 2) := by simp [va_up, hne]
    rw [e1, hext _ hlt, z_E_ext hext (hok _ (by omega) hlt)]
  · show [(q, z_E kA al c)] = [(va_up al M.1 q (M.1 - 2 + 2), z_E kA (va_up al M.1 q) (va_up M.2.1 M.1 c (M.1 - 2 + 2)))]
    rw [Nat.sub_add_cancel h2]
    have e1 : va_up M.2.1 M.1 c M.1 = c := by simp [va_up]
    have e2 : va_up al M.1 q M.1 = q := by simp [va_up]
    rw [e1, e2, z_E_ext hext hc]
theorem z_up_old {al : Nat → Nat} {n q : Nat} : ∀ i, i < n → va_up al n q i = al i := fun i hi => by
  have e : ¬ i = n := by omega
  simp [va_up, e]
theorem z_Rel.set {w : z_W} {al : Nat → Nat} {M : z_M} {H H1 : Heap} {i : Nat} {c : va_E} (h : z_Rel w al M H) (h2 : 2 ≤ i) (hi : i < M.1) (hc : z_okE M.1 c)
    (hP : va_P w.2.2.1 vwCl ((z_ws w.2.2.2 al M).set (i - 2) (al i, z_E w.2.2.2 al c)) H1) (hD : va_D (z_A w) ((z_ws w.2.2.2 al M).set (i - 2) (al i, z_E w.2.2.2 al c))) : z_Rel w al (M.1, va_up M.2.1 i c, M.2.2) H1 := by
  rw [z_ws_set h2 hi c M.2.2.1 M.2.2.2] at hP hD
  refine ⟨hP, hD, fun j h3 h4 => ?_, fun j hj => ?_, h.2.2.2.2⟩
  · show z_okE M.1 (va_up M.2.1 i c j)
    by_cases e : j = i
    · subst e; simpa [va_up] using hc
    · simpa [va_up, e] using h.2.2.1 j h3 h4
  · obtain ⟨L, f, e1, e2, e3⟩ := h.2.2.2.1 j hj
    have e : ¬ j = i := by omega
    exact ⟨L, f, by simpa [va_up, e] using e1, e2, e3⟩
theorem z_Rel.push {w : z_W} {al : Nat → Nat} {M : z_M} {H H1 : Heap} {q : Nat} {c : va_E} {a b : Nat} (h : z_Rel w al M H) (hc : z_okE M.1 c)
    (hP : va_P w.2.2.1 vwCl (z_ws w.2.2.2 al M ++ [(q, z_E w.2.2.2 al c)]) H1) (hD : va_D (z_A w) (z_ws w.2.2.2 al M ++ [(q, z_E w.2.2.2 al c)])) : z_Rel w (va_up al M.1 q) (M.1 + 1, va_up M.2.1 M.1 c, a, b) H1 := by
  rw [z_ws_push h.2.2.2.2 h.2.2.1 q c hc a b] at hP hD
  have h2 := h.2.2.2.2
  refine ⟨hP, hD, fun j h3 h4 => ?_, fun j hj => ?_, Nat.le_succ_of_le h2⟩
  · show z_okE (M.1 + 1) (va_up M.2.1 M.1 c j)
    by_cases e : j = M.1
    · subst e; simpa [va_up] using z_okE_mono (Nat.le_succ _) hc
    · have h5 : j < M.1 := by have : j < M.1 + 1 := h4; omega
      simpa [va_up, e] using z_okE_mono (Nat.le_succ _) (h.2.2.1 j h3 h5)
  · obtain ⟨L, f, e1, e2, e3⟩ := h.2.2.2.1 j hj
    have e : ¬ j = M.1 := by omega
    have e9 : va_up al M.1 q j = al j := z_up_old j (by omega)
    refine ⟨L, f, by simpa [va_up, e] using e1, ?_⟩
    rw [e9]
    exact ⟨e2, e3⟩
theorem W.mono9 {p : Program} {l : Launch} {e : Env} {R : Room} {s : State} {m : MethodId} {args : Array Value} {below : List Frame} {meth : Method} {c : Code} {H : Heap} {locs : List Loc} {cells slots : Nat} {Q Q' : State → Prop} {g : JFrame}
    (h : ∀ t, Q t → Q' t) (k : W p l e R s m args below meth c H locs cells slots Q g) : W p l e R s m args below meth c H locs cells slots Q' g := fun T hT X => by
  obtain ⟨t, a, b⟩ := k T hT X
  exact ⟨t, a, h t b⟩
/-- a word that stays where the tables only get warmer -/
def z_gw (c : Cond) : Bool := match c with
  | .fieldLinkNest .. => true
  | .methodLinkNest .. => true
  | c => goodWord c
theorem z_gw_at {c : Cond} {s U : State} {A A' : Array Value} (hW : s.WarmedH U.vm) (hg : z_gw c = true) (h : c.before A s = true) : c.before A' U = true := by
  by_cases h1 : goodWord c = true
  · exact word_at hW (good_of_word h1) h
  · cases c <;> first
      | exact absurd hg h1
      | exact va_Nw.use rfl (va_Nw.warmF hW (va_Nw.of rfl h))
      | exact va_Nw.use rfl (va_Nw.warmM hW (va_Nw.of rfl h))
theorem z_has_of {w : z_W} {c : Cond} {A : Array Value} (hg : z_gw c = true) (h : c.before A w.2.1 = true) : z_has w c := fun _ _ hW => z_gw_at hW hg h
theorem z_K {w : z_W} {s : State} (h : va_K w.2.2.1 vwCl (z_tys w) w.2.1) (hW : w.2.1.WarmedH s.vm) : va_K w.2.2.1 vwCl (z_tys w) s := va_K.moved hW.alike h
theorem z_cw_spec {Y : z_Y} {s : State} {m : MethodId} {a : Array Value} (hn : s.methodNamed? Y.1 = some m) (h : (z_cw Y).before a s = true) : ∃ meth c, s.vm.method? m = some meth ∧ meth.code = some c ∧ c.code = Y.2.1 ∧ c.maxLocals = Y.2.2.1 ∧ meth.sig.returnType = Y.2.2.2.1 ∧ meth.locks = false ∧
    c.exceptionTable.toList = tableOf Y.2.2.2.2 ∧ parseMethodDescriptor Y.1.desc = some meth.sig := by
  unfold z_cw at h
  split at h
  next h0 =>
    obtain ⟨meth, c, h1, h2, h3, h4, h5, h6, h7, h8⟩ := Cond.code_spec hn h
    refine ⟨meth, c, h1, h2, h3, h4, h5, h6, ?_, h8⟩
    rw [Array.isEmpty_iff.mp h7, h0]
    rfl
  next h0 =>
    obtain ⟨m9, meth, c, hn9, h1, h2, h3, h4, h7, h5, h6, h8⟩ := Cond.codeWith_spec h
    cases Option.some.inj (hn9.symm.trans hn)
    exact ⟨meth, c, h1, h2, h3, h4, h5, h6, by rw [← h7, table_eq], h8⟩
end
section
section ZR
variable {w : z_W} {Y : z_Y} {d : Nat} {Q : z_O → z_M → Prop} {pc : Nat} {lv lv' : List (Nat × Value)} {st : List Value} {M : z_M}
def z_lk (lv : List (Nat × Value)) (i : Nat) : Option Value := (lv.find? (fun q => q.1 == i)).map Prod.snd
def z_s1 (lv : List (Nat × Value)) (i : Nat) (v : Value) : List (Nat × Value) := (i, v) :: lv.filter (fun q => !(q.1 == i) && !(q.1 + 1 == i && q.2.category == 2))
def z_s2 (lv : List (Nat × Value)) (i : Nat) (v : Value) : List (Nat × Value) := (i, v) :: lv.filter (fun q => !(q.1 == i) && (!(q.1 == i + 1) && !(q.1 + 1 == i && q.2.category == 2)))
theorem z_lk_mem {i : Nat} {v : Value} (h : z_lk lv i = some v) : (i, v) ∈ lv := by
  unfold z_lk at h
  cases hf : lv.find? (fun q => q.1 == i) with
  | none => rw [hf] at h; cases h
  | some q =>
    rw [hf] at h
    have h1 : q.2 = v := Option.some.inj h
    have h2 := List.find?_some hf
    have h3 : q.1 = i := by simpa using h2
    have h4 := List.mem_of_find?_eq_some hf
    rw [← h1, ← h3]
    exact h4
theorem z_lk_at {i : Nat} {v : Value} {al : Nat → Nat} {n nL : Nat} {ls : Array Slot} (h : z_lk lv i = some v) (hl : z_Lv al n nL ls lv) : ls[i]? = some (.val (z_v al v)) :=
  hl.1.2.2 (i, z_v al v) (List.mem_map.mpr ⟨(i, v), z_lk_mem h, rfl⟩)
theorem z_lk_ok {i : Nat} {v : Value} {n : Nat} (h : z_lk lv i = some v) (hl : ∀ q ∈ lv, z_ok n q.2) : z_ok n v := hl _ (z_lk_mem h)
theorem z_s1_map {al : Nat → Nat} {i : Nat} {v : Value} : (i, z_v al v) :: (lv.map fun q => (q.1, z_v al q.2)).filter (fun q => !(q.1 == i) && !(q.1 + 1 == i && q.2.category == 2)) = (z_s1 lv i v).map fun q => (q.1, z_v al q.2) := by
  unfold z_s1
  rw [List.map_cons, List.filter_map]
  congr 2
  apply List.filter_congr
  intro q _
  simp [z_v_cat]
theorem z_s2_map {al : Nat → Nat} {i : Nat} {v : Value} : (i, z_v al v) :: (lv.map fun q => (q.1, z_v al q.2)).filter (fun q => !(q.1 == i) && (!(q.1 == i + 1) && !(q.1 + 1 == i && q.2.category == 2))) = (z_s2 lv i v).map fun q => (q.1, z_v al q.2) := by
  unfold z_s2
  rw [List.map_cons, List.filter_map]
  congr 2
  apply List.filter_congr
  intro q _
  simp [z_v_cat]
theorem z_s1_ok {n i : Nat} {v : Value} (hv : z_ok n v) (hl : ∀ q ∈ lv, z_ok n q.2) : ∀ q ∈ z_s1 lv i v, z_ok n q.2 := fun q hq => by
  rcases List.mem_cons.mp hq with rfl | h
  · exact hv
  · exact hl q (List.mem_filter.mp h).1
theorem z_s2_ok {n i : Nat} {v : Value} (hv : z_ok n v) (hl : ∀ q ∈ lv, z_ok n q.2) : ∀ q ∈ z_s2 lv i v, z_ok n q.2 := fun q hq => by
  rcases List.mem_cons.mp hq with rfl | h
  · exact hv
  · exact hl q (List.mem_filter.mp h).1
theorem z_oc {n : Nat} {v : Value} (hv : z_ok n v) (h : ∀ u ∈ st, z_ok n u) : ∀ u ∈ v :: st, z_ok n u := fun u hu => by
  rcases List.mem_cons.mp hu with rfl | h9
  · exact hv
  · exact h u h9
theorem z_ot {n : Nat} {v : Value} (h : ∀ u ∈ v :: st, z_ok n u) : ∀ u ∈ st, z_ok n u := fun u hu => h u (List.mem_cons_of_mem _ hu)
theorem z_oh {n : Nat} {v : Value} (h : ∀ u ∈ v :: st, z_ok n u) : z_ok n v := h v List.mem_cons_self
theorem z_go0 {st' : List Value} {pc' : Nat} (hok : (∀ v ∈ st, z_ok M.1 v) → (∀ q ∈ lv, z_ok M.1 q.2) → ∀ v ∈ st', z_ok M.1 v)
    (h : ∀ {p : Program} {l : Launch} {e : Env} {R : Room} {s : State} {m : MethodId} {args : Array Value} {below : List Frame} {meth : Method} {c : Code} {H : Heap} {locs : List Loc} {cells slots : Nat} {Q' : State → Prop} {al : Nat → Nat} {ls : Array Slot},
      p.tables.exec = Jvm.exec → c.code = Y.2.1 → s.vm.findClass Y.1.cls = some m.cls → w.2.1.WarmedH s.vm → z_Lv al M.1 Y.2.2.1 ls lv →
      W p l e R s m args below meth c H locs cells slots Q' (F0 m pc' ls (st'.map (z_v al))) → W p l e R s m args below meth c H locs cells slots Q' (F0 m pc ls (st.map (z_v al))))
    (k : z_Ex w Y d Q pc' lv st' M) : z_Ex w Y d Q pc lv st M := by
  intro p e R s m args below meth c H locs cells slots al ae ne ls C hR hT hl ho
  exact h C.1 C.2.1 C.2.2.2.2.2.1 C.2.2.2.2.2.2.2.2.1 hl (k p e R s m args below meth c H locs cells slots al ae ne ls C hR hT hl (hok ho hl.2))
theorem z_go1 {st' : List Value} {pc' : Nat} (hok : (∀ v ∈ st, z_ok M.1 v) → (∀ q ∈ lv, z_ok M.1 q.2) → (∀ v ∈ st', z_ok M.1 v) ∧ ∀ q ∈ lv', z_ok M.1 q.2)
    (h : ∀ {p : Program} {l : Launch} {e : Env} {R : Room} {s : State} {m : MethodId} {args : Array Value} {below : List Frame} {meth : Method} {c : Code} {H : Heap} {locs : List Loc} {cells slots : Nat} {Q' : State → Prop} {al : Nat → Nat} {ls : Array Slot},
      p.tables.exec = Jvm.exec → c.code = Y.2.1 → z_Lv al M.1 Y.2.2.1 ls lv →
      (∀ ls' : Array Slot, lv_has ls' Y.2.2.1 (lv'.map fun q => (q.1, z_v al q.2)) → W p l e R s m args below meth c H locs cells slots Q' (F0 m pc' ls' (st'.map (z_v al)))) → W p l e R s m args below meth c H locs cells slots Q' (F0 m pc ls (st.map (z_v al))))
    (k : z_Ex w Y d Q pc' lv' st' M) : z_Ex w Y d Q pc lv st M := by
  intro p e R s m args below meth c H locs cells slots al ae ne ls C hR hT hl ho
  have h9 := hok ho hl.2
  exact h C.1 C.2.1 hl (fun ls' hl' => k p e R s m args below meth c H locs cells slots al ae ne ls' C hR hT ⟨hl', h9.2⟩ h9.1)
theorem z_go2 {st' : List Value} {pc1 pc2 : Nat} {P1 P2 : Prop} (hok : (∀ v ∈ st, z_ok M.1 v) → ∀ v ∈ st', z_ok M.1 v)
    (h : ∀ {p : Program} {l : Launch} {e : Env} {R : Room} {s : State} {m : MethodId} {args : Array Value} {below : List Frame} {meth : Method} {c : Code} {H : Heap} {locs : List Loc} {cells slots : Nat} {Q' : State → Prop} {al : Nat → Nat} {ls : Array Slot},
      p.tables.exec = Jvm.exec → c.code = Y.2.1 → (P1 → W p l e R s m args below meth c H locs cells slots Q' (F0 m pc1 ls (st'.map (z_v al)))) → (P2 → W p l e R s m args below meth c H locs cells slots Q' (F0 m pc2 ls (st'.map (z_v al)))) →
      W p l e R s m args below meth c H locs cells slots Q' (F0 m pc ls (st.map (z_v al))))
    (k1 : P1 → z_Ex w Y d Q pc1 lv st' M) (k2 : P2 → z_Ex w Y d Q pc2 lv st' M) : z_Ex w Y d Q pc lv st M := by
  intro p e R s m args below meth c H locs cells slots al ae ne ls C hR hT hl ho
  exact h C.1 C.2.1 (fun h1 => k1 h1 p e R s m args below meth c H locs cells slots al ae ne ls C hR hT hl (hok ho)) (fun h1 => k2 h1 p e R s m args below meth c H locs cells slots al ae ne ls C hR hT hl (hok ho))

theorem z_iconst {n : Int} {v : Int32} (dg : decode Y.2.1 pc = .ok (.iconst n, 1)) (hv : Int32.ofInt n = v) (k : z_Ex w Y d Q (pc + 1) lv (.int v :: st) M) : z_Ex w Y d Q pc lv (st) M :=
  z_go0 (fun ho hq => by exact z_oc trivial ho) (fun hx hb hown hW hl k => by exact lv_iconst hx hb dg hv k) k
theorem z_bipush {n : Int} {v : Int32} (dg : decode Y.2.1 pc = .ok (.bipush n, 2)) (hv : (Int8.ofInt n).toInt32 = v) (k : z_Ex w Y d Q (pc + 2) lv (.int v :: st) M) : z_Ex w Y d Q pc lv (st) M :=
  z_go0 (fun ho hq => by exact z_oc trivial ho) (fun hx hb hown hW hl k => by exact lv_bipush hx hb dg hv k) k
theorem z_sipush {n : Int} {v : Int32} (dg : decode Y.2.1 pc = .ok (.sipush n, 3)) (hv : (Int16.ofInt n).toInt32 = v) (k : z_Ex w Y d Q (pc + 3) lv (.int v :: st) M) : z_Ex w Y d Q pc lv (st) M :=
  z_go0 (fun ho hq => by exact z_oc trivial ho) (fun hx hb hown hW hl k => by exact lv_sipush hx hb dg hv k) k
theorem z_lconst {n : Fin 2} {v : Int64} (dg : decode Y.2.1 pc = .ok (.lconst n, 1)) (hv : Int64.ofNat (n : Nat) = v) (k : z_Ex w Y d Q (pc + 1) lv (.long v :: st) M) : z_Ex w Y d Q pc lv (st) M :=
  z_go0 (fun ho hq => by exact z_oc trivial ho) (fun hx hb hown hW hl k => by exact lv_lconst hx hb dg hv k) k
theorem z_null  (dg : decode Y.2.1 pc = .ok (.aconst_null, 1))  (k : z_Ex w Y d Q (pc + 1) lv (.null :: st) M) : z_Ex w Y d Q pc lv (st) M :=
  z_go0 (fun ho hq => by exact z_oc trivial ho) (fun hx hb hown hW hl k => by exact lv_null hx hb dg k) k
theorem z_iload_n {k9 : Fin 4} {i : Nat} {x : Int32} (dg : decode Y.2.1 pc = .ok (.iload_n k9, 1)) (hi : (k9 : Nat) = i) (hv : z_lk lv i = some (.int x)) (k : z_Ex w Y d Q (pc + 1) lv (.int x :: st) M) : z_Ex w Y d Q pc lv (st) M :=
  z_go0 (fun ho hq => by exact z_oc trivial ho) (fun hx hb hown hW hl k => by exact lv_iload_n hx hb dg hi (z_lk_at hv hl) k) k
theorem z_iload {i : Nat} {x : Int32} (dg : decode Y.2.1 pc = .ok (.iload i, 2)) (hv : z_lk lv i = some (.int x)) (k : z_Ex w Y d Q (pc + 2) lv (.int x :: st) M) : z_Ex w Y d Q pc lv (st) M :=
  z_go0 (fun ho hq => by exact z_oc trivial ho) (fun hx hb hown hW hl k => by exact lv_iload hx hb dg (z_lk_at hv hl) k) k
theorem z_lload_n {k9 : Fin 4} {i : Nat} {x : Int64} (dg : decode Y.2.1 pc = .ok (.lload_n k9, 1)) (hi : (k9 : Nat) = i) (hv : z_lk lv i = some (.long x)) (k : z_Ex w Y d Q (pc + 1) lv (.long x :: st) M) : z_Ex w Y d Q pc lv (st) M :=
  z_go0 (fun ho hq => by exact z_oc trivial ho) (fun hx hb hown hW hl k => by exact lv_lload_n hx hb dg hi (z_lk_at hv hl) k) k
theorem z_lload {i : Nat} {x : Int64} (dg : decode Y.2.1 pc = .ok (.lload i, 2)) (hv : z_lk lv i = some (.long x)) (k : z_Ex w Y d Q (pc + 2) lv (.long x :: st) M) : z_Ex w Y d Q pc lv (st) M :=
  z_go0 (fun ho hq => by exact z_oc trivial ho) (fun hx hb hown hW hl k => by exact lv_lload hx hb dg (z_lk_at hv hl) k) k
theorem z_aload_n {k9 : Fin 4} {i : Nat} {x : Nat} (dg : decode Y.2.1 pc = .ok (.aload_n k9, 1)) (hi : (k9 : Nat) = i) (hv : z_lk lv i = some (.ref x)) (k : z_Ex w Y d Q (pc + 1) lv (.ref x :: st) M) : z_Ex w Y d Q pc lv (st) M :=
  z_go0 (fun ho hq => by exact z_oc (z_lk_ok hv hq) ho) (fun hx hb hown hW hl k => by exact lv_aload_n hx hb dg hi (z_lk_at hv hl) k) k
theorem z_aload {i : Nat} {x : Nat} (dg : decode Y.2.1 pc = .ok (.aload i, 2)) (hv : z_lk lv i = some (.ref x)) (k : z_Ex w Y d Q (pc + 2) lv (.ref x :: st) M) : z_Ex w Y d Q pc lv (st) M :=
  z_go0 (fun ho hq => by exact z_oc (z_lk_ok hv hq) ho) (fun hx hb hown hW hl k => by exact lv_aload hx hb dg (z_lk_at hv hl) k) k
theorem z_aload_nN {k9 : Fin 4} {i : Nat} (dg : decode Y.2.1 pc = .ok (.aload_n k9, 1)) (hi : (k9 : Nat) = i) (hv : z_lk lv i = some .null) (k : z_Ex w Y d Q (pc + 1) lv (.null :: st) M) : z_Ex w Y d Q pc lv (st) M :=
  z_go0 (fun ho hq => by exact z_oc trivial ho) (fun hx hb hown hW hl k => by exact lv_aload_nN hx hb dg hi (z_lk_at hv hl) k) k
theorem z_aloadN {i : Nat} (dg : decode Y.2.1 pc = .ok (.aload i, 2)) (hv : z_lk lv i = some .null) (k : z_Ex w Y d Q (pc + 2) lv (.null :: st) M) : z_Ex w Y d Q pc lv (st) M :=
  z_go0 (fun ho hq => by exact z_oc trivial ho) (fun hx hb hown hW hl k => by exact lv_aloadN hx hb dg (z_lk_at hv hl) k) k
theorem z_iadd {x y : Int32} (dg : decode Y.2.1 pc = .ok (.iadd, 1))  (k : z_Ex w Y d Q (pc + 1) lv (.int (x + y) :: st) M) : z_Ex w Y d Q pc lv (.int y :: .int x :: st) M :=
  z_go0 (fun ho hq => by exact z_oc trivial (z_ot (z_ot ho))) (fun hx hb hown hW hl k => by exact lv_iadd hx hb dg k) k
theorem z_isub {x y : Int32} (dg : decode Y.2.1 pc = .ok (.isub, 1))  (k : z_Ex w Y d Q (pc + 1) lv (.int (x - y) :: st) M) : z_Ex w Y d Q pc lv (.int y :: .int x :: st) M :=
  z_go0 (fun ho hq => by exact z_oc trivial (z_ot (z_ot ho))) (fun hx hb hown hW hl k => by exact lv_isub hx hb dg k) k
theorem z_imul {x y : Int32} (dg : decode Y.2.1 pc = .ok (.imul, 1))  (k : z_Ex w Y d Q (pc + 1) lv (.int (x * y) :: st) M) : z_Ex w Y d Q pc lv (.int y :: .int x :: st) M :=
  z_go0 (fun ho hq => by exact z_oc trivial (z_ot (z_ot ho))) (fun hx hb hown hW hl k => by exact lv_imul hx hb dg k) k
theorem z_iand {x y : Int32} (dg : decode Y.2.1 pc = .ok (.iand, 1))  (k : z_Ex w Y d Q (pc + 1) lv (.int (x &&& y) :: st) M) : z_Ex w Y d Q pc lv (.int y :: .int x :: st) M :=
  z_go0 (fun ho hq => by exact z_oc trivial (z_ot (z_ot ho))) (fun hx hb hown hW hl k => by exact lv_iand hx hb dg k) k
theorem z_ior {x y : Int32} (dg : decode Y.2.1 pc = .ok (.ior, 1))  (k : z_Ex w Y d Q (pc + 1) lv (.int (x ||| y) :: st) M) : z_Ex w Y d Q pc lv (.int y :: .int x :: st) M :=
  z_go0 (fun ho hq => by exact z_oc trivial (z_ot (z_ot ho))) (fun hx hb hown hW hl k => by exact lv_ior hx hb dg k) k
theorem z_ixor {x y : Int32} (dg : decode Y.2.1 pc = .ok (.ixor, 1))  (k : z_Ex w Y d Q (pc + 1) lv (.int (x ^^^ y) :: st) M) : z_Ex w Y d Q pc lv (.int y :: .int x :: st) M :=
  z_go0 (fun ho hq => by exact z_oc trivial (z_ot (z_ot ho))) (fun hx hb hown hW hl k => by exact lv_ixor hx hb dg k) k
theorem z_ishl {x y : Int32} (dg : decode Y.2.1 pc = .ok (.ishl, 1))  (k : z_Ex w Y d Q (pc + 1) lv (.int (x <<< (y &&& 31)) :: st) M) : z_Ex w Y d Q pc lv (.int y :: .int x :: st) M :=
  z_go0 (fun ho hq => by exact z_oc trivial (z_ot (z_ot ho))) (fun hx hb hown hW hl k => by exact lv_ishl hx hb dg k) k
theorem z_ishr {x y : Int32} (dg : decode Y.2.1 pc = .ok (.ishr, 1))  (k : z_Ex w Y d Q (pc + 1) lv (.int (x >>> (y &&& 31)) :: st) M) : z_Ex w Y d Q pc lv (.int y :: .int x :: st) M :=
  z_go0 (fun ho hq => by exact z_oc trivial (z_ot (z_ot ho))) (fun hx hb hown hW hl k => by exact lv_ishr hx hb dg k) k
theorem z_idiv {x y : Int32} (dg : decode Y.2.1 pc = .ok (.idiv, 1)) (hne : ¬ y = 0) (k : z_Ex w Y d Q (pc + 1) lv (.int (x / y) :: st) M) : z_Ex w Y d Q pc lv (.int y :: .int x :: st) M :=
  z_go0 (fun ho hq => by exact z_oc trivial (z_ot (z_ot ho))) (fun hx hb hown hW hl k => by exact lv_idiv hx hb dg hne k) k
theorem z_irem {x y : Int32} (dg : decode Y.2.1 pc = .ok (.irem, 1)) (hne : ¬ y = 0) (k : z_Ex w Y d Q (pc + 1) lv (.int (x - x / y * y) :: st) M) : z_Ex w Y d Q pc lv (.int y :: .int x :: st) M :=
  z_go0 (fun ho hq => by exact z_oc trivial (z_ot (z_ot ho))) (fun hx hb hown hW hl k => by exact lv_irem hx hb dg hne k) k
theorem z_ladd {x y : Int64} (dg : decode Y.2.1 pc = .ok (.ladd, 1))  (k : z_Ex w Y d Q (pc + 1) lv (.long (x + y) :: st) M) : z_Ex w Y d Q pc lv (.long y :: .long x :: st) M :=
  z_go0 (fun ho hq => by exact z_oc trivial (z_ot (z_ot ho))) (fun hx hb hown hW hl k => by exact lv_ladd hx hb dg k) k
theorem z_lsub {x y : Int64} (dg : decode Y.2.1 pc = .ok (.lsub, 1))  (k : z_Ex w Y d Q (pc + 1) lv (.long (x - y) :: st) M) : z_Ex w Y d Q pc lv (.long y :: .long x :: st) M :=
  z_go0 (fun ho hq => by exact z_oc trivial (z_ot (z_ot ho))) (fun hx hb hown hW hl k => by exact lv_lsub hx hb dg k) k
theorem z_land {x y : Int64} (dg : decode Y.2.1 pc = .ok (.land, 1))  (k : z_Ex w Y d Q (pc + 1) lv (.long (x &&& y) :: st) M) : z_Ex w Y d Q pc lv (.long y :: .long x :: st) M :=
  z_go0 (fun ho hq => by exact z_oc trivial (z_ot (z_ot ho))) (fun hx hb hown hW hl k => by exact lv_land hx hb dg k) k
theorem z_lor {x y : Int64} (dg : decode Y.2.1 pc = .ok (.lor, 1))  (k : z_Ex w Y d Q (pc + 1) lv (.long (x ||| y) :: st) M) : z_Ex w Y d Q pc lv (.long y :: .long x :: st) M :=
  z_go0 (fun ho hq => by exact z_oc trivial (z_ot (z_ot ho))) (fun hx hb hown hW hl k => by exact lv_lor hx hb dg k) k
theorem z_lxor {x y : Int64} (dg : decode Y.2.1 pc = .ok (.lxor, 1))  (k : z_Ex w Y d Q (pc + 1) lv (.long (x ^^^ y) :: st) M) : z_Ex w Y d Q pc lv (.long y :: .long x :: st) M :=
  z_go0 (fun ho hq => by exact z_oc trivial (z_ot (z_ot ho))) (fun hx hb hown hW hl k => by exact lv_lxor hx hb dg k) k
theorem z_i2l {x : Int32} (dg : decode Y.2.1 pc = .ok (.i2l, 1))  (k : z_Ex w Y d Q (pc + 1) lv (.long x.toInt64 :: st) M) : z_Ex w Y d Q pc lv (.int x :: st) M :=
  z_go0 (fun ho hq => by exact z_oc trivial (z_ot ho)) (fun hx hb hown hW hl k => by exact lv_i2l hx hb dg rfl k) k
theorem z_l2i {x : Int64} (dg : decode Y.2.1 pc = .ok (.l2i, 1))  (k : z_Ex w Y d Q (pc + 1) lv (.int x.toInt32 :: st) M) : z_Ex w Y d Q pc lv (.long x :: st) M :=
  z_go0 (fun ho hq => by exact z_oc trivial (z_ot ho)) (fun hx hb hown hW hl k => by exact lv_l2i hx hb dg rfl k) k
theorem z_i2b {x : Int32} (dg : decode Y.2.1 pc = .ok (.i2b, 1))  (k : z_Ex w Y d Q (pc + 1) lv (.int x.toInt8.toInt32 :: st) M) : z_Ex w Y d Q pc lv (.int x :: st) M :=
  z_go0 (fun ho hq => by exact z_oc trivial (z_ot ho)) (fun hx hb hown hW hl k => by exact lv_i2b hx hb dg rfl k) k
theorem z_i2s {x : Int32} (dg : decode Y.2.1 pc = .ok (.i2s, 1))  (k : z_Ex w Y d Q (pc + 1) lv (.int x.toInt16.toInt32 :: st) M) : z_Ex w Y d Q pc lv (.int x :: st) M :=
  z_go0 (fun ho hq => by exact z_oc trivial (z_ot ho)) (fun hx hb hown hW hl k => by exact lv_i2s hx hb dg rfl k) k
theorem z_lshl {x : Int64} {y : Int32} (dg : decode Y.2.1 pc = .ok (.lshl, 1))  (k : z_Ex w Y d Q (pc + 1) lv (.long (x <<< (y.toInt64 &&& 63)) :: st) M) : z_Ex w Y d Q pc lv (.int y :: .long x :: st) M :=
  z_go0 (fun ho hq => by exact z_oc trivial (z_ot (z_ot ho))) (fun hx hb hown hW hl k => by exact lv_lshl hx hb dg rfl k) k
theorem z_lshr {x : Int64} {y : Int32} (dg : decode Y.2.1 pc = .ok (.lshr, 1))  (k : z_Ex w Y d Q (pc + 1) lv (.long (x >>> (y.toInt64 &&& 63)) :: st) M) : z_Ex w Y d Q pc lv (.int y :: .long x :: st) M :=
  z_go0 (fun ho hq => by exact z_oc trivial (z_ot (z_ot ho))) (fun hx hb hown hW hl k => by exact lv_lshr hx hb dg rfl k) k
theorem z_lcmp {x y : Int64} (dg : decode Y.2.1 pc = .ok (.lcmp, 1))  (k : z_Ex w Y d Q (pc + 1) lv (.int (lg_cmp x y) :: st) M) : z_Ex w Y d Q pc lv (.long y :: .long x :: st) M :=
  z_go0 (fun ho hq => by exact z_oc trivial (z_ot (z_ot ho))) (fun hx hb hown hW hl k => by exact W.lcmp hx hb dg k) k
theorem z_dup {u : Value} (dg : decode Y.2.1 pc = .ok (.dup, 1)) (h1 : u.category = 1) (k : z_Ex w Y d Q (pc + 1) lv (u :: u :: st) M) : z_Ex w Y d Q pc lv (u :: st) M :=
  z_go0 (fun ho hq => by exact z_oc (z_oh ho) ho) (fun hx hb hown hW hl k => by exact lv_dup hx hb dg ((z_v_cat _).trans h1) k) k
theorem z_pop {u : Value} (dg : decode Y.2.1 pc = .ok (.pop, 1)) (h1 : u.category = 1) (k : z_Ex w Y d Q (pc + 1) lv (st) M) : z_Ex w Y d Q pc lv (u :: st) M :=
  z_go0 (fun ho hq => by exact (z_ot ho)) (fun hx hb hown hW hl k => by exact lv_pop hx hb dg ((z_v_cat _).trans h1) k) k
theorem z_dup_x1 {u v : Value} (dg : decode Y.2.1 pc = .ok (.dup_x1, 1)) (h1 : u.category = 1) (h2 : v.category = 1) (k : z_Ex w Y d Q (pc + 1) lv (u :: v :: u :: st) M) : z_Ex w Y d Q pc lv (u :: v :: st) M :=
  z_go0 (fun ho hq => by exact z_oc (z_oh ho) (z_oc (z_oh (z_ot ho)) (z_oc (z_oh ho) (z_ot (z_ot ho))))) (fun hx hb hown hW hl k => by exact lv_dup_x1 hx hb dg ((z_v_cat _).trans h1) ((z_v_cat _).trans h2) k) k
theorem z_dup_x2 {u v t : Value} (dg : decode Y.2.1 pc = .ok (.dup_x2, 1)) (h1 : u.category = 1) (h2 : v.category = 1) (h3 : t.category = 1) (k : z_Ex w Y d Q (pc + 1) lv (u :: v :: t :: u :: st) M) : z_Ex w Y d Q pc lv (u :: v :: t :: st) M :=
  z_go0 (fun ho hq => by exact z_oc (z_oh ho) (z_oc (z_oh (z_ot ho)) (z_oc (z_oh (z_ot (z_ot ho))) (z_oc (z_oh ho) (z_ot (z_ot (z_ot ho))))))) (fun hx hb hown hW hl k => by exact lv_dup_x2 hx hb dg ((z_v_cat _).trans h1) ((z_v_cat _).trans h2) ((z_v_cat _).trans h3) k) k
theorem z_dup2 {u v : Value} (dg : decode Y.2.1 pc = .ok (.dup2, 1)) (h1 : u.category = 1) (h2 : v.category = 1) (k : z_Ex w Y d Q (pc + 1) lv (u :: v :: u :: v :: st) M) : z_Ex w Y d Q pc lv (u :: v :: st) M :=
  z_go0 (fun ho hq => by exact z_oc (z_oh ho) (z_oc (z_oh (z_ot ho)) ho)) (fun hx hb hown hW hl k => by exact lv_dup2_11 hx hb dg ((z_v_cat _).trans h1) ((z_v_cat _).trans h2) k) k
theorem z_ldc2 {idx : Nat} {v : Int64} (dg : decode Y.2.1 pc = .ok (.ldc2_w idx, 3)) (hc : z_has w (.constantLong Y.1.cls idx v)) (k : z_Ex w Y d Q (pc + 3) lv (.long v :: st) M) : z_Ex w Y d Q pc lv (st) M :=
  z_go0 (fun ho hq => by exact z_oc trivial ho) (fun hx hb hown hW hl k => by exact lv_ldc2 hx hb hown (hc _ _ hW) dg k) k
theorem z_ldc {idx : Nat} {v : Int32} (dg : decode Y.2.1 pc = .ok (.ldc idx, 2)) (hc : z_has w (.constant Y.1.cls idx v)) (k : z_Ex w Y d Q (pc + 2) lv (.int v :: st) M) : z_Ex w Y d Q pc lv (st) M :=
  z_go0 (fun ho hq => by exact z_oc trivial ho) (fun hx hb hown hW hl k => by exact lv_ldc hx hb hown (hc _ _ hW) dg k) k
theorem z_istore_n {k9 : Fin 4} {i : Nat} {x : Int32} (dg : decode Y.2.1 pc = .ok (.istore_n k9, 1)) (hi : (k9 : Nat) = i) (hn : i < Y.2.2.1) (hs : z_s1 lv i (.int x) = lv') (k : z_Ex w Y d Q (pc + 1) lv' st M) : z_Ex w Y d Q pc lv (.int x :: st) M := by
  subst hs
  exact z_go1 (fun ho hq => by exact ⟨z_ot ho, z_s1_ok (z_oh ho) hq⟩) (fun hx hb hl k => by exact lv_istore_n hx hb dg hi hl.1 hn (z_s1_map (v := .int x)) (fun ls' hl' => k ls' hl')) k
theorem z_istore {i : Nat} {x : Int32} (dg : decode Y.2.1 pc = .ok (.istore i, 2)) (hn : i < Y.2.2.1) (hs : z_s1 lv i (.int x) = lv') (k : z_Ex w Y d Q (pc + 2) lv' st M) : z_Ex w Y d Q pc lv (.int x :: st) M := by
  subst hs
  exact z_go1 (fun ho hq => by exact ⟨z_ot ho, z_s1_ok (z_oh ho) hq⟩) (fun hx hb hl k => by exact lv_istore hx hb dg hl.1 hn (z_s1_map (v := .int x)) (fun ls' hl' => k ls' hl')) k
theorem z_astore_n {k9 : Fin 4} {i : Nat} {x : Nat} (dg : decode Y.2.1 pc = .ok (.astore_n k9, 1)) (hi : (k9 : Nat) = i) (hn : i < Y.2.2.1) (hs : z_s1 lv i (.ref x) = lv') (k : z_Ex w Y d Q (pc + 1) lv' st M) : z_Ex w Y d Q pc lv (.ref x :: st) M := by
  subst hs
  exact z_go1 (fun ho hq => by exact ⟨z_ot ho, z_s1_ok (z_oh ho) hq⟩) (fun hx hb hl k => by exact lv_astore_n hx hb dg hi hl.1 hn (z_s1_map (v := .ref x)) (fun ls' hl' => k ls' hl')) k
theorem z_astore {i : Nat} {x : Nat} (dg : decode Y.2.1 pc = .ok (.astore i, 2)) (hn : i < Y.2.2.1) (hs : z_s1 lv i (.ref x) = lv') (k : z_Ex w Y d Q (pc + 2) lv' st M) : z_Ex w Y d Q pc lv (.ref x :: st) M := by
  subst hs
  exact z_go1 (fun ho hq => by exact ⟨z_ot ho, z_s1_ok (z_oh ho) hq⟩) (fun hx hb hl k => by exact lv_astore hx hb dg hl.1 hn (z_s1_map (v := .ref x)) (fun ls' hl' => k ls' hl')) k
theorem z_lstore_n {k9 : Fin 4} {i : Nat} {x : Int64} (dg : decode Y.2.1 pc = .ok (.lstore_n k9, 1)) (hi : (k9 : Nat) = i) (hn : i + 1 < Y.2.2.1) (hs : z_s2 lv i (.long x) = lv') (k : z_Ex w Y d Q (pc + 1) lv' st M) : z_Ex w Y d Q pc lv (.long x :: st) M := by
  subst hs
  exact z_go1 (fun ho hq => by exact ⟨z_ot ho, z_s2_ok (z_oh ho) hq⟩) (fun hx hb hl k => by exact lv_lstore_n hx hb dg hi hl.1 hn (z_s2_map (v := .long x)) (fun ls' hl' => k ls' hl')) k
theorem z_lstore {i : Nat} {x : Int64} (dg : decode Y.2.1 pc = .ok (.lstore i, 2)) (hn : i + 1 < Y.2.2.1) (hs : z_s2 lv i (.long x) = lv') (k : z_Ex w Y d Q (pc + 2) lv' st M) : z_Ex w Y d Q pc lv (.long x :: st) M := by
  subst hs
  exact z_go1 (fun ho hq => by exact ⟨z_ot ho, z_s2_ok (z_oh ho) hq⟩) (fun hx hb hl k => by exact lv_lstore hx hb dg hl.1 hn (z_s2_map (v := .long x)) (fun ls' hl' => k ls' hl')) k
theorem z_astore_nN {k9 : Fin 4} {i : Nat} (dg : decode Y.2.1 pc = .ok (.astore_n k9, 1)) (hi : (k9 : Nat) = i) (hn : i < Y.2.2.1) (hs : z_s1 lv i .null = lv') (k : z_Ex w Y d Q (pc + 1) lv' st M) : z_Ex w Y d Q pc lv (.null :: st) M := by
  subst hs
  exact z_go1 (fun ho hq => by exact ⟨z_ot ho, z_s1_ok (v := .null) trivial hq⟩) (fun hx hb hl k => by exact lv_astore_nN hx hb dg hi hl.1 hn (z_s1_map (v := .null)) (fun ls' hl' => k ls' hl')) k
theorem z_astoreN {i : Nat} (dg : decode Y.2.1 pc = .ok (.astore i, 2)) (hn : i < Y.2.2.1) (hs : z_s1 lv i .null = lv') (k : z_Ex w Y d Q (pc + 2) lv' st M) : z_Ex w Y d Q pc lv (.null :: st) M := by
  subst hs
  exact z_go1 (fun ho hq => by exact ⟨z_ot ho, z_s1_ok (v := .null) trivial hq⟩) (fun hx hb hl k => by exact lv_astoreN hx hb dg hl.1 hn (z_s1_map (v := .null)) (fun ls' hl' => k ls' hl')) k
theorem z_iinc {i : Nat} {n : Int} {x : Int32} (dg : decode Y.2.1 pc = .ok (.iinc i n, 3)) (hv : z_lk lv i = some (.int x)) (hn : i < Y.2.2.1) (hs : z_s1 lv i (.int (x + Int32.ofInt n)) = lv') (k : z_Ex w Y d Q (pc + 3) lv' st M) : z_Ex w Y d Q pc lv st M := by
  subst hs
  refine z_go1 (fun ho hq => ⟨ho, z_s1_ok (v := .int _) trivial hq⟩) (fun {p l e R s m args below meth c H locs cells slots Q' al ls} hx hb hl k => ?_) k
  obtain ⟨j, hj⟩ := List.getElem?_of_mem (List.mem_map.mpr ⟨(i, .int x), z_lk_mem hv, rfl⟩ : (i, z_v al (.int x)) ∈ lv.map fun q => (q.1, z_v al q.2))
  exact lv_iinc hx hb dg hl.1 (k := j) hj rfl hn (z_s1_map (v := .int _)) (fun ls' hl' => k ls' hl')
theorem z_if_eq {x : Int32} {off : Int} {tgt : Nat} (dg : decode Y.2.1 pc = .ok (.ifCond .eq off, 3)) (ht : (pc : Int) + off = (tgt : Int)) (k1 : x = 0 → z_Ex w Y d Q tgt lv st M) (k2 : ¬ x = 0 → z_Ex w Y d Q (pc + 3) lv st M) : z_Ex w Y d Q pc lv (.int x :: st) M :=
  z_go2 (fun ho => by exact z_ot ho) (fun hx hb k1 k2 => by exact lv_if_eq hx hb dg ht k1 k2) k1 k2
theorem z_icmp_eq {x y : Int32} {off : Int} {tgt : Nat} (dg : decode Y.2.1 pc = .ok (.if_icmp .eq off, 3)) (ht : (pc : Int) + off = (tgt : Int)) (k1 : x = y → z_Ex w Y d Q tgt lv st M) (k2 : ¬ x = y → z_Ex w Y d Q (pc + 3) lv st M) : z_Ex w Y d Q pc lv (.int y :: .int x :: st) M :=
  z_go2 (fun ho => by exact z_ot (z_ot ho)) (fun hx hb k1 k2 => by exact lv_icmp_eq hx hb dg ht k1 k2) k1 k2
theorem z_if_ne {x : Int32} {off : Int} {tgt : Nat} (dg : decode Y.2.1 pc = .ok (.ifCond .ne off, 3)) (ht : (pc : Int) + off = (tgt : Int)) (k1 : ¬ x = 0 → z_Ex w Y d Q tgt lv st M) (k2 : x = 0 → z_Ex w Y d Q (pc + 3) lv st M) : z_Ex w Y d Q pc lv (.int x :: st) M :=
  z_go2 (fun ho => by exact z_ot ho) (fun hx hb k1 k2 => by exact lv_if_ne hx hb dg ht k1 k2) k1 k2
theorem z_icmp_ne {x y : Int32} {off : Int} {tgt : Nat} (dg : decode Y.2.1 pc = .ok (.if_icmp .ne off, 3)) (ht : (pc : Int) + off = (tgt : Int)) (k1 : ¬ x = y → z_Ex w Y d Q tgt lv st M) (k2 : x = y → z_Ex w Y d Q (pc + 3) lv st M) : z_Ex w Y d Q pc lv (.int y :: .int x :: st) M :=
  z_go2 (fun ho => by exact z_ot (z_ot ho)) (fun hx hb k1 k2 => by exact lv_icmp_ne hx hb dg ht k1 k2) k1 k2
theorem z_if_lt {x : Int32} {off : Int} {tgt : Nat} (dg : decode Y.2.1 pc = .ok (.ifCond .lt off, 3)) (ht : (pc : Int) + off = (tgt : Int)) (k1 : x < 0 → z_Ex w Y d Q tgt lv st M) (k2 : ¬ x < 0 → z_Ex w Y d Q (pc + 3) lv st M) : z_Ex w Y d Q pc lv (.int x :: st) M :=
  z_go2 (fun ho => by exact z_ot ho) (fun hx hb k1 k2 => by exact lv_if_lt hx hb dg ht k1 k2) k1 k2
theorem z_icmp_lt {x y : Int32} {off : Int} {tgt : Nat} (dg : decode Y.2.1 pc = .ok (.if_icmp .lt off, 3)) (ht : (pc : Int) + off = (tgt : Int)) (k1 : x < y → z_Ex w Y d Q tgt lv st M) (k2 : ¬ x < y → z_Ex w Y d Q (pc + 3) lv st M) : z_Ex w Y d Q pc lv (.int y :: .int x :: st) M :=
  z_go2 (fun ho => by exact z_ot (z_ot ho)) (fun hx hb k1 k2 => by exact lv_icmp_lt hx hb dg ht k1 k2) k1 k2
theorem z_if_ge {x : Int32} {off : Int} {tgt : Nat} (dg : decode Y.2.1 pc = .ok (.ifCond .ge off, 3)) (ht : (pc : Int) + off = (tgt : Int)) (k1 : 0 ≤ x → z_Ex w Y d Q tgt lv st M) (k2 : ¬ 0 ≤ x → z_Ex w Y d Q (pc + 3) lv st M) : z_Ex w Y d Q pc lv (.int x :: st) M :=
  z_go2 (fun ho => by exact z_ot ho) (fun hx hb k1 k2 => by exact lv_if_ge hx hb dg ht k1 k2) k1 k2
theorem z_icmp_ge {x y : Int32} {off : Int} {tgt : Nat} (dg : decode Y.2.1 pc = .ok (.if_icmp .ge off, 3)) (ht : (pc : Int) + off = (tgt : Int)) (k1 : y ≤ x → z_Ex w Y d Q tgt lv st M) (k2 : ¬ y ≤ x → z_Ex w Y d Q (pc + 3) lv st M) : z_Ex w Y d Q pc lv (.int y :: .int x :: st) M :=
  z_go2 (fun ho => by exact z_ot (z_ot ho)) (fun hx hb k1 k2 => by exact lv_icmp_ge hx hb dg ht k1 k2) k1 k2
theorem z_if_gt {x : Int32} {off : Int} {tgt : Nat} (dg : decode Y.2.1 pc = .ok (.ifCond .gt off, 3)) (ht : (pc : Int) + off = (tgt : Int)) (k1 : 0 < x → z_Ex w Y d Q tgt lv st M) (k2 : ¬ 0 < x → z_Ex w Y d Q (pc + 3) lv st M) : z_Ex w Y d Q pc lv (.int x :: st) M :=
  z_go2 (fun ho => by exact z_ot ho) (fun hx hb k1 k2 => by exact lv_if_gt hx hb dg ht k1 k2) k1 k2
theorem z_icmp_gt {x y : Int32} {off : Int} {tgt : Nat} (dg : decode Y.2.1 pc = .ok (.if_icmp .gt off, 3)) (ht : (pc : Int) + off = (tgt : Int)) (k1 : y < x → z_Ex w Y d Q tgt lv st M) (k2 : ¬ y < x → z_Ex w Y d Q (pc + 3) lv st M) : z_Ex w Y d Q pc lv (.int y :: .int x :: st) M :=
  z_go2 (fun ho => by exact z_ot (z_ot ho)) (fun hx hb k1 k2 => by exact lv_icmp_gt hx hb dg ht k1 k2) k1 k2
theorem z_if_le {x : Int32} {off : Int} {tgt : Nat} (dg : decode Y.2.1 pc = .ok (.ifCond .le off, 3)) (ht : (pc : Int) + off = (tgt : Int)) (k1 : x ≤ 0 → z_Ex w Y d Q tgt lv st M) (k2 : ¬ x ≤ 0 → z_Ex w Y d Q (pc + 3) lv st M) : z_Ex w Y d Q pc lv (.int x :: st) M :=
  z_go2 (fun ho => by exact z_ot ho) (fun hx hb k1 k2 => by exact lv_if_le hx hb dg ht k1 k2) k1 k2
theorem z_icmp_le {x y : Int32} {off : Int} {tgt : Nat} (dg : decode Y.2.1 pc = .ok (.if_icmp .le off, 3)) (ht : (pc : Int) + off = (tgt : Int)) (k1 : x ≤ y → z_Ex w Y d Q tgt lv st M) (k2 : ¬ x ≤ y → z_Ex w Y d Q (pc + 3) lv st M) : z_Ex w Y d Q pc lv (.int y :: .int x :: st) M :=
  z_go2 (fun ho => by exact z_ot (z_ot ho)) (fun hx hb k1 k2 => by exact lv_icmp_le hx hb dg ht k1 k2) k1 k2
theorem z_goto {off : Int} {tgt : Nat} (dg : decode Y.2.1 pc = .ok (.goto off, 3)) (ht : (pc : Int) + off = (tgt : Int)) (k : z_Ex w Y d Q tgt lv st M) : z_Ex w Y d Q pc lv st M :=
  z_go0 (fun ho hq => by exact ho) (fun hx hb hown hW hl k => by exact lv_goto hx hb dg ht k) k
theorem z_ifnonnull {i : Nat} {off : Int} {tgt : Nat} (dg : decode Y.2.1 pc = .ok (.ifnonnull off, 3)) (ht : (pc : Int) + off = (tgt : Int)) (k : z_Ex w Y d Q tgt lv st M) : z_Ex w Y d Q pc lv (.ref i :: st) M :=
  z_go0 (fun ho hq => by exact z_ot ho) (fun hx hb hown hW hl k => by exact lv_ifnonnull hx hb dg ht k) k
theorem z_ifnull {i : Nat} {off : Int} (dg : decode Y.2.1 pc = .ok (.ifnull off, 3)) (k : z_Ex w Y d Q (pc + 3) lv st M) : z_Ex w Y d Q pc lv (.ref i :: st) M :=
  z_go0 (fun ho hq => by exact z_ot ho) (fun hx hb hown hW hl k => by exact lv_ifnull hx hb dg k) k
theorem z_ifnullN {off : Int} {tgt : Nat} (dg : decode Y.2.1 pc = .ok (.ifnull off, 3)) (ht : (pc : Int) + off = (tgt : Int)) (k : z_Ex w Y d Q tgt lv st M) : z_Ex w Y d Q pc lv (.null :: st) M :=
  z_go0 (fun ho hq => by exact z_ot ho) (fun hx hb hown hW hl k => by exact lv_ifnullN hx hb dg ht k) k
theorem z_ifnonnullN {off : Int} (dg : decode Y.2.1 pc = .ok (.ifnonnull off, 3)) (k : z_Ex w Y d Q (pc + 3) lv st M) : z_Ex w Y d Q pc lv (.null :: st) M :=
  z_go0 (fun ho hq => by exact z_ot ho) (fun hx hb hown hW hl k => by exact lv_ifnonnullN hx hb dg k) k
theorem z_tableOut {dflt lo hi : Int} {offs : Array Int} {len tgt : Nat} {x : Int32} (dg : decode Y.2.1 pc = .ok (.tableswitch dflt lo hi offs, len)) (h : x.toInt < lo ∨ hi < x.toInt) (ht : (pc : Int) + dflt = (tgt : Int)) (k : z_Ex w Y d Q tgt lv st M) : z_Ex w Y d Q pc lv (.int x :: st) M :=
  z_go0 (fun ho hq => by exact z_ot ho) (fun hx hb hown hW hl k => by exact lv_tableOut hx hb dg h ht k) k
theorem z_tableIn {dflt lo hi off : Int} {offs : Array Int} {len tgt : Nat} {x : Int32} (dg : decode Y.2.1 pc = .ok (.tableswitch dflt lo hi offs, len)) (h1 : ¬ x.toInt < lo) (h2 : ¬ hi < x.toInt) (h3 : offs[(x.toInt - lo).toNat]? = some off) (ht : (pc : Int) + off = (tgt : Int)) (k : z_Ex w Y d Q tgt lv st M) : z_Ex w Y d Q pc lv (.int x :: st) M :=
  z_go0 (fun ho hq => by exact z_ot ho) (fun hx hb hown hW hl k => by exact lv_tableIn hx hb dg h1 h2 h3 ht k) k
theorem z_lookup {dflt off : Int} {ps : Array (Int × Int)} {len tgt : Nat} {x : Int32} (dg : decode Y.2.1 pc = .ok (.lookupswitch dflt ps, len)) (hp : (ps.toList.zip (ps.toList.drop 1)).all (fun (a, next) => a.1 < next.1) = true) (h3 : Op.lookupswitch.offset ps.toList dflt x.toInt = off) (ht : (pc : Int) + off = (tgt : Int)) (k : z_Ex w Y d Q tgt lv st M) : z_Ex w Y d Q pc lv (.int x :: st) M :=
  z_go0 (fun ho hq => by exact z_ot ho) (fun hx hb hown hW hl k => by exact lv_lookup hx hb dg hp h3 ht k) k
end ZR
end
section
section ZH
variable {w : z_W} {Y : z_Y} {d : Nat} {Q : z_O → z_M → Prop} {pc : Nat} {lv lv' : List (Nat × Value)} {st : List Value} {M : z_M} {n0 : Nat} {h : Nat → va_E} {nc ns : Nat}
/-- the world is good: what the tables say of our classes and of the arrays' classes -/
def z_Wok (w : z_W) : Prop := va_K w.2.2.1 vwCl (z_tys w) w.2.1
/-- entry idx of class own is field k of class ci -/
def z_fld (w : z_W) (own : String) (idx ci k : Nat) : Prop := ∃ (C : String) (T : u_T) (N : Nat), vwCl[ci]? = some (C, T, N) ∧ k < N ∧ (∀ c ∈ u_ws C T N, z_has w c) ∧
  (z_has w (.fieldLink own idx (T k).1 (T k).2.1 (T k).2.2.1) ∨ ∃ host, z_has w (.fieldLinkNest own idx (T k).1 (T k).2.1 (T k).2.2.1 host))
/-- .. of type ty; fin: final -/
def z_fldP (w : z_W) (own : String) (idx ci k : Nat) (ty : FieldType) (fin : Bool) : Prop := ∃ (C : String) (T : u_T) (N : Nat) (ty0 : Nat → FieldType), vwCl[ci]? = some (C, T, N) ∧ k < N ∧ (∀ c ∈ u_ws C T N, z_has w c) ∧
  (z_has w (.fieldLink own idx (T k).1 (T k).2.1 (T k).2.2.1) ∨ (fin = false ∧ ∃ host, z_has w (.fieldLinkNest own idx (T k).1 (T k).2.1 (T k).2.2.1 host))) ∧
  (∀ j, j < N → parseFieldDescriptor (T j).2.2.1 = some (ty0 j)) ∧ (∀ a, a < N → ∀ b, b < N → a ≠ b → (T a).2.1 ≠ (T b).2.1) ∧ parseFieldDescriptor (T k).2.2.1 = some ty ∧ (T k).2.2.2 = fin ∧ (fin = true → (T k).1 = own)
theorem z_at_obj {al : Nat → Nat} {H : Heap} {i ci : Nat} {fs : List Value} (hR : z_Rel w al M H) (h2 : 2 ≤ i) (hi : i < M.1) (hc : M.2.1 i = .inr (ci, fs)) : (z_ws w.2.2.2 al M)[i - 2]? = some (al i, .inr (ci, fs.map (z_v al))) := by
  rw [z_ws_get h2 hi, hc]; rfl
theorem z_at_arr {al : Nat → Nat} {H : Heap} {i t : Nat} {x : vp_A} (hR : z_Rel w al M H) (h2 : 2 ≤ i) (hi : i < M.1) (hc : M.2.1 i = .inl (t, x)) : (z_ws w.2.2.2 al M)[i - 2]? = some (al i, .inl (w.2.2.2 t, x)) := by
  rw [z_ws_get h2 hi, hc]; rfl
theorem z_obj_ok {al : Nat → Nat} {H : Heap} {i ci : Nat} {fs : List Value} (hR : z_Rel w al M H) (h2 : 2 ≤ i) (hi : i < M.1) (hc : M.2.1 i = .inr (ci, fs)) : ∀ v ∈ fs, z_ok M.1 v := by
  have h := hR.2.2.1 i h2 hi
  rw [hc] at h
  exact h
theorem z_get {idx i ci k : Nat} {fs : List Value} {v : Value} (hw : z_Wok w) (dg : decode Y.2.1 pc = .ok (.getfield idx, 3)) (hf : z_fld w Y.1.cls idx ci k) (h2 : 2 ≤ i) (hc : h i = .inr (ci, fs)) (hv : fs[k]? = some v)
    (kk : z_Ex w Y d Q (pc + 3) lv (v :: st) (n0, h, nc, ns)) : z_Ex w Y d Q pc lv (.ref i :: st) (n0, h, nc, ns) := by
  intro p e R s m args below meth c H locs cells slots al ae ne ls C hR hT hl ho
  obtain ⟨CC, TT, N, e1, e2, e3, e5⟩ := hf
  have hi : i < n0 := z_oh ho
  have hW := C.2.2.2.2.2.2.2.2.1
  have he := z_at_obj hR h2 hi hc
  have hv' : (fs.map (z_v al))[k]? = some (z_v al v) := by rw [List.getElem?_map, hv]; rfl
  have kk' := kk p e R s m args below meth c H locs cells slots al ae ne ls C hR hT hl (z_oc (z_obj_ok hR h2 hi hc v (List.mem_of_getElem? hv)) (z_ot ho))
  rcases e5 with e5 | ⟨host, e5⟩
  · exact va_get C.1 C.2.1 (fun c h => e3 c h _ _ hW) (fun _ h => h) C.2.2.2.2.2.1 (z_K hw hW) hR.1 (i - 2) he e1 k e2 (e5 _ _ hW) (fun _ h => h) hv' dg kk'
  · exact va_getN C.1 C.2.1 (fun c h => e3 c h _ _ hW) (fun _ h => h) C.2.2.2.2.2.1 (z_K hw hW) hR.1 (i - 2) he e1 k e2 (e5 _ _ hW) (fun _ h => h) hv' dg kk'
theorem z_put {idx i ci k : Nat} {fs : List Value} {v : Value} {ty : FieldType} {fin : Bool} (hw : z_Wok w) (dg : decode Y.2.1 pc = .ok (.putfield idx, 3)) (hf : z_fldP w Y.1.cls idx ci k ty fin) (hfin : fin = true → Y.1.name = "<init>") (h2 : 2 ≤ i) (hc : h i = .inr (ci, fs)) (hk : k < fs.length)
    (hn : ∀ al : Nat → Nat, narrow ty (z_v al v) = z_v al v ∧ fits ty (z_v al v) = true) (kk : z_Ex w Y d Q (pc + 3) lv st (n0, va_up h i (.inr (ci, fs.set k v)), nc, ns)) : z_Ex w Y d Q pc lv (v :: .ref i :: st) (n0, h, nc, ns) := by
  intro p e R s m args below meth c H locs cells slots al ae ne ls C hR hT hl ho
  obtain ⟨CC, TT, N, ty0, e1, e2, e3, e5, e6, e7, e8, e9, e10⟩ := hf
  have hi : i < n0 := z_oh (z_ot ho)
  have hW := C.2.2.2.2.2.2.2.2.1
  have he := z_at_obj hR h2 hi hc
  have hset : (Sum.inr (ci, (fs.map (z_v al)).set k (z_v al v)) : va_E) = z_E w.2.2.2 al (.inr (ci, fs.set k v)) := by
    show _ = (Sum.inr (ci, (fs.set k v).map (z_v al)) : va_E)
    rw [List.map_set]
  have hok : z_okE n0 (.inr (ci, fs.set k v)) := fun u hu => by
    rcases List.mem_or_eq_of_mem_set hu with h | h
    · exact z_obj_ok hR h2 hi hc u h
    · rw [h]; exact z_oh ho
  have kk' : ∀ (H1 : Heap) (locs1 : List Loc), va_P w.2.2.1 vwCl ((z_ws w.2.2.2 al (n0, h, nc, ns)).set (i - 2) (al i, .inr (ci, (fs.map (z_v al)).set k (z_v al v)))) H1 → va_D (z_A w) ((z_ws w.2.2.2 al (n0, h, nc, ns)).set (i - 2) (al i, .inr (ci, (fs.map (z_v al)).set k (z_v al v)))) → va_S (z_A w) w.2.1.heap H1 locs1 →
      W p w.1 e R s m args below meth c H1 locs1 cells slots (z_End w below s R ae ne Q) (F0 m (pc + 3) ls (st.map (z_v al))) := by
    intro H1 locs1 hP hD hS
    rw [hset] at hP hD
    exact kk p e R s m args below meth c H1 locs1 cells slots al ae ne ls C (hR.set h2 hi hok hP hD) ⟨hS, hT.2⟩ hl (z_ot (z_ot ho))
  cases fin with
  | false =>
    rcases e5 with e5 | ⟨-, host, e5⟩
    · exact va_put C.1 C.2.1 (fun c h => e3 c h _ _ hW) (fun _ h => h) ty0 e6 e7 C.2.2.2.2.2.1 (z_K hw hW) hR.1 hR.2.1 hT.1 (i - 2) he e1 k e2 (e5 _ _ hW) (fun _ h => h) e9 e8 (hn al).1 (hn al).2 (by rw [List.length_map]; exact hk) dg kk'
    · exact va_putN C.1 C.2.1 (fun c h => e3 c h _ _ hW) (fun _ h => h) ty0 e6 e7 C.2.2.2.2.2.1 (z_K hw hW) hR.1 hR.2.1 hT.1 (i - 2) he e1 k e2 (e5 _ _ hW) (fun _ h => h) e9 e8 (hn al).1 (hn al).2 (by rw [List.length_map]; exact hk) dg kk'
  | true =>
    rcases e5 with e5 | ⟨h9, -⟩
    · exact va_putF C.1 C.2.1 (fun c h => e3 c h _ _ hW) (fun _ h => h) ty0 e6 e7 C.2.2.2.2.2.1 (z_K hw hW) hR.1 hR.2.1 hT.1 (i - 2) he e1 k e2 (e5 _ _ hW) (fun _ h => h) e9 (C.2.2.2.2.2.2.1.trans (hfin rfl)) (e10 rfl) e8 (hn al).1 (hn al).2 (by rw [List.length_map]; exact hk) dg kk'
    · cases h9
theorem z_iald {i n : Nat} {f : Nat → Int32} {j : Int32} (hw : z_Wok w) (dg : decode Y.2.1 pc = .ok (.iaload, 1)) (h2 : 2 ≤ i) (hc : h i = .inl (0, n, .inl f)) (hj : vp_in j n)
    (kk : z_Ex w Y d Q (pc + 1) lv (.int (f j.toNatClampNeg) :: st) (n0, h, nc, ns)) : z_Ex w Y d Q pc lv (.int j :: .ref i :: st) (n0, h, nc, ns) := by
  intro p e R s m args below meth c H locs cells slots al ae ne ls C hR hT hl ho
  have hi : i < n0 := z_oh (z_ot ho)
  have hW := C.2.2.2.2.2.2.2.2.1
  exact va_iald C.1 C.2.1 (z_K hw hW) hR.1 (i - 2) 0 (z_at_arr hR h2 hi hc) rfl hj dg (kk p e R s m args below meth c H locs cells slots al ae ne ls C hR hT hl (z_oc trivial (z_ot (z_ot ho))))
theorem z_lald {i n : Nat} {f : Nat → Int64} {j : Int32} (hw : z_Wok w) (dg : decode Y.2.1 pc = .ok (.laload, 1)) (h2 : 2 ≤ i) (hc : h i = .inl (1, n, .inr (.inl f))) (hj : vp_in j n)
    (kk : z_Ex w Y d Q (pc + 1) lv (.long (f j.toNatClampNeg) :: st) (n0, h, nc, ns)) : z_Ex w Y d Q pc lv (.int j :: .ref i :: st) (n0, h, nc, ns) := by
  intro p e R s m args below meth c H locs cells slots al ae ne ls C hR hT hl ho
  have hi : i < n0 := z_oh (z_ot ho)
  have hW := C.2.2.2.2.2.2.2.2.1
  exact va_lald C.1 C.2.1 (z_K hw hW) hR.1 (i - 2) 1 (z_at_arr hR h2 hi hc) rfl hj dg (kk p e R s m args below meth c H locs cells slots al ae ne ls C hR hT hl (z_oc trivial (z_ot (z_ot ho))))
theorem z_zald {i n : Nat} {f : Nat → Int32} {j : Int32} (hw : z_Wok w) (dg : decode Y.2.1 pc = .ok (.baload, 1)) (h2 : 2 ≤ i) (hc : h i = .inl (2, n, .inl f)) (hj : vp_in j n)
    (kk : z_Ex w Y d Q (pc + 1) lv (.int (f j.toNatClampNeg) :: st) (n0, h, nc, ns)) : z_Ex w Y d Q pc lv (.int j :: .ref i :: st) (n0, h, nc, ns) := by
  intro p e R s m args below meth c H locs cells slots al ae ne ls C hR hT hl ho
  have hi : i < n0 := z_oh (z_ot ho)
  have hW := C.2.2.2.2.2.2.2.2.1
  exact va_zald C.1 C.2.1 (z_K hw hW) hR.1 (i - 2) 2 (z_at_arr hR h2 hi hc) rfl hj dg (kk p e R s m args below meth c H locs cells slots al ae ne ls C hR hT hl (z_oc trivial (z_ot (z_ot ho))))
theorem z_iast {i n : Nat} {f : Nat → Int32} {j x : Int32} (hw : z_Wok w) (dg : decode Y.2.1 pc = .ok (.iastore, 1)) (h2 : 2 ≤ i) (hc : h i = .inl (0, n, .inl f)) (hj : vp_in j n)
    (kk : z_Ex w Y d Q (pc + 1) lv st (n0, va_up h i (.inl (0, n, .inl (upd f j.toNatClampNeg x))), nc, ns)) : z_Ex w Y d Q pc lv (.int x :: .int j :: .ref i :: st) (n0, h, nc, ns) := by
  intro p e R s m args below meth c H locs cells slots al ae ne ls C hR hT hl ho
  have hi : i < n0 := z_oh (z_ot (z_ot ho))
  have hW := C.2.2.2.2.2.2.2.2.1
  exact va_iast C.1 C.2.1 (z_K hw hW) hR.1 hR.2.1 hT.1 (i - 2) 0 (z_at_arr hR h2 hi hc) rfl hj dg (fun H1 locs1 hP hD hS =>
    kk p e R s m args below meth c H1 locs1 cells slots al ae ne ls C (hR.set (c := .inl (0, n, .inl (upd f j.toNatClampNeg x))) h2 hi trivial hP hD) ⟨hS, hT.2⟩ hl (z_ot (z_ot (z_ot ho))))
theorem z_last {i n : Nat} {f : Nat → Int64} {j : Int32} {x : Int64} (hw : z_Wok w) (dg : decode Y.2.1 pc = .ok (.lastore, 1)) (h2 : 2 ≤ i) (hc : h i = .inl (1, n, .inr (.inl f))) (hj : vp_in j n)
    (kk : z_Ex w Y d Q (pc + 1) lv st (n0, va_up h i (.inl (1, n, .inr (.inl (vp_updL f j.toNatClampNeg x)))), nc, ns)) : z_Ex w Y d Q pc lv (.long x :: .int j :: .ref i :: st) (n0, h, nc, ns) := by
  intro p e R s m args below meth c H locs cells slots al ae ne ls C hR hT hl ho
  have hi : i < n0 := z_oh (z_ot (z_ot ho))
  have hW := C.2.2.2.2.2.2.2.2.1
  exact va_last C.1 C.2.1 (z_K hw hW) hR.1 hR.2.1 hT.1 (i - 2) 1 (z_at_arr hR h2 hi hc) rfl hj dg (fun H1 locs1 hP hD hS =>
    kk p e R s m args below meth c H1 locs1 cells slots al ae ne ls C (hR.set (c := .inl (1, n, .inr (.inl (vp_updL f j.toNatClampNeg x)))) h2 hi trivial hP hD) ⟨hS, hT.2⟩ hl (z_ot (z_ot (z_ot ho))))
theorem z_zast {i n : Nat} {f : Nat → Int32} {j x : Int32} (hw : z_Wok w) (dg : decode Y.2.1 pc = .ok (.bastore, 1)) (h2 : 2 ≤ i) (hc : h i = .inl (2, n, .inl f)) (hj : vp_in j n)
    (kk : z_Ex w Y d Q (pc + 1) lv st (n0, va_up h i (.inl (2, n, .inl (upd f j.toNatClampNeg (vp_nar .boolean x)))), nc, ns)) : z_Ex w Y d Q pc lv (.int x :: .int j :: .ref i :: st) (n0, h, nc, ns) := by
  intro p e R s m args below meth c H locs cells slots al ae ne ls C hR hT hl ho
  have hi : i < n0 := z_oh (z_ot (z_ot ho))
  have hW := C.2.2.2.2.2.2.2.2.1
  exact va_zast C.1 C.2.1 (z_K hw hW) hR.1 hR.2.1 hT.1 (i - 2) 2 (z_at_arr hR h2 hi hc) rfl hj dg (fun H1 locs1 hP hD hS =>
    kk p e R s m args below meth c H1 locs1 cells slots al ae ne ls C (hR.set (c := .inl (2, n, .inl (upd f j.toNatClampNeg (vp_nar .boolean x)))) h2 hi trivial hP hD) ⟨hS, hT.2⟩ hl (z_ot (z_ot (z_ot ho))))
theorem z_alen {i t : Nat} {x : vp_A} (hw : z_Wok w) (dg : decode Y.2.1 pc = .ok (.arraylength, 1)) (h2 : 2 ≤ i) (hc : h i = .inl (t, x)) (ht : t < 3)
    (kk : z_Ex w Y d Q (pc + 1) lv (.int (Int32.ofNat x.1) :: st) (n0, h, nc, ns)) : z_Ex w Y d Q pc lv (.ref i :: st) (n0, h, nc, ns) := by
  intro p e R s m args below meth c H locs cells slots al ae ne ls C hR hT hl ho
  have hi : i < n0 := z_oh ho
  have hW := C.2.2.2.2.2.2.2.2.1
  obtain ⟨ty, hty⟩ : ∃ ty, (z_tys w)[t]? = some (w.2.2.2 t, ty) := by
    rcases (show t = 0 ∨ t = 1 ∨ t = 2 by omega) with rfl | rfl | rfl <;> exact ⟨_, rfl⟩
  exact va_alen C.1 C.2.1 (z_K hw hW) hR.1 (i - 2) t (z_at_arr hR h2 hi hc) hty rfl dg (kk p e R s m args below meth c H locs cells slots al ae ne ls C hR hT hl (z_oc trivial (z_ot ho)))
/-- the script, the static table: read only -/
theorem z_ro {al : Nat → Nat} {H : Heap} {locs : List Loc} {s : State} {i n : Nat} {f : Nat → Int32} (hR : z_Rel w al M H) (hS : va_S (z_A w) w.2.1.heap H locs) (hW : w.2.1.WarmedH s.vm) (h2 : i < 2) (hc : M.2.1 i = .inl (0, n, .inl f)) :
    ∃ scr : Cell, H[al i]? = some scr ∧ s.isArrayOf scr .int ∧ scr.vm ≠ .unknown ∧ scr.slots.size = n ∧ ∀ j : Nat, j < n → scr.slots[j]? = some (.int (f j)) := by
  obtain ⟨L, g, e1, ⟨scr, h1, h3, h4, h5, h6⟩, e3, -⟩ := hR.2.2.2.1 i h2
  have e9 := e1.symm.trans hc
  cases e9
  refine ⟨scr, ?_, State.isArrayOf_alike hW.alike h3, h4, h5, h6⟩
  rw [hS.2.1 _ e3 (fun h => Nat.not_lt.mpr h e3)]
  exact h1
theorem z_sld {i n : Nat} {f : Nat → Int32} {j : Int32} (dg : decode Y.2.1 pc = .ok (.iaload, 1)) (h2 : i < 2) (hc : h i = .inl (0, n, .inl f)) (hj : vp_in j n)
    (kk : z_Ex w Y d Q (pc + 1) lv (.int (f j.toNatClampNeg) :: st) (n0, h, nc, ns)) : z_Ex w Y d Q pc lv (.int j :: .ref i :: st) (n0, h, nc, ns) := by
  intro p e R s m args below meth c H locs cells slots al ae ne ls C hR hT hl ho
  have hW := C.2.2.2.2.2.2.2.2.1
  obtain ⟨scr, h1, h3, h4, h5, h6⟩ := z_ro (s := s) hR hT.1 hW h2 hc
  have hlt : j.toNatClampNeg < n := by
    unfold vp_in at hj
    omega
  exact W.iald C.1 C.2.1 h1 h3 h4 (by rw [h5]; exact hj) (h6 _ hlt) (g := F0 m pc ls (.int j :: .ref (al i) :: st.map (z_v al))) rfl rfl dg (kk p e R s m args below meth c H locs cells slots al ae ne ls C hR hT hl (z_oc trivial (z_ot (z_ot ho))))
theorem z_slen {i n : Nat} {f : Nat → Int32} (dg : decode Y.2.1 pc = .ok (.arraylength, 1)) (h2 : i < 2) (hc : h i = .inl (0, n, .inl f))
    (kk : z_Ex w Y d Q (pc + 1) lv (.int (Int32.ofNat n) :: st) (n0, h, nc, ns)) : z_Ex w Y d Q pc lv (.ref i :: st) (n0, h, nc, ns) := by
  intro p e R s m args below meth c H locs cells slots al ae ne ls C hR hT hl ho
  have hW := C.2.2.2.2.2.2.2.2.1
  obtain ⟨scr, h1, h3, h4, h5, h6⟩ := z_ro (s := s) hR hT.1 hW h2 hc
  exact W.alen C.1 C.2.1 h1 h3 (n := Int32.ofNat n) (by rw [h5]) (g := F0 m pc ls (.ref (al i) :: st.map (z_v al))) rfl rfl dg (kk p e R s m args below meth c H locs cells slots al ae ne ls C hR hT hl (z_oc trivial (z_ot ho)))
/-- a frame goes on behind a new cell -/
theorem z_newa {aty : ArrayType} {t N : Nat} {ty : FieldType} {n : Int32} {a0 : vp_A} (hw : z_Wok w) (dg : decode Y.2.1 pc = .ok (.newarray aty, 2)) (hty : newarray.typeOf aty = ty) (ht : (z_tys w)[t]? = some (w.2.2.2 t, ty))
    (hra : ∀ (U : State) (cA : ClassId), va_RA U cA ty → U.vm.findClass ("[" ++ ty.toString) = some cA) (harr : z_has w (.arrayClass ty)) (ha : ∀ cA : ClassId, vp_cell cA a0 = arrV cA N (fun _ => defaultValue ty)) (hn : ¬ n < 0) (hN : n.toNatClampNeg = N)
    (hb : N * componentBytes ty ≤ 536870912) (hc1 : 1 ≤ nc) (hs1 : N ≤ ns)
    (kk : z_Ex w Y d Q (pc + 2) lv (.ref n0 :: st) (n0 + 1, va_up h n0 (.inl (t, a0)), nc - 1, ns - N)) : z_Ex w Y d Q pc lv (.int n :: st) (n0, h, nc, ns) := by
  intro p e R s m args below meth c H locs cells slots al ae ne ls C hR hT hl ho
  have hW := C.2.2.2.2.2.2.2.2.1
  have hK := z_K hw hW
  obtain ⟨hS, h3, h4, h5, h6⟩ := hT
  have h4 : ne ≤ n0 := h4
  have h5 : cells + nc ≤ R.cells := h5
  have h6 : slots + ns ≤ R.slots := h6
  have hz : (va_up al n0 · n0) = fun q => q := funext fun q => by simp [va_up]
  refine va_newa C.1 C.2.1 (by rw [hty]; exact harr _ _ hW) hty hK hR.1 hR.2.1 hS (fun q h => h) ha hn hN hb (by omega) (by omega) dg (fun q cA H1 hK1 hP hD hS1 => ?_)
  have hcA : cA = w.2.2.2 t := by
    have g1 := hra _ _ ((hK1.2 3 (cA, ty) (by simp [z_tys])).2)
    have g2 := hra _ _ ((hK.2 t _ ht).2)
    exact Option.some.inj (g1.symm.trans g2)
  subst hcA
  have hext : ∀ i, i < n0 → va_up al n0 q i = al i := z_up_old
  have k9 := kk p e R s m args below meth c H1 locs (cells + 1) (slots + N) (va_up al n0 q) ae ne ls C (hR.push (c := .inl (t, a0)) trivial hP hD)
    ⟨hS1, fun i hi => (hext i (Nat.lt_of_lt_of_le hi h4)).trans (h3 i hi), Nat.le_succ_of_le h4, by show cells + 1 + (nc - 1) ≤ _; omega, by show slots + N + (ns - N) ≤ _; omega⟩
    (z_Lv_ext (Nat.le_succ _) hext hl) (z_oc (Nat.lt_succ_self _) (fun v hv => z_ok_mono (Nat.le_succ _) (z_ot ho v hv)))
  have e1 : (Value.ref n0 :: st).map (z_v (va_up al n0 q)) = .ref q :: st.map (z_v al) := by
    rw [List.map_cons, z_st_ext hext (z_ot ho)]
    simp [z_v, va_up]
  rw [e1] at k9
  exact k9
def z_newF (w : z_W) (own : String) (idx ci N : Nat) (fs : List Value) : Prop := ∃ (C : String) (T : u_T) (ty : Nat → FieldType), vwCl[ci]? = some (C, T, N) ∧ (∀ c ∈ u_ws C T N, z_has w c) ∧ z_has w (.classLink own idx C) ∧ z_has w (.instantiable C N) ∧ z_has w (.initialized C) ∧
  (∀ k, k < N → parseFieldDescriptor (T k).2.2.1 = some (ty k)) ∧ (∀ j, j < N → defaultValue (ty j) = vp_V fs j) ∧ (∀ al : Nat → Nat, fs.map (z_v al) = fs) ∧ ∀ v ∈ fs, ∀ n, z_ok n v
theorem z_new {idx ci N : Nat} {fs : List Value} (hw : z_Wok w) (dg : decode Y.2.1 pc = .ok (.new idx, 3)) (hf : z_newF w Y.1.cls idx ci N fs) (hc1 : 1 ≤ nc) (hs1 : N ≤ ns)
    (kk : z_Ex w Y d Q (pc + 3) lv (.ref n0 :: st) (n0 + 1, va_up h n0 (.inr (ci, fs)), nc - 1, ns - N)) : z_Ex w Y d Q pc lv st (n0, h, nc, ns) := by
  intro p e R s m args below meth c H locs cells slots al ae ne ls C hR hT hl ho
  have hW := C.2.2.2.2.2.2.2.2.1
  have hK := z_K hw hW
  obtain ⟨hS, h3, h4, h5, h6⟩ := hT
  have h4 : ne ≤ n0 := h4
  have h5 : cells + nc ≤ R.cells := h5
  have h6 : slots + ns ≤ R.slots := h6
  obtain ⟨CC, TT, ty, e1, e2, e3, e4, e5, e6, e7, e8, e9⟩ := hf
  refine va_new (fs := fs) C.1 C.2.1 (fun c h => e2 c h _ _ hW) (fun _ h => h) ty e6 C.2.2.2.2.2.1 (e3 _ _ hW) (e4 _ _ hW) (e5 _ _ hW) hK hR.1 hR.2.1 hS (fun q h => h) e1 e7 (by omega) (by omega) dg (fun q H1 hP hD hS1 => ?_)
  have hext : ∀ i, i < n0 → va_up al n0 q i = al i := z_up_old
  have e10 : (Sum.inr (ci, fs) : va_E) = z_E w.2.2.2 al (.inr (ci, fs)) := by
    show _ = (Sum.inr (ci, fs.map (z_v al)) : va_E)
    rw [e8]
  rw [e10] at hP hD
  have k9 := kk p e R s m args below meth c H1 locs (cells + 1) (slots + N) (va_up al n0 q) ae ne ls C (hR.push (c := .inr (ci, fs)) (fun v hv => e9 v hv _) hP hD)
    ⟨hS1, fun i hi => (hext i (Nat.lt_of_lt_of_le hi h4)).trans (h3 i hi), Nat.le_succ_of_le h4, by show cells + 1 + (nc - 1) ≤ _; omega, by show slots + N + (ns - N) ≤ _; omega⟩
    (z_Lv_ext (Nat.le_succ _) hext hl) (z_oc (Nat.lt_succ_self _) (fun v hv => z_ok_mono (Nat.le_succ _) (ho v hv)))
  have e1 : (Value.ref n0 :: st).map (z_v (va_up al n0 q)) = .ref q :: st.map (z_v al) := by
    rw [List.map_cons, z_st_ext hext ho]
    simp [z_v, va_up]
  rw [e1] at k9
  exact k9
theorem z_objInit {idx : Nat} {u : Nat} (dg : decode Y.2.1 pc = .ok (.invokespecial idx, 3)) (h1 : z_has w (.methodLink Y.1.cls idx objectInit)) (h2 : z_has w (.instanceMethod objectInit)) (h3 : z_has w (.code objectInit ⟨#[0xb1]⟩ 1 none)) (hd : 1 ≤ d)
    (hst : ((st.map fun v => v.category).sum) ≤ 40) (kk : z_Ex w Y d Q (pc + 3) lv st M) : z_Ex w Y d Q pc lv (.ref u :: st) M := by
  intro p e R s m args below meth c H locs cells slots al ae ne ls C hR hT hl ho
  have hW := C.2.2.2.2.2.2.2.2.1
  have hF := C.2.2.2.2.2.2.2.2.2.1
  have hL := C.2.2.2.2.2.2.2.2.2.2
  have hcat : ((st.map (z_v al)).map fun v => v.category).sum = (st.map fun v => v.category).sum := by
    rw [List.map_map]; congr 1; exact List.map_congr_left (fun v _ => z_v_cat v)
  exact W.objInit C.1 C.2.1 C.2.2.2.2.2.1 (h1 _ _ hW) (h2 _ _ hW) (h3 _ _ hW) (g := F0 m pc ls (.ref (al u) :: st.map (z_v al))) rfl (by rw [C.2.2.1]; exact hl.1.1) rfl dg (by omega) (by
      show 2 * 0 + _ + 12 ≤ _
      rw [hcat]; omega) (kk p e R s m args below meth c H locs cells slots al ae ne ls C hR hT hl (z_ot ho))
end ZH
end
section
section ZC
variable {w : z_W} {Y : z_Y} {d : Nat} {Q : z_O → z_M → Prop} {pc : Nat} {lv lv' : List (Nat × Value)} {st : List Value} {M : z_M}
-- ---------- the ends
theorem z_endw {below : List Frame} {s : State} {R : Room} {ae al : Nat → Nat} {ne : Nat} {H : Heap} {locs : List Loc} {cells slots : Nat} {v : Option Value} {a : Array Value} (hR : z_Rel w al M H) (hT : z_Pt w R ae ne al M H locs cells slots) (hv : ∀ u, v = some u → z_ok M.1 u) (hq : Q (.inl v) M) :
    ∀ t, MQ below (fun _ _ o t => o = .returned (v.map (z_v al)) ∧ t.heap = H) a s cells slots (z_A w) t → z_End w below s R ae ne Q t := by
  rintro t ⟨o, h1, h2, ⟨rfl, h4⟩, L, ⟨-, hW', hs⟩, hL⟩
  exact ⟨_, h1, h2, .inl v, M, al, L, cells, slots, hq, ⟨rfl, hv⟩, by rw [h4]; exact hR, ⟨⟨by rw [h4]; exact hT.1.1, by rw [h4]; exact hT.1.2.1, hL⟩, hT.2.1, hT.2.2.1, hT.2.2.2.1, hT.2.2.2.2⟩, hW', hs⟩
theorem z_iret {v : Int32} (dg : decode Y.2.1 pc = .ok (.ireturn, 1)) (hr : Y.2.2.2.1 = some .int) (hq : Q (.inl (some (.int v))) M) : z_Ex w Y d Q pc lv [.int v] M := by
  intro p e R s m args below meth c H locs cells slots al ae ne ls C hR hT hl ho
  exact W.mono9 (z_endw (v := some (.int v)) (a := args) hR hT (fun u hu => by cases hu; trivial) hq) (W.iret C.1 C.2.1 (C.2.2.2.1.trans hr) (fun t ht _ => ⟨rfl, ht⟩) hT.1.2.2 dg C.2.2.2.2.1)
theorem z_zret {v : Int32} {ty : FieldType} (dg : decode Y.2.1 pc = .ok (.ireturn, 1)) (hr : Y.2.2.2.1 = some ty) (hn : narrow ty (.int v) = .int v) (hq : Q (.inl (some (.int v))) M) : z_Ex w Y d Q pc lv [.int v] M := by
  intro p e R s m args below meth c H locs cells slots al ae ne ls C hR hT hl ho
  exact W.mono9 (z_endw (v := some (.int v)) (a := args) hR hT (fun u hu => by cases hu; trivial) hq) (W.zret C.1 C.2.1 (C.2.2.2.1.trans hr) hn (fun t ht _ => ⟨rfl, ht⟩) hT.1.2.2 dg C.2.2.2.2.1)
theorem z_lret {v : Int64} (dg : decode Y.2.1 pc = .ok (.lreturn, 1)) (hr : Y.2.2.2.1 = some .long) (hq : Q (.inl (some (.long v))) M) : z_Ex w Y d Q pc lv [.long v] M := by
  intro p e R s m args below meth c H locs cells slots al ae ne ls C hR hT hl ho
  exact W.mono9 (z_endw (v := some (.long v)) (a := args) hR hT (fun u hu => by cases hu; trivial) hq) (W.lret C.1 C.2.1 (C.2.2.2.1.trans hr) (fun t ht _ => ⟨rfl, ht⟩) hT.1.2.2 dg C.2.2.2.2.1)
theorem z_vret (dg : decode Y.2.1 pc = .ok (.return_, 1)) (hr : Y.2.2.2.1 = none) (hq : Q (.inl none) M) : z_Ex w Y d Q pc lv [] M := by
  intro p e R s m args below meth c H locs cells slots al ae ne ls C hR hT hl ho
  exact W.mono9 (z_endw (v := none) (a := args) hR hT (fun u hu => by cases hu) hq) (W.vret C.1 C.2.1 (C.2.2.2.1.trans hr) (fun t ht _ => ⟨rfl, ht⟩) hT.1.2.2 dg C.2.2.2.2.1)
theorem z_aret {v : Value} {rt : FieldType} (dg : decode Y.2.1 pc = .ok (.areturn, 1)) (hr : Y.2.2.2.1 = some rt) (hrt : (∃ n, rt = .object n) ∨ ∃ t, rt = .array t) (hv : v = .null ∨ ∃ a, v = .ref a) (hq : Q (.inl (some v)) M) : z_Ex w Y d Q pc lv [v] M := by
  intro p e R s m args below meth c H locs cells slots al ae ne ls C hR hT hl ho
  refine W.mono9 (z_endw (v := some v) (a := args) hR hT (fun u hu => by cases hu; exact z_oh ho) hq) (W.aret C.1 C.2.1 (C.2.2.2.1.trans hr) hrt ?_ (fun t ht _ => ⟨rfl, ht⟩) hT.1.2.2 dg C.2.2.2.2.1)
  rcases hv with rfl | ⟨a, rfl⟩
  · exact Or.inl rfl
  · exact Or.inr ⟨al a, rfl⟩
-- ---------- the entry
theorem z_args_map {al : Nat → Nat} : ∀ (as : List Value) (i : Nat), lv_args i (as.map (z_v al)) = (lv_args i as).map fun q => (q.1, z_v al q.2)
  | [], _ => rfl
  | v :: vs, i => by
    show (i, z_v al v) :: lv_args (if (z_v al v).category = 2 then i + 2 else i + 1) (vs.map (z_v al)) = (i, z_v al v) :: (lv_args (if v.category = 2 then i + 2 else i + 1) vs).map _
    rw [z_v_cat, z_args_map vs]
theorem z_args_mem : ∀ (as : List Value) (i : Nat) (q : Nat × Value), q ∈ lv_args i as → q.2 ∈ as
  | [], _, q, h => by cases h
  | v :: vs, i, q, h => by
    rcases List.mem_cons.mp h with rfl | h9
    · exact List.mem_cons_self
    · exact List.mem_cons_of_mem _ (z_args_mem vs _ q h9)
theorem z_sl_len {al : Nat → Nat} : ∀ as : List Value, (lg_sl (as.map (z_v al))).length = (lg_sl as).length
  | [] => rfl
  | v :: vs => by
    have ih := z_sl_len (al := al) vs
    unfold lg_sl at ih ⊢
    rw [List.map_cons, List.flatMap_cons, List.flatMap_cons, List.length_append, List.length_append, ih, z_v_cat]
    split <;> rfl
theorem z_Cl_of {as : List Value} (hp : plainName Y.1.cls = true) (hn : (lg_sl as).length ≤ Y.2.2.1) (k : z_Ex w Y d Q 0 (lv_args 0 as) [] M) : z_Cl w Y d as M Q := by
  intro al
  refine MetFree.of_bodyS (code := Y.2.1) (maxLocals := Y.2.2.1) (ret := Y.2.2.2.1) hp ?_ ?_
  · intro args s m h hn
    obtain ⟨meth, c, h1, h2, h3, h4, h5, h6, -, -⟩ := z_cw_spec hn (atoms_spec (ws := [z_cw Y]) h _ List.mem_cons_self)
    exact ⟨meth, c, h1, h2, h3, h4, h5, h6⟩
  · intro p e s m args below meth c s₁ B hml hP _
    obtain ⟨rfl, hW, hR, hS, hok⟩ := hP
    have hh0 : s₁.heap = s.heap := by rw [B.state]; rfl
    have ht : c.exceptionTable.toList = tableOf Y.2.2.2.2 := by
      obtain ⟨meth9, c9, h1, h2, -, -, -, -, h7, -⟩ := z_cw_spec B.named (atoms_spec (ws := [z_cw Y]) B.pre _ List.mem_cons_self)
      cases Option.some.inj (h1.symm.trans B.method)
      cases Option.some.inj (h2.symm.trans (Stand.of_body B).code)
      exact h7
    have hl := lv_entry (as.map (z_v al)) (n := Y.2.2.1) (by rw [z_sl_len]; exact hn)
    rw [z_args_map] at hl
    have C : z_In w Y d p (z_room d M) s m meth c := ⟨B.exec, B.bytes, hml, B.returns, B.notSynchronized, findClass_of_methodNamed B.named, (name_of_methodNamed B.named B.method).1, ht, hW, Nat.le_refl _, Nat.le_refl _⟩
    have k9 := k p e (z_room d M) s m (as.map (z_v al)).toArray below meth c s.heap [] 0 0 al al M.1 _ C hR ⟨hS, fun _ _ => rfl, Nat.le_refl _, by show 0 + M.2.2.1 ≤ M.2.2.1; omega, by show 0 + M.2.2.2 ≤ M.2.2.2; omega⟩ ⟨hl, fun q hq => hok _ (z_args_mem as 0 q hq)⟩ (fun v h => by cases h)
    have e1 : F0 m 0 ((lg_sl (as.map (z_v al)) ++ List.replicate (Y.2.2.1 - (lg_sl (as.map (z_v al))).length) Slot.unset).toArray) (([] : List Value).map (z_v al)) = entryFrame m (as.map (z_v al)).toArray Y.2.2.1 := (lg_entry_eq m (as.map (z_v al)) Y.2.2.1).symm
    rw [e1] at k9
    obtain ⟨t, a1, o, b1, b2, b3⟩ := k9 s₁ hh0 (Stand.of_body B)
    exact ⟨t, o, a1, b1, b2, b3⟩
-- ---------- a call, either end
theorem z_back {l : Launch} {R rm : Room} {p : Program} {e : Env} {below : List Frame} {s U : State} {sargs a : Array Value} {y : z_Y} {len W9 : Nat} {m : MethodId} {meth : Method} {c : Code} {Ls : List Loc} {c0 s0 : Nat} {g : JFrame} {ig : Instr} {mk : MethodId}
    {Pc : Array Value → State → Prop} {Qf : Array Value → State → Outcome → State → Prop} {E : State → Outcome → State → List Loc → Nat → Nat → Prop}
    (hM : MetFree l y.1 (headSpec [z_cw y] rm) Pc (fun _ _ _ _ _ => True) Qf)
    (hQ : ∀ st o t, Qf a st o t → ∃ L k n, st.WarmedH t.vm ∧ st.sameButNew ({ t with vm := st.vm } : State) L k n ∧ E st o t L k n)
    (X : Stand p l e R s m sargs below meth c U Ls c0 s0) (hg : g.method = m) (hsize : g.locals.size = c.maxLocals) (hdg : decode c.code g.pc = .ok (ig, len)) (hW9 : 2 * g.monitorRoom + (g.stack.map fun v => v.category).sum ≤ W9) (hn : U.methodNamed? y.1 = some mk)
    (hframes : rm.frames + 1 ≤ R.frames) (hlocals : W9 + (y.2.2.1 + 11) + rm.locals ≤ R.locals) (h2 : (z_cw y).before a U = true) (h3 : (Cond.initialized y.1.cls).before a U = true) (h4 : c0 + rm.cells ≤ R.cells) (h5 : s0 + rm.slots ≤ R.slots)
    (hP : Pc a (U.calling g mk a)) :
    ∃ (o : Outcome) (t : State) (L : List Loc) (k n : Nat) (B : State), E (U.calling g mk a) o t L k n ∧ Stand p l e R s m sargs below meth c B (Ls ++ L) (c0 + k) (s0 + n) ∧ B.heap = t.heap ∧ B.vm = t.vm ∧
      ((∃ v, o = .returned v ∧ Steps p.tables e below (doInvoke e (U.setTop g) [] mk a).1 (B.setTop { g with pc := g.pc + len, stack := v.toList ++ g.stack })) ∨
       ∃ q, o = .threw q ∧ Steps p.tables e below (doInvoke e (U.setTop g) [] mk a).1 ((B.setTop g).pushFrame (.throwing q))) := by
  have h1 : (headSpec [z_cw y] rm).pre.before a U = true := atoms_intro fun z hz => by
    rcases List.mem_cons.mp hz with rfl | h
    · exact h2
    · cases h
  obtain ⟨methY, cY, hmY, hcY, -, hlY, -, -, -, -⟩ := z_cw_spec hn h2
  obtain ⟨kY, hkY, -⟩ := className_of_methodNamed hn
  have hinitY : kY.init = .initialized := Cond.initialized_spec (findClass_of_methodNamed hn) hkY h3
  have h : At U g.method c below := by rw [hg]; exact X.here
  have hl9 : W9 + (y.2.2.1 + 11) + (headSpec [z_cw y] rm).room.locals ≤ R.locals := hlocals
  have happ : (headSpec [z_cw y] rm).appliesLoose y.1 e.platform (U.calling g mk a) = true :=
    Spec.appliesLoose_calling (g := g) h hdg hn hkY hinitY (X.room_calling (g := g) (R' := (headSpec [z_cw y] rm).room) hsize hmY hcY hframes (by rw [hlY]; omega) h4 h5) h1
  obtain ⟨mid, hmid⟩ := h.above
  have hfr : (U.setTop g).frames = (.java g :: mid) ++ below := by rw [State.frames_setTop' g h.top, hmid]; rfl
  obtain ⟨o, t, hsteps, -, hend, hq⟩ := Steps.callFree hM p X.admits X.cas X.clock (acts := []) hfr happ hP trivial
  rw [State.frames_setTop' g h.top] at hend
  obtain ⟨g₀, hg0⟩ := Option.isSome_iff_exists.mp h.top
  obtain ⟨r, hr⟩ := State.topJava?_eq_some.mp hg0
  have hq' : Qf a (U.calling g mk a) o t := hq
  obtain ⟨L, k, n, hWt, hsm, hE⟩ := hQ _ _ _ hq'
  have hW' : U.WarmedH t.vm := hWt
  have hr' : (({ U with heap := t.heap, slotsUsed := t.slotsUsed } : State).setVm t.vm).frames = .java g₀ :: r := hr
  obtain ⟨e2, q2, q3, q4, q5, q6⟩ := id hsm
  have e3 : t = ({ (U.calling g mk a).setFrames t.frames with heap := t.heap, slotsUsed := t.slotsUsed } : State).setVm t.vm := by
    have e4 : t = ({ t with vm := (U.calling g mk a).vm } : State).setVm t.vm := rfl
    rw [e2] at e4
    exact e4
  have hsame : U.sameButNew ({ U with heap := t.heap, slotsUsed := t.slotsUsed } : State) L k n := by
    refine ⟨?_, q2, q3, q4, q5, q6⟩
    obtain ⟨t9, ht9, -⟩ := State.frames_cons hr
    show ({ U with heap := t.heap, slotsUsed := t.slotsUsed } : State) = { U.setFrames U.frames with heap := t.heap, slotsUsed := t.slotsUsed }
    rw [State.setFrames_self ht9]
  have XB : Stand p l e R s m sargs below meth c (({ U with heap := t.heap, slotsUsed := t.slotsUsed } : State).setVm t.vm) (Ls ++ L) (c0 + k) (s0 + n) :=
    ⟨X.admits, X.cas, X.clock, X.frames, X.room, X.hears, X.method, X.code, (X.here.setHeapUsed t.heap t.slotsUsed).setVm hW'.alike, X.tail, State.WarmedH.trans X.warmed hW', X.limits, X.bytes, X.same.trans (hsame.setVm s.vm)⟩
  refine ⟨o, t, L, k, n, _, hE, XB, rfl, rfl, ?_⟩
  cases o with
  | returned v =>
    refine Or.inl ⟨v, rfl, ?_⟩
    obtain ⟨c₂, i₂, len₂, hc₂, hd₂, hf₂⟩ := hend
    have hcc : c₂ = c := by
      have h9 : t.code? g.method = U.code? g.method := by
        rw [State.code?_eq, State.code?_eq, hW'.alike.method?]
      exact Option.some.inj (hc₂.symm.trans (h9.trans h.code))
    subst hcc
    have hlen : len₂ = len := by rw [hdg] at hd₂; cases hd₂; rfl
    subst hlen
    have hs₂ : t = (({ U with heap := t.heap, slotsUsed := t.slotsUsed } : State).setVm t.vm).setTop { g with pc := g.pc + len₂, stack := v.toList ++ g.stack } := by
      refine e3.trans ?_
      rw [hf₂, State.calling_eq h.top, State.setFrames_setFrames, State.setTop_of_frames _ hr', hr]
      rfl
    rw [← hs₂]
    exact hsteps
  | threw q =>
    refine Or.inr ⟨q, rfl, ?_⟩
    have hf₂ : t.frames = .throwing q :: .java g :: U.frames.tail := hend
    have hs₂ : t = ((({ U with heap := t.heap, slotsUsed := t.slotsUsed } : State).setVm t.vm).setTop g).pushFrame (.throwing q) := by
      refine e3.trans ?_
      rw [hf₂, State.calling_eq h.top, State.setFrames_setFrames, State.pushFrame, State.frames_setTop _ hr', State.setTop_of_frames _ hr', State.setFrames_setFrames, hr]
      rfl
    rw [← hs₂]
    exact hsteps
/-- a site: the instruction at pc goes to y, with the arguments as (the receiver first), leaving rest -/
def z_site (w : z_W) (Y : z_Y) (pc : Nat) (y : z_Y) (oc : Option String) (as : List Value) : Prop :=
  ∀ {p : Program} {e : Env} {R : Room} {s : State} {m : MethodId} {args : Array Value} {below : List Frame} {meth : Method} {c : Code} {T : State} {locs : List Loc} {cells slots : Nat} (ls : Array Slot) (al : Nat → Nat) (rest : List Value),
    Stand p w.1 e R s m args below meth c T locs cells slots → p.tables.exec = Jvm.exec → c.code = Y.2.1 → s.vm.findClass Y.1.cls = some m.cls → w.2.1.WarmedH s.vm →
    (∀ C, oc = some C → ∃ (i : Nat) (cell : Cell), as.head? = some (.ref i) ∧ T.heap[al i]? = some cell ∧ cell.vm.isStatics = false ∧ s.vm.findClass C = some cell.cls) →
    ∃ (vm₁ : Vm) (mk : MethodId) (ig : Instr), decode c.code pc = .ok (ig, 3) ∧ s.WarmedH vm₁ ∧ s.methodNamed? y.1 = some mk ∧
      ∀ target, (∀ acts, Steps p.tables e below (doInvoke e ((T.setVm vm₁).setTop (F0 m pc ls rest)) acts mk (as.map (z_v al)).toArray).1 target) → Steps p.tables e below (T.setTop (F0 m pc ls ((as.reverse).map (z_v al) ++ rest))) target
def z_np (y : MethodName) (n : Nat) : Prop := y.cls ≠ "java/lang/invoke/MethodHandle" ∧ y.cls ≠ "java/lang/invoke/VarHandle" ∧ (parseMethodDescriptor y.desc).map (fun d => d.parameters.length) = some n
theorem z_np_len {y : MethodName} {n : Nat} (h : z_np y n) (sig) (hs : parseMethodDescriptor y.desc = some sig) : n = sig.parameters.length := by
  have h2 := h.2.2
  rw [hs] at h2
  exact (Option.some.inj h2).symm
theorem z_cw_named {Y : z_Y} {s : State} {a : Array Value} (h : (z_cw Y).before a s = true) : ∃ m, s.methodNamed? Y.1 = some m := by
  unfold z_cw at h
  split at h
  · exact Cond.code_named h
  · obtain ⟨m9, meth, c, hn9, -⟩ := Cond.codeWith_spec h
    exact ⟨m9, hn9⟩
theorem z_siteV {y : z_Y} {idx n i : Nat} {C : String} {as : List Value} (hdg : decode Y.2.1 pc = .ok (.invokevirtual idx, 3)) (hp : z_np y.1 n) (hlen : as.length = n)
    (h1 : z_has w (.methodLink Y.1.cls idx y.1) ∨ ∃ host, z_has w (.methodLinkNest Y.1.cls idx y.1 host)) (h2 : z_has w (.instanceMethod y.1)) (h3 : z_has w (.selects C y.1 y.1)) (h4 : z_has w (z_cw y)) : z_site w Y pc y (some C) (.ref i :: as) := by
  intro p e R s m args below meth c T locs cells slots ls al rest X hexec hb hown hW hrc
  obtain ⟨i9, cellB, e1, hcell, hobj, hcls⟩ := hrc C rfl
  cases e1
  obtain ⟨mk, methM, hnamed, hmethM, hstM, habM⟩ := Cond.instanceMethod_spec (h2 args s hW)
  obtain ⟨methM', cM, hmethM', -, -, -, -, -, -, hsigM⟩ := z_cw_spec hnamed (h4 args s hW)
  cases hmethM.symm.trans hmethM'
  obtain ⟨c2, r2, m2, q1, q2, q3, q4, kP, hkP, hkPi⟩ := Cond.selects_spec (h3 args s hW)
  cases hcls.symm.trans q1
  cases (State.methodFound?_of_named hnamed ⟨hp.1, hp.2.1⟩).symm.trans q2
  cases hnamed.symm.trans q3
  have hselP : selectMethod e.platform s.vm cellB.cls mk = .method mk := by rw [Launch.admits_selectMethod X.admits]; exact q4
  have hst : (F0 m pc ls (((Value.ref i :: as).reverse).map (z_v al) ++ rest)).stack = (as.map (z_v al)).reverse ++ .ref (al i) :: rest := by
    show ((Value.ref i :: as).reverse).map (z_v al) ++ rest = _
    rw [List.map_reverse, List.map_cons, List.reverse_cons, List.append_assoc]
    rfl
  have hl9 : (as.map (z_v al)).length = methM.sig.parameters.length := by rw [List.length_map, hlen]; exact z_np_len hp _ hsigM
  rcases h1 with h1 | ⟨host, h1⟩
  · obtain ⟨vm₁, X₁, hstep₁⟩ := X.invokevirtual hexec hown (h1 args s hW) hnamed hmethM hstM hkP hkPi ⟨hp.1, hp.2.1⟩ (a := al i) (cell := cellB) hcell
      (fun z h => by rw [h] at hobj; cases hobj) hselP hmethM habM hkP hkPi (g := F0 m pc ls (((Value.ref i :: as).reverse).map (z_v al) ++ rest)) rfl (argsL := as.map (z_v al)) (rest := rest) hl9 hst (by rw [hb]; exact hdg)
    exact ⟨vm₁, mk, _, by rw [hb]; exact hdg, X₁.warmed, hnamed, hstep₁⟩
  · obtain ⟨vm₁, X₁, hstep₁⟩ := X.invokevirtualNest hexec hown (h1 args s hW) hnamed hmethM hstM hkP hkPi ⟨hp.1, hp.2.1⟩ (a := al i) (cell := cellB) hcell
      (fun z h => by rw [h] at hobj; cases hobj) hselP hmethM habM hkP hkPi (g := F0 m pc ls (((Value.ref i :: as).reverse).map (z_v al) ++ rest)) rfl (argsL := as.map (z_v al)) (rest := rest) hl9 hst (by rw [hb]; exact hdg)
    exact ⟨vm₁, mk, _, by rw [hb]; exact hdg, X₁.warmed, hnamed, hstep₁⟩
theorem z_siteS {y : z_Y} {idx n : Nat} {as : List Value} (hdg : decode Y.2.1 pc = .ok (.invokestatic idx, 3)) (hp : z_np y.1 n) (hlen : as.length = n)
    (h1 : z_has w (.methodLink Y.1.cls idx y.1) ∨ ∃ host, z_has w (.methodLinkNest Y.1.cls idx y.1 host)) (h2 : z_has w (.static y.1)) (h3 : z_has w (.initialized y.1.cls)) (h4 : z_has w (z_cw y)) : z_site w Y pc y none as := by
  intro p e R s m args below meth c T locs cells slots ls al rest X hexec hb hown hW hrc
  obtain ⟨mk, hnamed⟩ := z_cw_named (h4 args s hW)
  obtain ⟨methM, cM, hmethM, -, -, -, -, -, -, hsigM⟩ := z_cw_spec hnamed (h4 args s hW)
  have hstatic : methM.isStatic = true := Cond.static_spec hnamed hmethM (h2 args s hW)
  obtain ⟨kP, hkP, -⟩ := className_of_methodNamed hnamed
  have hinitP : kP.init = .initialized := Cond.initialized_spec (findClass_of_methodNamed hnamed) hkP (h3 args s hW)
  have hst : (F0 m pc ls ((as.reverse).map (z_v al) ++ rest)).stack = (as.map (z_v al)).reverse ++ rest := by
    show (as.reverse).map (z_v al) ++ rest = _
    rw [List.map_reverse]
  have hl9 : (as.map (z_v al)).length = methM.sig.parameters.length := by rw [List.length_map, hlen]; exact z_np_len hp _ hsigM
  rcases h1 with h1 | ⟨host, h1⟩
  · obtain ⟨vm₁, X₁, hstep₁⟩ := X.invokestatic hexec hown (h1 args s hW) hnamed hmethM hstatic hkP hinitP ⟨hp.1, hp.2.1⟩ (g := F0 m pc ls ((as.reverse).map (z_v al) ++ rest)) rfl (argsL := as.map (z_v al)) (rest := rest) hl9 hst (by rw [hb]; exact hdg)
    exact ⟨vm₁, mk, _, by rw [hb]; exact hdg, X₁.warmed, hnamed, hstep₁⟩
  · obtain ⟨vm₁, X₁, hstep₁⟩ := X.invokestaticNest hexec hown (h1 args s hW) hnamed hmethM hstatic hkP hinitP ⟨hp.1, hp.2.1⟩ (g := F0 m pc ls ((as.reverse).map (z_v al) ++ rest)) rfl (argsL := as.map (z_v al)) (rest := rest) hl9 hst (by rw [hb]; exact hdg)
    exact ⟨vm₁, mk, _, by rw [hb]; exact hdg, X₁.warmed, hnamed, hstep₁⟩
theorem z_siteI {y : z_Y} {idx n i : Nat} {as : List Value} (hdg : decode Y.2.1 pc = .ok (.invokespecial idx, 3)) (hp : z_np y.1 n) (hlen : as.length = n) (hy1 : y.1.name = "<init>") (hy2 : y.2.2.2.1 = none) (hy3 : y.2.2.2.2 = [])
    (h1 : z_has w (.methodLink Y.1.cls idx y.1) ∨ ∃ host, z_has w (.methodLinkNest Y.1.cls idx y.1 host)) (h2 : z_has w (.instanceMethod y.1)) (h4 : z_has w (z_cw y)) : z_site w Y pc y none (.ref i :: as) := by
  intro p e R s m args below meth c T locs cells slots ls al rest X hexec hb hown hW hrc
  have hpl : e.platform.magicAccessors = ({} : Platform).magicAccessors := by rw [X.admits.platform]
  have hst : (F0 m pc ls (((Value.ref i :: as).reverse).map (z_v al) ++ rest)).stack = (as.map (z_v al)).reverse ++ .ref (al i) :: rest := by
    show ((Value.ref i :: as).reverse).map (z_v al) ++ rest = _
    rw [List.map_reverse, List.map_cons, List.reverse_cons, List.append_assoc]
    rfl
  have hl9 : ∀ sig, parseMethodDescriptor y.1.desc = some sig → (as.map (z_v al)).length = sig.parameters.length := fun sig hs => by rw [List.length_map, hlen]; exact z_np_len hp _ hs
  have h4 : z_has w (.code y.1 y.2.1 y.2.2.1 none) := fun A U hU => by
    have h9 := h4 A U hU
    unfold z_cw at h9
    rw [if_pos hy3, hy2] at h9
    exact h9
  rcases h1 with h1 | ⟨host, h1⟩
  · obtain ⟨mk, methM, cM, kP, vm₁, hnamed, -, -, -, -, -, -, -, hW₁, hstep₁⟩ := Steps.initColdArgs (e := e) X.here hexec X.warmed hpl hown hy1 ⟨hp.1, hp.2.1⟩ (h1 args s hW) (h2 args s hW) (h4 args s hW) (f := F0 m pc ls (((Value.ref i :: as).reverse).map (z_v al) ++ rest)) rfl hl9 hst (by rw [hb]; exact hdg)
    exact ⟨vm₁, mk, _, by rw [hb]; exact hdg, hW₁, hnamed, hstep₁⟩
  · obtain ⟨mk, methM, cM, kP, vm₁, hnamed, -, -, -, -, -, -, -, hW₁, hstep₁⟩ := Steps.initColdArgsNest (e := e) X.here hexec X.warmed hpl hown hy1 ⟨hp.1, hp.2.1⟩ (h1 args s hW) (h2 args s hW) (h4 args s hW) (f := F0 m pc ls (((Value.ref i :: as).reverse).map (z_v al) ++ rest)) rfl hl9 hst (by rw [hb]; exact hdg)
    exact ⟨vm₁, mk, _, by rw [hb]; exact hdg, hW₁, hnamed, hstep₁⟩
/-- a call: behind it, or out with what was thrown -/
theorem z_call {y : z_Y} {oc : Option String} {d' : Nat} {as st0 : List Value} {Q' : z_O → z_M → Prop} (hw : z_Wok w) (hnt : Y.2.2.2.2 = []) (hsite : z_site w Y pc y oc as) (hst : as.reverse ++ st = st0) (hcl : z_Cl w y d' as M Q') (hd : d' + 1 ≤ d)
    (hrc : ∀ C, oc = some C → ∃ (i ci : Nat) (fs : List Value) (q : vw_C), as.head? = some (.ref i) ∧ 2 ≤ i ∧ M.2.1 i = .inr (ci, fs) ∧ vwCl[ci]? = some q ∧ q.1 = C)
    (h4 : z_has w (z_cw y)) (h5 : z_has w (.initialized y.1.cls)) (hwords : (st.map fun v => v.category).sum + y.2.2.1 ≤ 50)
    (k1 : ∀ v M', Q' (.inl v) M' → z_Ex w Y d Q (pc + 3) lv (v.toList ++ st) M') (k2 : ∀ k M', Q' (.inr k) M' → Q (.inr k) M') : z_Ex w Y d Q pc lv st0 M := by
  subst hst
  intro p e R s m args below meth c H locs cells slots al ae ne ls C hR hT hl ho T hTH X
  obtain ⟨hx, hb, hml, hret, hlocks, hown, hname, htab, hW, hF, hL⟩ := id C
  obtain ⟨hS, hae, hne, hcc, hss⟩ := id hT
  have hoas : ∀ v ∈ as, z_ok M.1 v := fun v hv => ho v (List.mem_append_left _ (List.mem_reverse.mpr hv))
  have host : ∀ v ∈ st, z_ok M.1 v := fun v hv => ho v (List.mem_append_right _ hv)
  have hrc' : ∀ C9, oc = some C9 → ∃ (i : Nat) (cell : Cell), as.head? = some (.ref i) ∧ T.heap[al i]? = some cell ∧ cell.vm.isStatics = false ∧ s.vm.findClass C9 = some cell.cls := by
    intro C9 h9
    obtain ⟨i, ci, fs, q, e1, e2, e3, e4, e5⟩ := hrc C9 h9
    have hi : i < M.1 := by
      have h8 : (Value.ref i) ∈ as := by
        cases as with
        | nil => cases e1
        | cons z zs => cases e1; exact List.mem_cons_self
      exact hoas _ h8
    obtain ⟨r, g1, cell, g2, g3, g4, -⟩ := hR.1 _ _ (z_at_obj hR e2 hi e3)
    have hr9 : r = q := Option.some.inj (g1.symm.trans e4)
    subst hr9
    obtain ⟨-, hfc, -⟩ := (z_K hw hW).1 ci _ e4
    refine ⟨i, cell, e1, by rw [hTH]; exact g2, by rw [g4]; rfl, ?_⟩
    rw [← e5, g3]
    exact hfc
  obtain ⟨vm₁, mk, ig, hdg, hW₁, hnamed, hstep⟩ := hsite ls al (st.map (z_v al)) X hx hb hown hW hrc'
  have X₁ := X.noted hW₁
  have hcat : ((st.map (z_v al)).map fun v => v.category).sum = (st.map fun v => v.category).sum := by
    rw [List.map_map]; congr 1; exact List.map_congr_left (fun v _ => z_v_cat v)
  have hWU : w.2.1.WarmedH (T.setVm vm₁).vm := State.WarmedH.trans hW hW₁
  obtain ⟨o, t, L, k, n, B, hE, XB, hBh, hBv, hout⟩ := z_back (W9 := (st.map fun v => v.category).sum) (Ls := locs) (c0 := cells) (s0 := slots) (a := (as.map (z_v al)).toArray) (E := fun st9 o t L k n => ∃ (out : z_O) (M' : z_M) (al' : Nat → Nat), Q' out M' ∧ z_Out w al' M'.1 out o t ∧ z_Rel w al' M' t.heap ∧ z_Pt w (z_room d' M) al M.1 al' M' t.heap L k n)
    (hcl al) (fun st9 o t h9 => by
      obtain ⟨out, M', al', L, k, n, h1, h2, h3, h4, h5, h6⟩ := h9
      exact ⟨L, k, n, h5, h6, out, M', al', h1, h2, h3, h4⟩)
    X₁ (g := F0 m pc ls (st.map (z_v al))) rfl (by rw [hml]; exact hl.1.1) hdg (by
      show 2 * 0 + _ ≤ _
      rw [hcat]; omega) (mk := mk) (X₁.named hnamed) (by show d' + 1 ≤ R.frames; omega) (by show _ + 64 * d' ≤ _; omega) (h4 _ _ hWU) (h5 _ _ hWU) (by show cells + M.2.2.1 ≤ _; exact hcc) (by show slots + M.2.2.2 ≤ _; exact hss)
    ⟨rfl, hWU, by show z_Rel w al M T.heap; rw [hTH]; exact hR, by show va_S (z_A w) w.2.1.heap T.heap []; rw [hTH]; exact ⟨hS.1, hS.2.1, fun _ h => by cases h⟩, hoas⟩
  obtain ⟨out, M', al', hq', ho', hR', hS', hae', hne', hcc', hss'⟩ := hE
  have hT' : z_Pt w R ae ne al' M' B.heap (locs ++ L) (cells + k) (slots + n) := by
    refine ⟨⟨by rw [hBh]; exact hS'.1, by rw [hBh]; exact hS'.2.1, fun z hz => (List.mem_append.mp hz).elim (hS.2.2 z) (hS'.2.2 z)⟩, fun i hi => (hae' i (Nat.lt_of_lt_of_le hi hne)).trans (hae i hi), Nat.le_trans hne hne', ?_, ?_⟩
    · have h9 : k + M'.2.2.1 ≤ M.2.2.1 := hcc'
      omega
    · have h9 : n + M'.2.2.2 ≤ M.2.2.2 := hss'
      omega
  have hRB : z_Rel w al' M' B.heap := by rw [hBh]; exact hR'
  have hstE : st.map (z_v al') = st.map (z_v al) := z_st_ext hae' host
  have hjoin : ((as.reverse ++ st).map (z_v al)) = (as.reverse).map (z_v al) ++ st.map (z_v al) := List.map_append
  rw [hjoin]
  rcases hout with ⟨v, rfl, hs⟩ | ⟨q, rfl, hs⟩
  · cases out with
    | inr k9 =>
      obtain ⟨_, _, h9, -⟩ := ho'
      cases h9
    | inl v9 =>
      obtain ⟨h9, hok9⟩ := ho'
      cases h9
      have k9 := k1 v9 M' hq' p e R s m args below meth c B.heap (locs ++ L) (cells + k) (slots + n) al' ae ne ls C hRB hT' (z_Lv_ext hne' hae' hl) (fun u hu => by
        rcases List.mem_append.mp hu with h | h
        · exact hok9 u (by cases v9 with
            | none => cases h
            | some z => rcases List.mem_cons.mp h with rfl | h'; rfl; cases h')
        · exact z_ok_mono hne' (host u h)) B rfl XB
      obtain ⟨t2, a1, b1⟩ := k9
      refine ⟨t2, hstep _ (fun acts => ?_), b1⟩
      rw [doInvoke_state]
      refine hs.trans ?_
      have e9 : ((v9.map (z_v al')).toList ++ st.map (z_v al)) = ((v9.toList ++ st).map (z_v al')) := by
        rw [List.map_append, hstE]
        cases v9 <;> rfl
      show Steps p.tables e below (B.setTop (F0 m (pc + 3) ls ((v9.map (z_v al')).toList ++ st.map (z_v al)))) t2
      rw [e9]
      exact a1
  · cases out with
    | inl v9 =>
      obtain ⟨h9, -⟩ := ho'
      cases h9
    | inr k9 =>
      obtain ⟨q9, ce, h9, hce, hcv, hcl9⟩ := ho'
      cases h9
      obtain ⟨st1, hrun, hend, hWt, hsm⟩ := XB.leaveThrown q (g := F0 m pc ls (st.map (z_v al))) rfl rfl rfl (fun z hz => by rw [htab, hnt] at hz; cases hz) hlocks
      refine ⟨_, (hstep _ (fun acts => by rw [doInvoke_state]; exact hs)).trans st1, .threw q, hrun, hend, .inr k9, M', al', locs ++ L, cells + k, slots + n, k2 k9 M' hq', ⟨q, ce, rfl, ?_, hcv, hcl9⟩, ?_, ?_, hWt, hsm⟩
      · show B.heap[q]? = some ce
        rw [hBh]; exact hce
      · show z_Rel w al' M' B.heap
        exact hRB
      · exact hT'
end ZC
end
section
section ZT
variable {w : z_W} {Y : z_Y} {d : Nat} {Q : z_O → z_M → Prop} {pc : Nat} {lv lv' : List (Nat × Value)} {st : List Value} {M : z_M} {n0 : Nat} {h : Nat → va_E} {nc ns : Nat}
/-- a word that holds wherever the run can be, the first heap's cells being as they were -/
def z_hasH (w : z_W) (c : Cond) : Prop := ∀ (A : Array Value) (U : State), w.2.1.WarmedH U.vm → (∀ q : Nat, q < w.2.1.heap.size → U.heap[q]? = w.2.1.heap[q]?) → c.before A U = true
theorem z_hasH_of {c : Cond} (h9 : z_has w c) : z_hasH w c := fun A U hW _ => h9 A U hW
/-- the same body, as if it began in the heap as it is now -/
theorem z_anew {p : Program} {l : Launch} {e : Env} {R : Room} {s : State} {m : MethodId} {args : Array Value} {below : List Frame} {meth : Method} {c : Code} {T : State} {locs : List Loc} {cells slots : Nat}
    (X : Stand p l e R s m args below meth c T locs cells slots) (a b : Nat) (hc : cells + a ≤ R.cells) (hs : slots + b ≤ R.slots) :
    Stand p l e { frames := R.frames, locals := R.locals, cells := a, slots := b } ((T.setVm s.vm).setFrames (.invoking m args :: below)) m args below meth c T [] 0 0 := by
  have htop : (T.setVm s.vm).topJava?.isSome := X.here.top
  obtain ⟨g₀, hg0⟩ := Option.isSome_iff_exists.mp htop
  obtain ⟨r, hr⟩ := State.topJava?_eq_some.mp hg0
  have hF : ((T.setVm s.vm).setFrames (.invoking m args :: below)).frames = .invoking m args :: below := State.frames_setFrames _ (State.cur_lt_of_top htop)
  have hlim : e.platform.stackLimits (T.setVm s.vm).me = e.platform.stackLimits s.me := X.limits
  have hbyt : (T.setVm s.vm).me.stackBytes = s.me.stackBytes := X.bytes
  have hroom : ((T.setVm s.vm).setFrames (.invoking m args :: below)).hasRoom e.platform { frames := R.frames, locals := R.locals, cells := a, slots := b } = true := by
    have hr0 := X.room
    have hU : ((T.setVm s.vm).setFrames (.invoking m args :: below)).localsInUse = s.localsInUse := by
      rw [State.localsInUse_invoking hF (meth := meth) (c := c) X.method X.code, State.localsInUse_invoking X.frames X.method X.code]
    have q1 := X.heapSize
    have q2 := X.used
    simp only [State.hasRoom, Bool.and_eq_true, decide_eq_true_eq] at hr0 ⊢
    obtain ⟨⟨⟨⟨h1, h2, h3, h4, h5, h6⟩, h7⟩, h8⟩, h9⟩ := hr0
    rw [X.frames, List.length_cons] at h2 h3
    simp only [hF, hU, List.length_cons, State.stackLimits_setFrames, State.stackBytes_setFrames, hlim, hbyt]
    have z1 : ((T.setVm s.vm).setFrames (.invoking m args :: below)).heap.size = T.heap.size := rfl
    have z2 : ((T.setVm s.vm).setFrames (.invoking m args :: below)).slotsUsed = T.slotsUsed := rfl
    rw [z1, z2]
    exact ⟨⟨⟨⟨h1, h2, h3, h4, h5, h6⟩, by omega⟩, by omega⟩, X.book⟩
  have hnil : (T.heap.toList.drop T.heap.size).map (fun z : Cell => z.slots.size) = [] := by
    rw [List.drop_eq_nil_of_le (Nat.le_of_eq Array.length_toList)]; rfl
  refine ⟨X.admits, X.cas, X.clock, hF, hroom, X.hears, X.method, X.code, X.here, X.tail, X.warmed, by rw [State.stackLimits_setFrames]; rfl, by rw [State.stackBytes_setFrames]; rfl, ?_, Nat.le_refl _, Nat.le_refl _, ?_, ?_, fun a9 c9 h9 => ⟨c9, h9, rfl, rfl, fun _ _ => rfl⟩⟩
  · obtain ⟨t, ht, -⟩ := State.frames_cons hr
    show T.setVm s.vm = { ((T.setVm s.vm).setFrames (.invoking m args :: below)).setFrames (T.setVm s.vm).frames with heap := T.heap, slotsUsed := T.slotsUsed }
    rw [State.setFrames_setFrames, State.setFrames_self ht]
    rfl
  · show T.slotsUsed = T.slotsUsed + ((T.heap.toList.drop T.heap.size).map (fun z : Cell => z.slots.size)).sum
    rw [hnil]; rfl
  · show ((T.heap.toList.drop T.heap.size).map (fun z : Cell => z.slots.size)).sum ≤ 0
    rw [hnil]; exact Nat.le_refl _
/-- what 'throw new E()' links -/
def z_thrF (w : z_W) (own : String) (ik ic k : Nat) (names : List String) : Prop :=
  Bundle.fit (z_exc k) = true ∧ (∀ n ∈ names, Bundle.fit n = true) ∧ z_has w (.classLink own ik (z_exc k)) ∧ z_has w (.initialized (z_exc k)) ∧ ∀ c ∈ Bundle.ownAtoms0 own ic (z_exc k) names, z_hasH w c
theorem z_throw {ik ic k : Nat} {names : List String} (hnt : Y.2.2.2.2 = []) (htr : w.1.stackTraces = false) (hf : z_thrF w Y.1.cls ik ic k names)
    (d0 : decode Y.2.1 pc = .ok (.new ik, 3)) (d3 : decode Y.2.1 (pc + 3) = .ok (.dup, 1)) (d4 : decode Y.2.1 (pc + 4) = .ok (.invokespecial ic, 3)) (d7 : decode Y.2.1 (pc + 7) = .ok (.athrow, 1))
    (hd : names.length + 5 ≤ d) (hst : (st.map fun v => v.category).sum ≤ 40) (hc1 : 1 ≤ nc) (hs1 : 6 ≤ ns) (hq : Q (.inr k) (n0, h, nc - 1, ns - 6)) : z_Ex w Y d Q pc lv st (n0, h, nc, ns) := by
  intro p e R s m args below meth c H locs cells slots al ae ne ls C hR hT hl ho T hTH X
  obtain ⟨hx, hb, hml, hret, hlocks, hown, hname, htab, hW, hF, hL⟩ := id C
  obtain ⟨hS, hae, hne, hcc, hss⟩ := id hT
  obtain ⟨f1, f2, f3, f4, f5⟩ := hf
  have htr' : e.platform.stackTraces = false := (show e.platform.stackTraces = w.1.stackTraces by rw [X.admits.platform]).trans htr
  have hcc9 : cells + nc ≤ R.cells := hcc
  have hss9 : slots + ns ≤ R.slots := hss
  have Z := z_anew X 1 6 (by omega) (by omega)
  generalize hs' : (T.setVm s.vm).setFrames (.invoking m args :: below) = s' at Z
  have hvm : s'.vm = s.vm := by rw [← hs']; rfl
  have hhp : s'.heap = H := by rw [← hs']; exact hTH
  have hW' : w.2.1.WarmedH s'.vm := by rw [hvm]; exact hW
  have hold : ∀ q : Nat, q < w.2.1.heap.size → s'.heap[q]? = w.2.1.heap[q]? := fun q hq9 => by rw [hhp]; exact hS.2.1 q hq9 (fun h9 => Nat.not_lt.mpr h9 hq9)
  have hat : ∀ c ∈ Bundle.ownAtoms0 Y.1.cls ic (z_exc k) names, c.before args s' = true := fun c hc => f5 c hc args s' hW' hold
  have hown' : s'.vm.findClass Y.1.cls = some m.cls := by rw [hvm]; exact hown
  have hins : (Cond.instantiable (z_exc k) 6).before args s' = true := hat _ (by simp [Bundle.ownAtoms0])
  obtain ⟨vm₁, cX, kX, hfX, hkX, -, -, X₁, st1⟩ := Z.newCold hx (own := Y.1.cls) (C := z_exc k) (index := ik) (n := 6) hown' (f3 _ _ hW') hins (f4 _ _ hW') (g := F0 m pc ls (st.map (z_v al))) rfl (by rw [hb]; exact d0) (Nat.le_refl _) (Nat.le_refl _)
  generalize hT1 : (T.setVm vm₁).pushCell { cls := cX, slots := kX.instanceTypes.map defaultValue, vm := .none } = T1 at X₁ st1
  have hcellA : T1.heap[T.heap.size]? = some (freshCell cX kX) := by rw [← hT1]; exact State.heap_pushCell_size _ _
  have d3' : decode c.code (pc + 3) = .ok (.dup, 1) := by rw [hb]; exact d3
  have hcat : ((st.map (z_v al)).map fun v => v.category).sum = (st.map fun v => v.category).sum := by
    rw [List.map_map]; congr 1; exact List.map_congr_left (fun v _ => z_v_cat v)
  have hc1' : (Value.ref T.heap.size).category = 1 := rfl
  obtain ⟨U, hsteps, hrun, hend, hWU, hsame, ce, hce, hO⟩ := X₁.ctorThrow0 hx htr' (own := Y.1.cls) (cls := z_exc k) (names := names) (ic := ic) hown' f1 f2 hat (fun z hz => by cases hz) hfX hkX hcellA (by rw [hhp, hTH]; exact Nat.le_refl _)
    (g := F0 m (pc + 4) ls (.ref T.heap.size :: .ref T.heap.size :: st.map (z_v al))) rfl (by rw [hml]; exact hl.1.1) rfl rfl (rest := st.map (z_v al)) rfl (by rw [hb]; exact d4) (by rw [hb]; exact d7) (fun z hz => by rw [htab, hnt] at hz; cases hz)
    (by show names.length + 3 < R.frames; omega) (by
      show 2 * 0 + _ + _ ≤ R.locals
      simp only [List.map_cons, List.sum_cons, hc1', hcat]
      omega) hlocks
  have hkept : ∀ q : Nat, q < H.size → U.heap[q]? = H[q]? := by
    intro q hq9
    rw [← hhp] at hq9 ⊢
    obtain ⟨c9, e1, e2, e3, e4⟩ := hsame.2.2.2.2.2 q _ (Array.getElem?_eq_getElem hq9)
    have hsl : c9.slots = (s'.heap[q]).slots := Array.ext_getElem? fun i => e4 i (fun hm => by cases hm)
    have h9 : c9 = s'.heap[q] := by rw [hsl] at e2; exact e2
    have e5 : U.heap[q]? = some c9 := e1
    rw [e5, h9, Array.getElem?_eq_getElem hq9]
  have hsz : H.size ≤ U.heap.size := by rw [← hhp]; exact hsame.2.1
  have hWs : s.WarmedH U.vm := State.WarmedH.trans (by rw [hvm]; exact State.WarmedH.refl s) hWU
  have hall : s.sameButNew ({ U with vm := s.vm } : State) locs (cells + 1) (slots + 6) := by
    subst hs'
    obtain ⟨e1, e2⟩ := hsame
    rw [State.setFrames_setFrames] at e1
    have h2 : (T.setVm s.vm).sameButNew ({ U with vm := s.vm } : State) [] (0 + 1) (0 + 6) := ⟨e1, e2⟩
    have h3 := X.same.trans h2
    rw [List.append_nil] at h3
    exact h3
  refine ⟨U, st1 _ ?_, .threw T.heap.size, hrun, hend, .inr k, (n0, h, nc - 1, ns - 6), al, locs, cells + 1, slots + 6, hq, ⟨T.heap.size, ce, rfl, hce, hO.vm, ?_⟩, ?_, ?_, hWs, hall⟩
  · show Steps p.tables e below (T1.setTop (F0 m (pc + 3) ls (.ref T.heap.size :: st.map (z_v al)))) U
    jvm_step X₁.here [X₁.here.top, hx, d3', Value.category]
    exact hsteps
  · have h9 := hO.cls
    rw [hvm, hW.alike.findClass] at h9
    exact h9
  · exact ⟨hR.1.kept (fun k9 q hq9 => hkept _ ((hR.1 k9 q hq9).lt)), hR.2.1, hR.2.2⟩
  · refine ⟨⟨Nat.le_trans hS.1 hsz, fun q h1 h2 => (hkept q (Nat.lt_of_lt_of_le h1 hS.1)).trans (hS.2.1 q h1 h2), hS.2.2⟩, hae, hne, ?_, ?_⟩
    · show cells + 1 + (nc - 1) ≤ R.cells
      omega
    · show slots + 6 + (ns - 6) ≤ R.slots
      omega
end ZT
end
section
section ZX
/-- the search through a table, from tables that may be cold: where it ends, and with which tables -/
theorem z_seek {e : Env} {s0 : State} {f : JFrame} {q : Addr} {cell : Cell} (hv : cell.vm = .none) (hk0 : ∃ k, s0.vm.classes[cell.cls]? = some k) (z : ExceptionTableEntry) (suf : List ExceptionTableEntry) (hz : covers z f.pc = true) (h0 : z.catchType ≠ 0)
    {cz : ClassId} (hlz : s0.vm.ClassLinks e.platform f.method.cls z.catchType cz) (hfit : s0.vm.assignable cell.cls cz = true) :
    ∀ (pre : List ExceptionTableEntry) (S : State), s0.WarmedH S.vm → S.heap[q]? = some cell → (∀ y ∈ pre, covers y f.pc = true ∧ y.catchType ≠ 0 ∧ ∃ cy, s0.vm.ClassLinks e.platform f.method.cls y.catchType cy ∧ s0.vm.assignable cell.cls cy = false) →
      ∃ vm', s0.WarmedH vm' ∧ ∀ (Q : Handler → Pre) (E : CtlPost) (d : Bool) (acts : List Action), wp (findHandler.go f q (pre ++ z :: suf)) Q E e d acts S ↔ Q (.found z.handlerPc) d acts (S.setVm vm') := by
  have hobj : ∀ k, cell.vm ≠ .statics k := fun k h => by rw [hv] at h; cases h
  obtain ⟨k0, hk0⟩ := hk0
  -- one row of the table: its class is looked up, and noted
  have row : ∀ (y : ExceptionTableEntry) (cy : ClassId) (S : State), covers y f.pc = true → y.catchType ≠ 0 → s0.vm.ClassLinks e.platform f.method.cls y.catchType cy → s0.WarmedH S.vm → S.heap[q]? = some cell →
      s0.WarmedH (S.vm.noted f.method.cls y.catchType (.cls cy)) ∧ ∀ (t : List ExceptionTableEntry) (Q : Handler → Pre) (E : CtlPost) (d : Bool) (acts : List Action),
        (wp (findHandler.go f q (y :: t)) Q E e d acts S ↔ if s0.vm.assignable cell.cls cy = true then Q (.found y.handlerPc) d acts (S.setVm (S.vm.noted f.method.cls y.catchType (.cls cy))) else wp (findHandler.go f q t) Q E e d acts (S.setVm (S.vm.noted f.method.cls y.catchType (.cls cy)))) := by
    intro y cy S hy hy0 hl hW hcell
    obtain ⟨dk, _, _, kt, hd, _, _, _, _, hkt, _, hopen⟩ := hl.here
    refine ⟨hW.noted hd hopen (State.rightAt_cls hl), fun t Q E d acts => ?_⟩
    have hlS := hW.classLinks hl
    simp only [covers] at hy
    obtain ⟨ha, ht⟩ := (resolveClass_links e.toSetting hlS).op (op := VmOp.resolveClass f.method.cls y.catchType) rfl
    have hal : S.vm.Alike (S.vm.noted f.method.cls y.catchType (.cls cy)) := (Vm.Alike.refl S.vm).noted _ _ _
    obtain ⟨k1, hk1, -⟩ := (hW.alike.trans hal).2.2 _ _ hk0
    obtain ⟨k2, hk2, -⟩ := (hW.alike.trans hal).2.2 _ _ hkt
    have has : (S.vm.noted f.method.cls y.catchType (.cls cy)).assignable cell.cls cy = s0.vm.assignable cell.cls cy := by rw [(hW.alike.trans hal).assignable]
    by_cases hc : s0.vm.assignable cell.cls cy = true
    · rw [if_pos hc]
      rw [hc] at has
      simp [findHandler.go, hy, hy0, ha, ht, hcell, hobj, hk1, hk2, has, VmOp.dirties, VmOp.acts]
    · rw [if_neg hc]
      have hc' : s0.vm.assignable cell.cls cy = false := by simpa using hc
      rw [hc'] at has
      simp [findHandler.go, hy, hy0, ha, ht, hcell, hobj, hk1, hk2, has, VmOp.dirties, VmOp.acts]
  intro pre
  induction pre with
  | nil =>
    intro S hW hcell _
    obtain ⟨h1, h2⟩ := row z cz S hz h0 hlz hW hcell
    refine ⟨_, h1, fun Q E d acts => ?_⟩
    rw [List.nil_append, h2, if_pos hfit]
  | cons y ys ih =>
    intro S hW hcell hp
    obtain ⟨g1, g2, cy, g3, g4⟩ := hp y List.mem_cons_self
    obtain ⟨h1, h2⟩ := row y cy S g1 g2 g3 hW hcell
    obtain ⟨vm', h3, h4⟩ := ih (S.setVm (S.vm.noted f.method.cls y.catchType (.cls cy))) h1 hcell (fun u hu => hp u (List.mem_cons_of_mem _ hu))
    refine ⟨vm', h3, fun Q E d acts => ?_⟩
    rw [List.cons_append, h2, if_neg (by rw [g4]; decide)]
    exact h4 Q E d acts
theorem z_caught {p : Program} {l : Launch} {e : Env} {R : Room} {s : State} {m : MethodId} {args : Array Value} {below : List Frame} {meth : Method} {c : Code} {T : State} {locs : List Loc} {cells slots : Nat}
    (X : Stand p l e R s m args below meth c T locs cells slots) (q : Addr) {g : JFrame} (hg : g.method = m) {cell : Cell} (hcell : T.heap[q]? = some cell) (hv : cell.vm = .none) (hk0 : ∃ k, s.vm.classes[cell.cls]? = some k)
    (pre : List ExceptionTableEntry) (z : ExceptionTableEntry) (suf : List ExceptionTableEntry) (hsplit : c.exceptionTable.toList = pre ++ z :: suf) (hz : covers z g.pc = true) (h0 : z.catchType ≠ 0)
    {cz : ClassId} (hlz : s.vm.ClassLinks e.platform m.cls z.catchType cz) (hfit : s.vm.assignable cell.cls cz = true)
    (hp : ∀ y ∈ pre, covers y g.pc = true ∧ y.catchType ≠ 0 ∧ ∃ cy, s.vm.ClassLinks e.platform m.cls y.catchType cy ∧ s.vm.assignable cell.cls cy = false) :
    ∃ vm', s.WarmedH vm' ∧ ∀ target, Steps p.tables e below ((T.setVm vm').setTop { g with pc := z.handlerPc, stack := [.ref q] }) target → Steps p.tables e below ((T.setTop g).pushFrame (.throwing q)) target := by
  subst hg
  obtain ⟨vm', hW', hfind⟩ := z_seek (e := e) (s0 := s) (f := g) (q := q) hv hk0 z suf hz h0 hlz hfit pre ((T.setTop g).pushFrame (.throwing q)) X.warmed hcell hp
  have hm : ((T.setTop g).pushFrame (.throwing q)).vm.method? g.method = some meth := X.method'
  have hF : ∀ (Q : Handler → Pre) (E : CtlPost) (d : Bool) (acts : List Action), wp (findHandler g q) Q E e d acts ((T.setTop g).pushFrame (.throwing q)) ↔ Q (.found z.handlerPc) d acts (((T.setTop g).pushFrame (.throwing q)).setVm vm') := fun Q E d acts => by
    rw [W.findHandler_eq hm X.code, hsplit]
    exact hfind Q E d acts
  refine ⟨vm', hW', fun target hrest => ?_⟩
  obtain ⟨hgo, hwi⟩ := X.here.throwing q
  refine Steps.head hgo hwi ?_
  have hstep : (stepThrowing e ((T.setTop g).pushFrame (.throwing q)) q (.java g :: T.frames.tail)).Is ((((T.setTop g).pushFrame (.throwing q)).setVm vm').setFrames (.java { g with pc := z.handlerPc, stack := [.ref q] } :: T.frames.tail)) [] := by
    simp only [stepThrowing, searchFrame, vmDo]
    generalize hr : Sem.go _ e false [] ((T.setTop g).pushFrame (.throwing q)) = res
    obtain ⟨as, rfl, ha⟩ := Sem.eq_ok_of hr (a := Handler.found z.handlerPc) (s' := ((T.setTop g).pushFrame (.throwing q)).setVm vm') (acts' := []) (by simp [hF _ _ _ _])
    exact ⟨rfl, ha⟩
  rw [stepThread_throwing (frames_entered X.here.top _), hstep.1]
  obtain ⟨g₀, hg0⟩ := Option.isSome_iff_exists.mp X.here.top
  obtain ⟨r, hr⟩ := State.topJava?_eq_some.mp hg0
  have hr' : (T.setVm vm').frames = .java g₀ :: r := hr
  rw [State.setTop_of_frames _ hr'] at hrest
  have e1 : ∀ (u : State) (F G : List Frame), ((u.setFrames F).setVm vm').setFrames G = (u.setVm vm').setFrames G := fun u F G => by
    have h1 : (u.setFrames F).setVm vm' = (u.setVm vm').setFrames F := rfl
    rw [h1, State.setFrames_setFrames]
  rw [hr, List.tail_cons, State.pushFrame, e1, State.setTop_of_frames _ hr, e1]
  exact hrest
end ZX
end
section
/-! Straight pieces of code as predicates: a piece's predicate holds => z_Ex holds at its start. K: what is owed behind an instruction (by pc, locals, stack, heap). -/
abbrev z_KK : Type := Nat → List (Nat × Value) → List Value → z_M → Prop
abbrev z_T : Type := (z_O → z_M → Prop) → z_KK → List (Nat × Value) → List Value → z_M → Prop
/-- the transformer t is right for the instruction at pc of Y -/
def z_S (w : z_W) (Y : z_Y) (pc : Nat) (t : z_T) : Prop := ∀ (d : Nat) (Q : z_O → z_M → Prop) (K : z_KK), (∀ pc' lv st M, K pc' lv st M → z_Ex w Y d Q pc' lv st M) → ∀ lv st M, t Q K lv st M → z_Ex w Y d Q pc lv st M
section ZI
variable {w : z_W} {Y : z_Y} {pc : Nat}
def zi_iconst (v : Int32) (nx : Nat) : z_T := fun Q K lv st M => K nx lv (.int v :: st) M
theorem zs_iconst {v : Int32} {n : Int} (dg : decode Y.2.1 pc = .ok (.iconst n, 1)) (hv : Int32.ofInt n = v) : z_S w Y pc (zi_iconst v (pc + 1)) := by
  rintro d Q K hK lv st M h
  exact z_iconst dg hv (hK _ _ _ _ h)
def zi_bipush (v : Int32) (nx : Nat) : z_T := fun Q K lv st M => K nx lv (.int v :: st) M
theorem zs_bipush {v : Int32} {n : Int} (dg : decode Y.2.1 pc = .ok (.bipush n, 2)) (hv : (Int8.ofInt n).toInt32 = v) : z_S w Y pc (zi_bipush v (pc + 2)) := by
  rintro d Q K hK lv st M h
  exact z_bipush dg hv (hK _ _ _ _ h)
def zi_sipush (v : Int32) (nx : Nat) : z_T := fun Q K lv st M => K nx lv (.int v :: st) M
theorem zs_sipush {v : Int32} {n : Int} (dg : decode Y.2.1 pc = .ok (.sipush n, 3)) (hv : (Int16.ofInt n).toInt32 = v) : z_S w Y pc (zi_sipush v (pc + 3)) := by
  rintro d Q K hK lv st M h
  exact z_sipush dg hv (hK _ _ _ _ h)
def zi_lconst (v : Int64) (nx : Nat) : z_T := fun Q K lv st M => K nx lv (.long v :: st) M
theorem zs_lconst {v : Int64} {n : Fin 2} (dg : decode Y.2.1 pc = .ok (.lconst n, 1)) (hv : Int64.ofNat (n : Nat) = v) : z_S w Y pc (zi_lconst v (pc + 1)) := by
  rintro d Q K hK lv st M h
  exact z_lconst dg hv (hK _ _ _ _ h)
def zi_null  (nx : Nat) : z_T := fun Q K lv st M => K nx lv (.null :: st) M
theorem zs_null  (dg : decode Y.2.1 pc = .ok (.aconst_null, 1)) : z_S w Y pc (zi_null  (pc + 1)) := by
  rintro d Q K hK lv st M h
  exact z_null dg (hK _ _ _ _ h)
def zi_iload (i : Nat) (nx : Nat) : z_T := fun Q K lv st M => ∃ x : Int32, z_lk lv i = some (.int x) ∧ K nx lv (.int x :: st) M
theorem zs_iload {i : Nat} (dg : decode Y.2.1 pc = .ok (.iload i, 2)) : z_S w Y pc (zi_iload i (pc + 2)) := by
  rintro d Q K hK lv st M ⟨x, h1, h⟩
  exact z_iload dg h1 (hK _ _ _ _ h)
theorem zs_iload_n {i : Nat} {k9 : Fin 4} (dg : decode Y.2.1 pc = .ok (.iload_n k9, 1)) (hi : (k9 : Nat) = i) : z_S w Y pc (zi_iload i (pc + 1)) := by
  rintro d Q K hK lv st M ⟨x, h1, h⟩
  exact z_iload_n dg hi h1 (hK _ _ _ _ h)
def zi_istore (i : Nat) (nx : Nat) : z_T := fun Q K lv st M => ∃ (x : Int32) (r : List Value), st = .int x :: r ∧ K nx (z_s1 lv i (.int x)) r M
theorem zs_istore {i : Nat} (dg : decode Y.2.1 pc = .ok (.istore i, 2)) (hn : i < Y.2.2.1) : z_S w Y pc (zi_istore i (pc + 2)) := by
  rintro d Q K hK lv st M ⟨x, r, rfl, h⟩
  exact z_istore dg hn rfl (hK _ _ _ _ h)
theorem zs_istore_n {i : Nat} {k9 : Fin 4} (dg : decode Y.2.1 pc = .ok (.istore_n k9, 1)) (hi : (k9 : Nat) = i) (hn : i < Y.2.2.1) : z_S w Y pc (zi_istore i (pc + 1)) := by
  rintro d Q K hK lv st M ⟨x, r, rfl, h⟩
  exact z_istore_n dg hi hn rfl (hK _ _ _ _ h)
def zi_lload (i : Nat) (nx : Nat) : z_T := fun Q K lv st M => ∃ x : Int64, z_lk lv i = some (.long x) ∧ K nx lv (.long x :: st) M
theorem zs_lload {i : Nat} (dg : decode Y.2.1 pc = .ok (.lload i, 2)) : z_S w Y pc (zi_lload i (pc + 2)) := by
  rintro d Q K hK lv st M ⟨x, h1, h⟩
  exact z_lload dg h1 (hK _ _ _ _ h)
theorem zs_lload_n {i : Nat} {k9 : Fin 4} (dg : decode Y.2.1 pc = .ok (.lload_n k9, 1)) (hi : (k9 : Nat) = i) : z_S w Y pc (zi_lload i (pc + 1)) := by
  rintro d Q K hK lv st M ⟨x, h1, h⟩
  exact z_lload_n dg hi h1 (hK _ _ _ _ h)
def zi_lstore (i : Nat) (nx : Nat) : z_T := fun Q K lv st M => ∃ (x : Int64) (r : List Value), st = .long x :: r ∧ K nx (z_s2 lv i (.long x)) r M
theorem zs_lstore {i : Nat} (dg : decode Y.2.1 pc = .ok (.lstore i, 2)) (hn : i + 1 < Y.2.2.1) : z_S w Y pc (zi_lstore i (pc + 2)) := by
  rintro d Q K hK lv st M ⟨x, r, rfl, h⟩
  exact z_lstore dg hn rfl (hK _ _ _ _ h)
theorem zs_lstore_n {i : Nat} {k9 : Fin 4} (dg : decode Y.2.1 pc = .ok (.lstore_n k9, 1)) (hi : (k9 : Nat) = i) (hn : i + 1 < Y.2.2.1) : z_S w Y pc (zi_lstore i (pc + 1)) := by
  rintro d Q K hK lv st M ⟨x, r, rfl, h⟩
  exact z_lstore_n dg hi hn rfl (hK _ _ _ _ h)
def zi_aload (i : Nat) (nx : Nat) : z_T := fun Q K lv st M => ∃ x : Nat, z_lk lv i = some (.ref x) ∧ K nx lv (.ref x :: st) M
theorem zs_aload {i : Nat} (dg : decode Y.2.1 pc = .ok (.aload i, 2)) : z_S w Y pc (zi_aload i (pc + 2)) := by
  rintro d Q K hK lv st M ⟨x, h1, h⟩
  exact z_aload dg h1 (hK _ _ _ _ h)
theorem zs_aload_n {i : Nat} {k9 : Fin 4} (dg : decode Y.2.1 pc = .ok (.aload_n k9, 1)) (hi : (k9 : Nat) = i) : z_S w Y pc (zi_aload i (pc + 1)) := by
  rintro d Q K hK lv st M ⟨x, h1, h⟩
  exact z_aload_n dg hi h1 (hK _ _ _ _ h)
def zi_astore (i : Nat) (nx : Nat) : z_T := fun Q K lv st M => ∃ (x : Nat) (r : List Value), st = .ref x :: r ∧ K nx (z_s1 lv i (.ref x)) r M
theorem zs_astore {i : Nat} (dg : decode Y.2.1 pc = .ok (.astore i, 2)) (hn : i < Y.2.2.1) : z_S w Y pc (zi_astore i (pc + 2)) := by
  rintro d Q K hK lv st M ⟨x, r, rfl, h⟩
  exact z_astore dg hn rfl (hK _ _ _ _ h)
theorem zs_astore_n {i : Nat} {k9 : Fin 4} (dg : decode Y.2.1 pc = .ok (.astore_n k9, 1)) (hi : (k9 : Nat) = i) (hn : i < Y.2.2.1) : z_S w Y pc (zi_astore i (pc + 1)) := by
  rintro d Q K hK lv st M ⟨x, r, rfl, h⟩
  exact z_astore_n dg hi hn rfl (hK _ _ _ _ h)
def zi_iadd  (nx : Nat) : z_T := fun Q K lv st M => ∃ (x y : Int32) (r : List Value), st = .int y :: .int x :: r ∧ K nx lv (.int (x + y) :: r) M
theorem zs_iadd  (dg : decode Y.2.1 pc = .ok (.iadd, 1)) : z_S w Y pc (zi_iadd  (pc + 1)) := by
  rintro d Q K hK lv st M ⟨x, y, r, rfl, h⟩
  exact z_iadd dg (hK _ _ _ _ h)
def zi_isub  (nx : Nat) : z_T := fun Q K lv st M => ∃ (x y : Int32) (r : List Value), st = .int y :: .int x :: r ∧ K nx lv (.int (x - y) :: r) M
theorem zs_isub  (dg : decode Y.2.1 pc = .ok (.isub, 1)) : z_S w Y pc (zi_isub  (pc + 1)) := by
  rintro d Q K hK lv st M ⟨x, y, r, rfl, h⟩
  exact z_isub dg (hK _ _ _ _ h)
def zi_imul  (nx : Nat) : z_T := fun Q K lv st M => ∃ (x y : Int32) (r : List Value), st = .int y :: .int x :: r ∧ K nx lv (.int (x * y) :: r) M
theorem zs_imul  (dg : decode Y.2.1 pc = .ok (.imul, 1)) : z_S w Y pc (zi_imul  (pc + 1)) := by
  rintro d Q K hK lv st M ⟨x, y, r, rfl, h⟩
  exact z_imul dg (hK _ _ _ _ h)
def zi_iand  (nx : Nat) : z_T := fun Q K lv st M => ∃ (x y : Int32) (r : List Value), st = .int y :: .int x :: r ∧ K nx lv (.int (x &&& y) :: r) M
theorem zs_iand  (dg : decode Y.2.1 pc = .ok (.iand, 1)) : z_S w Y pc (zi_iand  (pc + 1)) := by
  rintro d Q K hK lv st M ⟨x, y, r, rfl, h⟩
  exact z_iand dg (hK _ _ _ _ h)
def zi_ior  (nx : Nat) : z_T := fun Q K lv st M => ∃ (x y : Int32) (r : List Value), st = .int y :: .int x :: r ∧ K nx lv (.int (x ||| y) :: r) M
theorem zs_ior  (dg : decode Y.2.1 pc = .ok (.ior, 1)) : z_S w Y pc (zi_ior  (pc + 1)) := by
  rintro d Q K hK lv st M ⟨x, y, r, rfl, h⟩
  exact z_ior dg (hK _ _ _ _ h)
def zi_ixor  (nx : Nat) : z_T := fun Q K lv st M => ∃ (x y : Int32) (r : List Value), st = .int y :: .int x :: r ∧ K nx lv (.int (x ^^^ y) :: r) M
theorem zs_ixor  (dg : decode Y.2.1 pc = .ok (.ixor, 1)) : z_S w Y pc (zi_ixor  (pc + 1)) := by
  rintro d Q K hK lv st M ⟨x, y, r, rfl, h⟩
  exact z_ixor dg (hK _ _ _ _ h)
def zi_ishl  (nx : Nat) : z_T := fun Q K lv st M => ∃ (x y : Int32) (r : List Value), st = .int y :: .int x :: r ∧ K nx lv (.int (x <<< (y &&& 31)) :: r) M
theorem zs_ishl  (dg : decode Y.2.1 pc = .ok (.ishl, 1)) : z_S w Y pc (zi_ishl  (pc + 1)) := by
  rintro d Q K hK lv st M ⟨x, y, r, rfl, h⟩
  exact z_ishl dg (hK _ _ _ _ h)
def zi_ishr  (nx : Nat) : z_T := fun Q K lv st M => ∃ (x y : Int32) (r : List Value), st = .int y :: .int x :: r ∧ K nx lv (.int (x >>> (y &&& 31)) :: r) M
theorem zs_ishr  (dg : decode Y.2.1 pc = .ok (.ishr, 1)) : z_S w Y pc (zi_ishr  (pc + 1)) := by
  rintro d Q K hK lv st M ⟨x, y, r, rfl, h⟩
  exact z_ishr dg (hK _ _ _ _ h)
def zi_idiv  (nx : Nat) : z_T := fun Q K lv st M => ∃ (x y : Int32) (r : List Value), st = .int y :: .int x :: r ∧ ¬ y = 0 ∧ K nx lv (.int (x / y) :: r) M
theorem zs_idiv  (dg : decode Y.2.1 pc = .ok (.idiv, 1)) : z_S w Y pc (zi_idiv  (pc + 1)) := by
  rintro d Q K hK lv st M ⟨x, y, r, rfl, h9, h⟩
  exact z_idiv dg h9 (hK _ _ _ _ h)
def zi_irem  (nx : Nat) : z_T := fun Q K lv st M => ∃ (x y : Int32) (r : List Value), st = .int y :: .int x :: r ∧ ¬ y = 0 ∧ K nx lv (.int (x - x / y * y) :: r) M
theorem zs_irem  (dg : decode Y.2.1 pc = .ok (.irem, 1)) : z_S w Y pc (zi_irem  (pc + 1)) := by
  rintro d Q K hK lv st M ⟨x, y, r, rfl, h9, h⟩
  exact z_irem dg h9 (hK _ _ _ _ h)
def zi_ladd  (nx : Nat) : z_T := fun Q K lv st M => ∃ (x y : Int64) (r : List Value), st = .long y :: .long x :: r ∧ K nx lv (.long (x + y) :: r) M
theorem zs_ladd  (dg : decode Y.2.1 pc = .ok (.ladd, 1)) : z_S w Y pc (zi_ladd  (pc + 1)) := by
  rintro d Q K hK lv st M ⟨x, y, r, rfl, h⟩
  exact z_ladd dg (hK _ _ _ _ h)
def zi_lsub  (nx : Nat) : z_T := fun Q K lv st M => ∃ (x y : Int64) (r : List Value), st = .long y :: .long x :: r ∧ K nx lv (.long (x - y) :: r) M
theorem zs_lsub  (dg : decode Y.2.1 pc = .ok (.lsub, 1)) : z_S w Y pc (zi_lsub  (pc + 1)) := by
  rintro d Q K hK lv st M ⟨x, y, r, rfl, h⟩
  exact z_lsub dg (hK _ _ _ _ h)
def zi_land  (nx : Nat) : z_T := fun Q K lv st M => ∃ (x y : Int64) (r : List Value), st = .long y :: .long x :: r ∧ K nx lv (.long (x &&& y) :: r) M
theorem zs_land  (dg : decode Y.2.1 pc = .ok (.land, 1)) : z_S w Y pc (zi_land  (pc + 1)) := by
  rintro d Q K hK lv st M ⟨x, y, r, rfl, h⟩
  exact z_land dg (hK _ _ _ _ h)
def zi_lor  (nx : Nat) : z_T := fun Q K lv st M => ∃ (x y : Int64) (r : List Value), st = .long y :: .long x :: r ∧ K nx lv (.long (x ||| y) :: r) M
theorem zs_lor  (dg : decode Y.2.1 pc = .ok (.lor, 1)) : z_S w Y pc (zi_lor  (pc + 1)) := by
  rintro d Q K hK lv st M ⟨x, y, r, rfl, h⟩
  exact z_lor dg (hK _ _ _ _ h)
def zi_lxor  (nx : Nat) : z_T := fun Q K lv st M => ∃ (x y : Int64) (r : List Value), st = .long y :: .long x :: r ∧ K nx lv (.long (x ^^^ y) :: r) M
theorem zs_lxor  (dg : decode Y.2.1 pc = .ok (.lxor, 1)) : z_S w Y pc (zi_lxor  (pc + 1)) := by
  rintro d Q K hK lv st M ⟨x, y, r, rfl, h⟩
  exact z_lxor dg (hK _ _ _ _ h)
def zi_i2l  (nx : Nat) : z_T := fun Q K lv st M => ∃ (x : Int32) (r : List Value), st = .int x :: r ∧ K nx lv (.long (x.toInt64) :: r) M
theorem zs_i2l  (dg : decode Y.2.1 pc = .ok (.i2l, 1)) : z_S w Y pc (zi_i2l  (pc + 1)) := by
  rintro d Q K hK lv st M ⟨x, r, rfl, h⟩
  exact z_i2l dg (hK _ _ _ _ h)
def zi_l2i  (nx : Nat) : z_T := fun Q K lv st M => ∃ (x : Int64) (r : List Value), st = .long x :: r ∧ K nx lv (.int (x.toInt32) :: r) M
theorem zs_l2i  (dg : decode Y.2.1 pc = .ok (.l2i, 1)) : z_S w Y pc (zi_l2i  (pc + 1)) := by
  rintro d Q K hK lv st M ⟨x, r, rfl, h⟩
  exact z_l2i dg (hK _ _ _ _ h)
def zi_i2b  (nx : Nat) : z_T := fun Q K lv st M => ∃ (x : Int32) (r : List Value), st = .int x :: r ∧ K nx lv (.int (x.toInt8.toInt32) :: r) M
theorem zs_i2b  (dg : decode Y.2.1 pc = .ok (.i2b, 1)) : z_S w Y pc (zi_i2b  (pc + 1)) := by
  rintro d Q K hK lv st M ⟨x, r, rfl, h⟩
  exact z_i2b dg (hK _ _ _ _ h)
def zi_i2s  (nx : Nat) : z_T := fun Q K lv st M => ∃ (x : Int32) (r : List Value), st = .int x :: r ∧ K nx lv (.int (x.toInt16.toInt32) :: r) M
theorem zs_i2s  (dg : decode Y.2.1 pc = .ok (.i2s, 1)) : z_S w Y pc (zi_i2s  (pc + 1)) := by
  rintro d Q K hK lv st M ⟨x, r, rfl, h⟩
  exact z_i2s dg (hK _ _ _ _ h)
def zi_lshl  (nx : Nat) : z_T := fun Q K lv st M => ∃ (x : Int64) (y : Int32) (r : List Value), st = .int y :: .long x :: r ∧ K nx lv (.long (x <<< (y.toInt64 &&& 63)) :: r) M
theorem zs_lshl  (dg : decode Y.2.1 pc = .ok (.lshl, 1)) : z_S w Y pc (zi_lshl  (pc + 1)) := by
  rintro d Q K hK lv st M ⟨x, y, r, rfl, h⟩
  exact z_lshl dg (hK _ _ _ _ h)
def zi_lshr  (nx : Nat) : z_T := fun Q K lv st M => ∃ (x : Int64) (y : Int32) (r : List Value), st = .int y :: .long x :: r ∧ K nx lv (.long (x >>> (y.toInt64 &&& 63)) :: r) M
theorem zs_lshr  (dg : decode Y.2.1 pc = .ok (.lshr, 1)) : z_S w Y pc (zi_lshr  (pc + 1)) := by
  rintro d Q K hK lv st M ⟨x, y, r, rfl, h⟩
  exact z_lshr dg (hK _ _ _ _ h)
def zi_lcmp  (nx : Nat) : z_T := fun Q K lv st M => ∃ (x y : Int64) (r : List Value), st = .long y :: .long x :: r ∧ K nx lv (.int (lg_cmp x y) :: r) M
theorem zs_lcmp  (dg : decode Y.2.1 pc = .ok (.lcmp, 1)) : z_S w Y pc (zi_lcmp  (pc + 1)) := by
  rintro d Q K hK lv st M ⟨x, y, r, rfl, h⟩
  exact z_lcmp dg (hK _ _ _ _ h)
def zi_dup  (nx : Nat) : z_T := fun Q K lv st M => ∃ (u : Value) (r : List Value), st = u :: r ∧ u.category = 1 ∧ K nx lv (u :: u :: r) M
theorem zs_dup  (dg : decode Y.2.1 pc = .ok (.dup, 1)) : z_S w Y pc (zi_dup  (pc + 1)) := by
  rintro d Q K hK lv st M ⟨u, r, rfl, h1, h⟩
  exact z_dup dg h1 (hK _ _ _ _ h)
def zi_pop  (nx : Nat) : z_T := fun Q K lv st M => ∃ (u : Value) (r : List Value), st = u :: r ∧ u.category = 1 ∧ K nx lv r M
theorem zs_pop  (dg : decode Y.2.1 pc = .ok (.pop, 1)) : z_S w Y pc (zi_pop  (pc + 1)) := by
  rintro d Q K hK lv st M ⟨u, r, rfl, h1, h⟩
  exact z_pop dg h1 (hK _ _ _ _ h)
def zi_dup_x1  (nx : Nat) : z_T := fun Q K lv st M => ∃ (u v : Value) (r : List Value), st = u :: v :: r ∧ u.category = 1 ∧ v.category = 1 ∧ K nx lv (u :: v :: u :: r) M
theorem zs_dup_x1  (dg : decode Y.2.1 pc = .ok (.dup_x1, 1)) : z_S w Y pc (zi_dup_x1  (pc + 1)) := by
  rintro d Q K hK lv st M ⟨u, v, r, rfl, h1, h2, h⟩
  exact z_dup_x1 dg h1 h2 (hK _ _ _ _ h)
def zi_dup_x2  (nx : Nat) : z_T := fun Q K lv st M => ∃ (u v t : Value) (r : List Value), st = u :: v :: t :: r ∧ u.category = 1 ∧ v.category = 1 ∧ t.category = 1 ∧ K nx lv (u :: v :: t :: u :: r) M
theorem zs_dup_x2  (dg : decode Y.2.1 pc = .ok (.dup_x2, 1)) : z_S w Y pc (zi_dup_x2  (pc + 1)) := by
  rintro d Q K hK lv st M ⟨u, v, t, r, rfl, h1, h2, h3, h⟩
  exact z_dup_x2 dg h1 h2 h3 (hK _ _ _ _ h)
def zi_dup2  (nx : Nat) : z_T := fun Q K lv st M => ∃ (u v : Value) (r : List Value), st = u :: v :: r ∧ u.category = 1 ∧ v.category = 1 ∧ K nx lv (u :: v :: u :: v :: r) M
theorem zs_dup2  (dg : decode Y.2.1 pc = .ok (.dup2, 1)) : z_S w Y pc (zi_dup2  (pc + 1)) := by
  rintro d Q K hK lv st M ⟨u, v, r, rfl, h1, h2, h⟩
  exact z_dup2 dg h1 h2 (hK _ _ _ _ h)
def zi_ldc2 (v : Int64) (nx : Nat) : z_T := fun Q K lv st M => K nx lv (.long v :: st) M
theorem zs_ldc2 {v : Int64} {idx : Nat} (dg : decode Y.2.1 pc = .ok (.ldc2_w idx, 3)) (hc : z_has w (.constantLong Y.1.cls idx v)) : z_S w Y pc (zi_ldc2 v (pc + 3)) := by
  rintro d Q K hK lv st M h
  exact z_ldc2 dg hc (hK _ _ _ _ h)
def zi_iinc (i : Nat) (c : Int32) (nx : Nat) : z_T := fun Q K lv st M => ∃ x : Int32, z_lk lv i = some (.int x) ∧ K nx (z_s1 lv i (.int (x + c))) st M
theorem zs_iinc {i : Nat} {c : Int32} {n : Int} (dg : decode Y.2.1 pc = .ok (.iinc i n, 3)) (hn : i < Y.2.2.1) (hc : Int32.ofInt n = c) : z_S w Y pc (zi_iinc i c (pc + 3)) := by
  rintro d Q K hK lv st M ⟨x, h1, h⟩
  exact z_iinc dg h1 hn rfl (hK _ _ _ _ (by rw [hc]; exact h))
def zi_if_eq (tg nx : Nat) : z_T := fun Q K lv st M => ∃ (x : Int32) (r : List Value), st = .int x :: r ∧ (x = 0 → K tg lv r M) ∧ (¬ x = 0 → K nx lv r M)
theorem zs_if_eq {tg : Nat} {off : Int} (dg : decode Y.2.1 pc = .ok (.ifCond .eq off, 3)) (ht : (pc : Int) + off = (tg : Int)) : z_S w Y pc (zi_if_eq tg (pc + 3)) := by
  rintro d Q K hK lv st M ⟨x, r, rfl, h1, h2⟩
  exact z_if_eq dg ht (fun h => hK _ _ _ _ (h1 h)) (fun h => hK _ _ _ _ (h2 h))
def zi_icmp_eq (tg nx : Nat) : z_T := fun Q K lv st M => ∃ (x y : Int32) (r : List Value), st = .int y :: .int x :: r ∧ (x = y → K tg lv r M) ∧ (¬ x = y → K nx lv r M)
theorem zs_icmp_eq {tg : Nat} {off : Int} (dg : decode Y.2.1 pc = .ok (.if_icmp .eq off, 3)) (ht : (pc : Int) + off = (tg : Int)) : z_S w Y pc (zi_icmp_eq tg (pc + 3)) := by
  rintro d Q K hK lv st M ⟨x, y, r, rfl, h1, h2⟩
  exact z_icmp_eq dg ht (fun h => hK _ _ _ _ (h1 h)) (fun h => hK _ _ _ _ (h2 h))
def zi_if_ne (tg nx : Nat) : z_T := fun Q K lv st M => ∃ (x : Int32) (r : List Value), st = .int x :: r ∧ (¬ x = 0 → K tg lv r M) ∧ (x = 0 → K nx lv r M)
theorem zs_if_ne {tg : Nat} {off : Int} (dg : decode Y.2.1 pc = .ok (.ifCond .ne off, 3)) (ht : (pc : Int) + off = (tg : Int)) : z_S w Y pc (zi_if_ne tg (pc + 3)) := by
  rintro d Q K hK lv st M ⟨x, r, rfl, h1, h2⟩
  exact z_if_ne dg ht (fun h => hK _ _ _ _ (h1 h)) (fun h => hK _ _ _ _ (h2 h))
def zi_icmp_ne (tg nx : Nat) : z_T := fun Q K lv st M => ∃ (x y : Int32) (r : List Value), st = .int y :: .int x :: r ∧ (¬ x = y → K tg lv r M) ∧ (x = y → K nx lv r M)
theorem zs_icmp_ne {tg : Nat} {off : Int} (dg : decode Y.2.1 pc = .ok (.if_icmp .ne off, 3)) (ht : (pc : Int) + off = (tg : Int)) : z_S w Y pc (zi_icmp_ne tg (pc + 3)) := by
  rintro d Q K hK lv st M ⟨x, y, r, rfl, h1, h2⟩
  exact z_icmp_ne dg ht (fun h => hK _ _ _ _ (h1 h)) (fun h => hK _ _ _ _ (h2 h))
def zi_if_lt (tg nx : Nat) : z_T := fun Q K lv st M => ∃ (x : Int32) (r : List Value), st = .int x :: r ∧ (x < 0 → K tg lv r M) ∧ (¬ x < 0 → K nx lv r M)
theorem zs_if_lt {tg : Nat} {off : Int} (dg : decode Y.2.1 pc = .ok (.ifCond .lt off, 3)) (ht : (pc : Int) + off = (tg : Int)) : z_S w Y pc (zi_if_lt tg (pc + 3)) := by
  rintro d Q K hK lv st M ⟨x, r, rfl, h1, h2⟩
  exact z_if_lt dg ht (fun h => hK _ _ _ _ (h1 h)) (fun h => hK _ _ _ _ (h2 h))
def zi_icmp_lt (tg nx : Nat) : z_T := fun Q K lv st M => ∃ (x y : Int32) (r : List Value), st = .int y :: .int x :: r ∧ (x < y → K tg lv r M) ∧ (¬ x < y → K nx lv r M)
theorem zs_icmp_lt {tg : Nat} {off : Int} (dg : decode Y.2.1 pc = .ok (.if_icmp .lt off, 3)) (ht : (pc : Int) + off = (tg : Int)) : z_S w Y pc (zi_icmp_lt tg (pc + 3)) := by
  rintro d Q K hK lv st M ⟨x, y, r, rfl, h1, h2⟩
  exact z_icmp_lt dg ht (fun h => hK _ _ _ _ (h1 h)) (fun h => hK _ _ _ _ (h2 h))
def zi_if_ge (tg nx : Nat) : z_T := fun Q K lv st M => ∃ (x : Int32) (r : List Value), st = .int x :: r ∧ (0 ≤ x → K tg lv r M) ∧ (¬ 0 ≤ x → K nx lv r M)
theorem zs_if_ge {tg : Nat} {off : Int} (dg : decode Y.2.1 pc = .ok (.ifCond .ge off, 3)) (ht : (pc : Int) + off = (tg : Int)) : z_S w Y pc (zi_if_ge tg (pc + 3)) := by
  rintro d Q K hK lv st M ⟨x, r, rfl, h1, h2⟩
  exact z_if_ge dg ht (fun h => hK _ _ _ _ (h1 h)) (fun h => hK _ _ _ _ (h2 h))
def zi_icmp_ge (tg nx : Nat) : z_T := fun Q K lv st M => ∃ (x y : Int32) (r : List Value), st = .int y :: .int x :: r ∧ (y ≤ x → K tg lv r M) ∧ (¬ y ≤ x → K nx lv r M)
theorem zs_icmp_ge {tg : Nat} {off : Int} (dg : decode Y.2.1 pc = .ok (.if_icmp .ge off, 3)) (ht : (pc : Int) + off = (tg : Int)) : z_S w Y pc (zi_icmp_ge tg (pc + 3)) := by
  rintro d Q K hK lv st M ⟨x, y, r, rfl, h1, h2⟩
  exact z_icmp_ge dg ht (fun h => hK _ _ _ _ (h1 h)) (fun h => hK _ _ _ _ (h2 h))
def zi_if_gt (tg nx : Nat) : z_T := fun Q K lv st M => ∃ (x : Int32) (r : List Value), st = .int x :: r ∧ (0 < x → K tg lv r M) ∧ (¬ 0 < x → K nx lv r M)
theorem zs_if_gt {tg : Nat} {off : Int} (dg : decode Y.2.1 pc = .ok (.ifCond .gt off, 3)) (ht : (pc : Int) + off = (tg : Int)) : z_S w Y pc (zi_if_gt tg (pc + 3)) := by
  rintro d Q K hK lv st M ⟨x, r, rfl, h1, h2⟩
  exact z_if_gt dg ht (fun h => hK _ _ _ _ (h1 h)) (fun h => hK _ _ _ _ (h2 h))
def zi_icmp_gt (tg nx : Nat) : z_T := fun Q K lv st M => ∃ (x y : Int32) (r : List Value), st = .int y :: .int x :: r ∧ (y < x → K tg lv r M) ∧ (¬ y < x → K nx lv r M)
theorem zs_icmp_gt {tg : Nat} {off : Int} (dg : decode Y.2.1 pc = .ok (.if_icmp .gt off, 3)) (ht : (pc : Int) + off = (tg : Int)) : z_S w Y pc (zi_icmp_gt tg (pc + 3)) := by
  rintro d Q K hK lv st M ⟨x, y, r, rfl, h1, h2⟩
  exact z_icmp_gt dg ht (fun h => hK _ _ _ _ (h1 h)) (fun h => hK _ _ _ _ (h2 h))
def zi_if_le (tg nx : Nat) : z_T := fun Q K lv st M => ∃ (x : Int32) (r : List Value), st = .int x :: r ∧ (x ≤ 0 → K tg lv r M) ∧ (¬ x ≤ 0 → K nx lv r M)
theorem zs_if_le {tg : Nat} {off : Int} (dg : decode Y.2.1 pc = .ok (.ifCond .le off, 3)) (ht : (pc : Int) + off = (tg : Int)) : z_S w Y pc (zi_if_le tg (pc + 3)) := by
  rintro d Q K hK lv st M ⟨x, r, rfl, h1, h2⟩
  exact z_if_le dg ht (fun h => hK _ _ _ _ (h1 h)) (fun h => hK _ _ _ _ (h2 h))
def zi_icmp_le (tg nx : Nat) : z_T := fun Q K lv st M => ∃ (x y : Int32) (r : List Value), st = .int y :: .int x :: r ∧ (x ≤ y → K tg lv r M) ∧ (¬ x ≤ y → K nx lv r M)
theorem zs_icmp_le {tg : Nat} {off : Int} (dg : decode Y.2.1 pc = .ok (.if_icmp .le off, 3)) (ht : (pc : Int) + off = (tg : Int)) : z_S w Y pc (zi_icmp_le tg (pc + 3)) := by
  rintro d Q K hK lv st M ⟨x, y, r, rfl, h1, h2⟩
  exact z_icmp_le dg ht (fun h => hK _ _ _ _ (h1 h)) (fun h => hK _ _ _ _ (h2 h))
def zi_goto (tg : Nat) : z_T := fun Q K lv st M => K tg lv st M
theorem zs_goto {tg : Nat} {off : Int} (dg : decode Y.2.1 pc = .ok (.goto off, 3)) (ht : (pc : Int) + off = (tg : Int)) : z_S w Y pc (zi_goto tg) := by
  rintro d Q K hK lv st M h
  exact z_goto dg ht (hK _ _ _ _ h)
def zi_ifnull (tg nx : Nat) : z_T := fun Q K lv st M => (∃ r, st = .null :: r ∧ K tg lv r M) ∨ ∃ i r, st = .ref i :: r ∧ K nx lv r M
theorem zs_ifnull {tg : Nat} {off : Int} (dg : decode Y.2.1 pc = .ok (.ifnull off, 3)) (ht : (pc : Int) + off = (tg : Int)) : z_S w Y pc (zi_ifnull tg (pc + 3)) := by
  rintro d Q K hK lv st M (⟨r, rfl, h⟩ | ⟨i, r, rfl, h⟩)
  · exact z_ifnullN dg ht (hK _ _ _ _ h)
  · exact z_ifnull dg (hK _ _ _ _ h)
def zi_ifnonnull (tg nx : Nat) : z_T := fun Q K lv st M => (∃ r, st = .null :: r ∧ K nx lv r M) ∨ ∃ i r, st = .ref i :: r ∧ K tg lv r M
theorem zs_ifnonnull {tg : Nat} {off : Int} (dg : decode Y.2.1 pc = .ok (.ifnonnull off, 3)) (ht : (pc : Int) + off = (tg : Int)) : z_S w Y pc (zi_ifnonnull tg (pc + 3)) := by
  rintro d Q K hK lv st M (⟨r, rfl, h⟩ | ⟨i, r, rfl, h⟩)
  · exact z_ifnonnullN dg (hK _ _ _ _ h)
  · exact z_ifnonnull dg ht (hK _ _ _ _ h)
def zi_get (ci k nx : Nat) : z_T := fun Q K lv st M => ∃ (i : Nat) (r fs : List Value) (v : Value), st = .ref i :: r ∧ 2 ≤ i ∧ M.2.1 i = .inr (ci, fs) ∧ fs[k]? = some v ∧ K nx lv (v :: r) M
theorem zs_get {idx ci k : Nat} (hw : z_Wok w) (dg : decode Y.2.1 pc = .ok (.getfield idx, 3)) (hf : z_fld w Y.1.cls idx ci k) : z_S w Y pc (zi_get ci k (pc + 3)) := by
  rintro d Q K hK lv st ⟨n0, h, nc, ns⟩ ⟨i, r, fs, v, rfl, h2, h3, h4, h5⟩
  exact z_get hw dg hf h2 h3 h4 (hK _ _ _ _ h5)
def zi_put (ci k : Nat) (ty : FieldType) (nx : Nat) : z_T := fun Q K lv st M => ∃ (i : Nat) (v : Value) (r fs : List Value), st = v :: .ref i :: r ∧ 2 ≤ i ∧ M.2.1 i = .inr (ci, fs) ∧ k < fs.length ∧ (∀ al : Nat → Nat, narrow ty (z_v al v) = z_v al v ∧ fits ty (z_v al v) = true) ∧ K nx lv r (M.1, va_up M.2.1 i (.inr (ci, fs.set k v)), M.2.2)
theorem zs_put {idx ci k : Nat} {ty : FieldType} {fin : Bool} (hw : z_Wok w) (dg : decode Y.2.1 pc = .ok (.putfield idx, 3)) (hf : z_fldP w Y.1.cls idx ci k ty fin) (hfin : fin = true → Y.1.name = "<init>") : z_S w Y pc (zi_put ci k ty (pc + 3)) := by
  rintro d Q K hK lv st ⟨n0, h, nc, ns⟩ ⟨i, v, r, fs, rfl, h2, h3, h4, h5, h6⟩
  exact z_put hw dg hf hfin h2 h3 h4 h5 (hK _ _ _ _ h6)
def zi_iald (nx : Nat) : z_T := fun Q K lv st M => ∃ (i n : Nat) (j : Int32) (f : Nat → Int32) (r : List Value), st = .int j :: .ref i :: r ∧ M.2.1 i = .inl (0, n, .inl f) ∧ vp_in j n ∧ K nx lv (.int (f j.toNatClampNeg) :: r) M
theorem zs_iald (hw : z_Wok w) (dg : decode Y.2.1 pc = .ok (.iaload, 1)) : z_S w Y pc (zi_iald (pc + 1)) := by
  rintro d Q K hK lv st ⟨n0, h, nc, ns⟩ ⟨i, n, j, f, r, rfl, h3, h4, h5⟩
  by_cases h2 : i < 2
  · exact z_sld dg h2 h3 h4 (hK _ _ _ _ h5)
  · exact z_iald hw dg (by omega) h3 h4 (hK _ _ _ _ h5)
def zi_lald (nx : Nat) : z_T := fun Q K lv st M => ∃ (i n : Nat) (j : Int32) (f : Nat → Int64) (r : List Value), st = .int j :: .ref i :: r ∧ 2 ≤ i ∧ M.2.1 i = .inl (1, n, .inr (.inl f)) ∧ vp_in j n ∧ K nx lv (.long (f j.toNatClampNeg) :: r) M
theorem zs_lald (hw : z_Wok w) (dg : decode Y.2.1 pc = .ok (.laload, 1)) : z_S w Y pc (zi_lald (pc + 1)) := by
  rintro d Q K hK lv st ⟨n0, h, nc, ns⟩ ⟨i, n, j, f, r, rfl, h2, h3, h4, h5⟩
  exact z_lald hw dg h2 h3 h4 (hK _ _ _ _ h5)
def zi_zald (nx : Nat) : z_T := fun Q K lv st M => ∃ (i n : Nat) (j : Int32) (f : Nat → Int32) (r : List Value), st = .int j :: .ref i :: r ∧ 2 ≤ i ∧ M.2.1 i = .inl (2, n, .inl f) ∧ vp_in j n ∧ K nx lv (.int (f j.toNatClampNeg) :: r) M
theorem zs_zald (hw : z_Wok w) (dg : decode Y.2.1 pc = .ok (.baload, 1)) : z_S w Y pc (zi_zald (pc + 1)) := by
  rintro d Q K hK lv st ⟨n0, h, nc, ns⟩ ⟨i, n, j, f, r, rfl, h2, h3, h4, h5⟩
  exact z_zald hw dg h2 h3 h4 (hK _ _ _ _ h5)
def zi_iast (nx : Nat) : z_T := fun Q K lv st M => ∃ (i n : Nat) (j x : Int32) (f : Nat → Int32) (r : List Value), st = .int x :: .int j :: .ref i :: r ∧ 2 ≤ i ∧ M.2.1 i = .inl (0, n, .inl f) ∧ vp_in j n ∧ K nx lv r (M.1, va_up M.2.1 i (.inl (0, n, .inl (upd f j.toNatClampNeg x))), M.2.2)
theorem zs_iast (hw : z_Wok w) (dg : decode Y.2.1 pc = .ok (.iastore, 1)) : z_S w Y pc (zi_iast (pc + 1)) := by
  rintro d Q K hK lv st ⟨n0, h, nc, ns⟩ ⟨i, n, j, x, f, r, rfl, h2, h3, h4, h5⟩
  exact z_iast hw dg h2 h3 h4 (hK _ _ _ _ h5)
def zi_last (nx : Nat) : z_T := fun Q K lv st M => ∃ (i n : Nat) (j : Int32) (x : Int64) (f : Nat → Int64) (r : List Value), st = .long x :: .int j :: .ref i :: r ∧ 2 ≤ i ∧ M.2.1 i = .inl (1, n, .inr (.inl f)) ∧ vp_in j n ∧ K nx lv r (M.1, va_up M.2.1 i (.inl (1, n, .inr (.inl (vp_updL f j.toNatClampNeg x)))), M.2.2)
theorem zs_last (hw : z_Wok w) (dg : decode Y.2.1 pc = .ok (.lastore, 1)) : z_S w Y pc (zi_last (pc + 1)) := by
  rintro d Q K hK lv st ⟨n0, h, nc, ns⟩ ⟨i, n, j, x, f, r, rfl, h2, h3, h4, h5⟩
  exact z_last hw dg h2 h3 h4 (hK _ _ _ _ h5)
def zi_zast (nx : Nat) : z_T := fun Q K lv st M => ∃ (i n : Nat) (j x : Int32) (f : Nat → Int32) (r : List Value), st = .int x :: .int j :: .ref i :: r ∧ 2 ≤ i ∧ M.2.1 i = .inl (2, n, .inl f) ∧ vp_in j n ∧ K nx lv r (M.1, va_up M.2.1 i (.inl (2, n, .inl (upd f j.toNatClampNeg (vp_nar .boolean x)))), M.2.2)
theorem zs_zast (hw : z_Wok w) (dg : decode Y.2.1 pc = .ok (.bastore, 1)) : z_S w Y pc (zi_zast (pc + 1)) := by
  rintro d Q K hK lv st ⟨n0, h, nc, ns⟩ ⟨i, n, j, x, f, r, rfl, h2, h3, h4, h5⟩
  exact z_zast hw dg h2 h3 h4 (hK _ _ _ _ h5)
def zi_alen (nx : Nat) : z_T := fun Q K lv st M => ∃ (i t : Nat) (x : vp_A) (r : List Value), st = .ref i :: r ∧ 2 ≤ i ∧ M.2.1 i = .inl (t, x) ∧ t < 3 ∧ K nx lv (.int (Int32.ofNat x.1) :: r) M
theorem zs_alen (hw : z_Wok w) (dg : decode Y.2.1 pc = .ok (.arraylength, 1)) : z_S w Y pc (zi_alen (pc + 1)) := by
  rintro d Q K hK lv st ⟨n0, h, nc, ns⟩ ⟨i, t, x, r, rfl, h2, h3, h4, h5⟩
  exact z_alen hw dg h2 h3 h4 (hK _ _ _ _ h5)
def zi_slen (nx : Nat) : z_T := fun Q K lv st M => ∃ (i n : Nat) (f : Nat → Int32) (r : List Value), st = .ref i :: r ∧ i < 2 ∧ M.2.1 i = .inl (0, n, .inl f) ∧ K nx lv (.int (Int32.ofNat n) :: r) M
theorem zs_slen (dg : decode Y.2.1 pc = .ok (.arraylength, 1)) : z_S w Y pc (zi_slen (pc + 1)) := by
  rintro d Q K hK lv st ⟨n0, h, nc, ns⟩ ⟨i, n, f, r, rfl, h2, h3, h5⟩
  exact z_slen dg h2 h3 (hK _ _ _ _ h5)
def zi_iret : z_T := fun Q K lv st M => ∃ v : Int32, st = [.int v] ∧ Q (.inl (some (.int v))) M
theorem zs_iret (dg : decode Y.2.1 pc = .ok (.ireturn, 1)) (hr : Y.2.2.2.1 = some .int) : z_S w Y pc zi_iret := by
  rintro d Q K hK lv st M ⟨v, rfl, h⟩
  exact z_iret dg hr h
def zi_zret : z_T := fun Q K lv st M => ∃ v : Int32, st = [.int v] ∧ narrow .boolean (.int v) = .int v ∧ Q (.inl (some (.int v))) M
theorem zs_zret (dg : decode Y.2.1 pc = .ok (.ireturn, 1)) (hr : Y.2.2.2.1 = some .boolean) : z_S w Y pc zi_zret := by
  rintro d Q K hK lv st M ⟨v, rfl, h1, h⟩
  exact z_zret dg hr h1 h
def zi_lret : z_T := fun Q K lv st M => ∃ v : Int64, st = [.long v] ∧ Q (.inl (some (.long v))) M
theorem zs_lret (dg : decode Y.2.1 pc = .ok (.lreturn, 1)) (hr : Y.2.2.2.1 = some .long) : z_S w Y pc zi_lret := by
  rintro d Q K hK lv st M ⟨v, rfl, h⟩
  exact z_lret dg hr h
def zi_vret : z_T := fun Q K lv st M => st = [] ∧ Q (.inl none) M
theorem zs_vret (dg : decode Y.2.1 pc = .ok (.return_, 1)) (hr : Y.2.2.2.1 = none) : z_S w Y pc zi_vret := by
  rintro d Q K hK lv st M ⟨rfl, h⟩
  exact z_vret dg hr h
def zi_aret : z_T := fun Q K lv st M => ∃ v : Value, st = [v] ∧ (v = .null ∨ ∃ a, v = .ref a) ∧ Q (.inl (some v)) M
theorem zs_aret {rt : FieldType} (dg : decode Y.2.1 pc = .ok (.areturn, 1)) (hr : Y.2.2.2.1 = some rt) (hrt : (∃ n, rt = .object n) ∨ ∃ t, rt = .array t) : z_S w Y pc zi_aret := by
  rintro d Q K hK lv st M ⟨v, rfl, h1, h⟩
  exact z_aret dg hr hrt h1 h
def zi_newa (t b : Nat) (mk : Nat → vp_A) (nx : Nat) : z_T := fun Q K lv st M => ∃ (n : Int32) (r : List Value), st = .int n :: r ∧ ¬ n < 0 ∧ n.toNatClampNeg * b ≤ 536870912 ∧ 1 ≤ M.2.2.1 ∧ n.toNatClampNeg ≤ M.2.2.2 ∧
  K nx lv (.ref M.1 :: r) (M.1 + 1, va_up M.2.1 M.1 (.inl (t, mk n.toNatClampNeg)), M.2.2.1 - 1, M.2.2.2 - n.toNatClampNeg)
theorem zs_newi (hw : z_Wok w) (dg : decode Y.2.1 pc = .ok (.newarray .int, 2)) (harr : z_has w (.arrayClass .int)) : z_S w Y pc (zi_newa 0 4 (fun n => (n, .inl fun _ => 0)) (pc + 2)) := by
  rintro d Q K hK lv st ⟨n0, h, nc, ns⟩ ⟨n, r, rfl, h2, h3, h4, h5, h6⟩
  exact z_newa (t := 0) (ty := .int) (a0 := (n.toNatClampNeg, .inl fun _ => 0)) hw dg rfl rfl (fun U cA h9 => h9) harr (fun cA => rfl) h2 rfl h3 h4 h5 (hK _ _ _ _ h6)
theorem zs_newl (hw : z_Wok w) (dg : decode Y.2.1 pc = .ok (.newarray .long, 2)) (harr : z_has w (.arrayClass .long)) : z_S w Y pc (zi_newa 1 8 (fun n => (n, .inr (.inl fun _ => 0))) (pc + 2)) := by
  rintro d Q K hK lv st ⟨n0, h, nc, ns⟩ ⟨n, r, rfl, h2, h3, h4, h5, h6⟩
  exact z_newa (t := 1) (ty := .long) (a0 := (n.toNatClampNeg, .inr (.inl fun _ => 0))) hw dg rfl rfl (fun U cA h9 => h9) harr (fun cA => rfl) h2 rfl h3 h4 h5 (hK _ _ _ _ h6)
theorem zs_newz (hw : z_Wok w) (dg : decode Y.2.1 pc = .ok (.newarray .boolean, 2)) (harr : z_has w (.arrayClass .boolean)) : z_S w Y pc (zi_newa 2 1 (fun n => (n, .inl fun _ => 0)) (pc + 2)) := by
  rintro d Q K hK lv st ⟨n0, h, nc, ns⟩ ⟨n, r, rfl, h2, h3, h4, h5, h6⟩
  exact z_newa (t := 2) (ty := .boolean) (a0 := (n.toNatClampNeg, .inl fun _ => 0)) hw dg rfl rfl (fun U cA h9 => h9) harr (fun cA => rfl) h2 rfl h3 h4 h5 (hK _ _ _ _ h6)
def zi_new (ci N : Nat) (fs : List Value) (nx : Nat) : z_T := fun Q K lv st M => 1 ≤ M.2.2.1 ∧ N ≤ M.2.2.2 ∧ K nx lv (.ref M.1 :: st) (M.1 + 1, va_up M.2.1 M.1 (.inr (ci, fs)), M.2.2.1 - 1, M.2.2.2 - N)
theorem zs_new {idx ci N : Nat} {fs : List Value} (hw : z_Wok w) (dg : decode Y.2.1 pc = .ok (.new idx, 3)) (hf : z_newF w Y.1.cls idx ci N fs) : z_S w Y pc (zi_new ci N fs (pc + 3)) := by
  rintro d Q K hK lv st ⟨n0, h, nc, ns⟩ ⟨h2, h3, h6⟩
  exact z_new hw dg hf h2 h3 (hK _ _ _ _ h6)
/-- the pieces of a method, by their places; where it has none: what is owed is z_Ex itself -/
def z_wp (w : z_W) (Y : z_Y) (tb : Nat → Option z_T) (d : Nat) (Q : z_O → z_M → Prop) : Nat → z_KK
  | 0 => fun pc lv st M => z_Ex w Y d Q pc lv st M
  | n + 1 => fun pc lv st M => match tb pc with
    | none => z_Ex w Y d Q pc lv st M
    | some t => t Q (z_wp w Y tb d Q n) lv st M
def z_TB (w : z_W) (Y : z_Y) (tb : Nat → Option z_T) : Prop := ∀ pc t, tb pc = some t → z_S w Y pc t
theorem z_run {tb : Nat → Option z_T} (htb : z_TB w Y tb) {d : Nat} {Q : z_O → z_M → Prop} : ∀ (n : Nat) (pc : Nat) (lv : List (Nat × Value)) (st : List Value) (M : z_M), z_wp w Y tb d Q n pc lv st M → z_Ex w Y d Q pc lv st M
  | 0, _, _, _, _, h => h
  | n + 1, pc, lv, st, M, h => by
    unfold z_wp at h
    split at h
    · exact h
    · next t ht => exact htb pc t ht d Q (z_wp w Y tb d Q n) (fun pc' lv' st' M' h' => z_run htb n pc' lv' st' M' h') lv st M h
/-- one behind the other; the instruction's ways that go elsewhere are owed -/
def zq (nx : Nat) (t u : z_T) : z_T := fun Q K lv st M => t Q (fun p lv st M => if p = nx then u Q K lv st M else K p lv st M) lv st M
def zb (nx tg : Nat) (t u v : z_T) : z_T := fun Q K lv st M => t Q (fun p lv st M => if p = nx then u Q K lv st M else if p = tg then v Q K lv st M else K p lv st M) lv st M
theorem zq_S {nx : Nat} {t u : z_T} (h1 : z_S w Y pc t) (h2 : z_S w Y nx u) : z_S w Y pc (zq nx t u) := by
  intro d Q K hK lv st M h
  refine h1 d Q _ (fun p lv st M h9 => ?_) lv st M h
  split at h9
  next e => subst e; exact h2 d Q K hK lv st M h9
  next e => exact hK p lv st M h9
theorem zb_S {nx tg : Nat} {t u v : z_T} (h1 : z_S w Y pc t) (h2 : z_S w Y nx u) (h3 : z_S w Y tg v) : z_S w Y pc (zb nx tg t u v) := by
  intro d Q K hK lv st M h
  refine h1 d Q _ (fun p lv st M h9 => ?_) lv st M h
  split at h9
  next e => subst e; exact h2 d Q K hK lv st M h9
  next e =>
    split at h9
    next e => subst e; exact h3 d Q K hK lv st M h9
    next e => exact hK p lv st M h9
/-- a piece is gone through -/
theorem z_by {t : z_T} (h : z_S w Y pc t) {d : Nat} {Q : z_O → z_M → Prop} {lv : List (Nat × Value)} {st : List Value} {M : z_M} (k : t Q (z_Ex w Y d Q) lv st M) : z_Ex w Y d Q pc lv st M := h d Q _ (fun _ _ _ _ h => h) lv st M k
/-- the world: our classes; the words; no stack traces -/
def z_Wd (w : z_W) : Prop := z_Wok w ∧ (∀ c ∈ lw_tbl, z_gw c = true → z_has w c) ∧ w.1.stackTraces = false
theorem z_mem {c : Cond} (i : Nat) (h : tables_1[i]? = some c) : c ∈ lw_tbl := List.mem_append_right _ (List.mem_of_getElem? h)
theorem z_memP {c : Cond} (i : Nat) (h : (k2_sels lw_privs)[i]? = some c) : c ∈ lw_tbl := List.mem_append_left _ (List.mem_of_getElem? h)
end ZI
end
section
def z_nr (v : Value) : Bool := match v with
  | .ref _ => false
  | _ => true
theorem z_okd {l : List Value} (h : l.all z_nr = true) : ∀ v ∈ l, ∀ n, z_ok n v := by
  intro v hv n
  have h9 := List.all_eq_true.mp h v hv
  cases v <;> first | trivial | cases h9
section ZL
variable {w : z_W}
theorem zw_36 (hw : z_Wd w) : z_has w (Jvm.Cond.fieldLink "ThingStream$Shapes" (9 : Nat) "ThingStream$Shapes" "there" "[Z") := hw.2.1 _ (z_mem 36 (by decide +kernel)) rfl
theorem zw_37 (hw : z_Wd w) : z_has w (Jvm.Cond.fieldLink "ThingStream$Shapes" (15 : Nat) "ThingStream$Shapes" "numbers" "[I") := hw.2.1 _ (z_mem 37 (by decide +kernel)) rfl
theorem zw_38 (hw : z_Wd w) : z_has w (Jvm.Cond.fieldLinkNest "ThingStream$Reader" (127 : Nat) "ThingStream$Shapes" "numbers" "[I" "ThingStream") := hw.2.1 _ (z_mem 38 (by decide +kernel)) rfl
theorem zw_39 (hw : z_Wd w) : z_has w (Jvm.Cond.fieldLink "ThingStream$Shapes" (19 : Nat) "ThingStream$Shapes" "parents" "[I") := hw.2.1 _ (z_mem 39 (by decide +kernel)) rfl
theorem zw_40 (hw : z_Wd w) : z_has w (Jvm.Cond.fieldLinkNest "ThingStream$Reader" (191 : Nat) "ThingStream$Shapes" "parents" "[I" "ThingStream") := hw.2.1 _ (z_mem 40 (by decide +kernel)) rfl
theorem zw_41 (hw : z_Wd w) : z_has w (Jvm.Cond.fieldLink "ThingStream$Shapes" (22 : Nat) "ThingStream$Shapes" "marks" "[I") := hw.2.1 _ (z_mem 41 (by decide +kernel)) rfl
theorem zw_42 (hw : z_Wd w) : z_has w (Jvm.Cond.fieldLinkNest "ThingStream$Writer" (133 : Nat) "ThingStream$Shapes" "marks" "[I" "ThingStream") := hw.2.1 _ (z_mem 42 (by decide +kernel)) rfl
theorem zw_43 (hw : z_Wd w) : z_has w (Jvm.Cond.fieldLinkNest "ThingStream$Reader" (204 : Nat) "ThingStream$Shapes" "marks" "[I" "ThingStream") := hw.2.1 _ (z_mem 43 (by decide +kernel)) rfl
theorem zw_44 (hw : z_Wd w) : z_has w (Jvm.Cond.fieldLink "ThingStream$Shapes" (25 : Nat) "ThingStream$Shapes" "fieldCounts" "[I") := hw.2.1 _ (z_mem 44 (by decide +kernel)) rfl
theorem zw_45 (hw : z_Wd w) : z_has w (Jvm.Cond.fieldLinkNest "ThingStream$Writer" (110 : Nat) "ThingStream$Shapes" "fieldCounts" "[I" "ThingStream") := hw.2.1 _ (z_mem 45 (by decide +kernel)) rfl
theorem zw_46 (hw : z_Wd w) : z_has w (Jvm.Cond.fieldLinkNest "ThingStream$Reader" (155 : Nat) "ThingStream$Shapes" "fieldCounts" "[I" "ThingStream") := hw.2.1 _ (z_mem 46 (by decide +kernel)) rfl
theorem zw_47 (hw : z_Wd w) : z_has w (Jvm.Cond.fieldLinkNest "ThingStream$Things" (49 : Nat) "ThingStream$Shapes" "fieldCounts" "[I" "ThingStream") := hw.2.1 _ (z_mem 47 (by decide +kernel)) rfl
theorem zw_48 (hw : z_Wd w) : z_has w (Jvm.Cond.fieldLink "ThingStream$Shapes" (28 : Nat) "ThingStream$Shapes" "names" "[I") := hw.2.1 _ (z_mem 48 (by decide +kernel)) rfl
theorem zw_49 (hw : z_Wd w) : z_has w (Jvm.Cond.fieldLink "ThingStream$Shapes" (31 : Nat) "ThingStream$Shapes" "kinds" "[I") := hw.2.1 _ (z_mem 49 (by decide +kernel)) rfl
theorem zw_65 (hw : z_Wd w) : z_has w (Jvm.Cond.arrayClass Jvm.ClassFile.FieldType.boolean) := hw.2.1 _ (z_mem 65 (by decide +kernel)) rfl
theorem zw_66 (hw : z_Wd w) : z_has w (Jvm.Cond.arrayClass Jvm.ClassFile.FieldType.int) := hw.2.1 _ (z_mem 66 (by decide +kernel)) rfl
theorem zw_73 (hw : z_Wd w) : z_has w (Jvm.Cond.fieldLink "ThingStream$Things" (9 : Nat) "ThingStream$Things" "shapes" "[I") := hw.2.1 _ (z_mem 73 (by decide +kernel)) rfl
theorem zw_74 (hw : z_Wd w) : z_has w (Jvm.Cond.fieldLinkNest "ThingStream$Side" (31 : Nat) "ThingStream$Things" "shapes" "[I" "ThingStream") := hw.2.1 _ (z_mem 74 (by decide +kernel)) rfl
theorem zw_75 (hw : z_Wd w) : z_has w (Jvm.Cond.fieldLinkNest "ThingStream$Writer" (88 : Nat) "ThingStream$Things" "shapes" "[I" "ThingStream") := hw.2.1 _ (z_mem 75 (by decide +kernel)) rfl
theorem zw_76 (hw : z_Wd w) : z_has w (Jvm.Cond.fieldLinkNest "ThingStream" (163 : Nat) "ThingStream$Things" "shapes" "[I" "ThingStream") := hw.2.1 _ (z_mem 76 (by decide +kernel)) rfl
theorem zw_77 (hw : z_Wd w) : z_has w (Jvm.Cond.fieldLink "ThingStream$Things" (15 : Nat) "ThingStream$Things" "lengths" "[I") := hw.2.1 _ (z_mem 77 (by decide +kernel)) rfl
theorem zw_78 (hw : z_Wd w) : z_has w (Jvm.Cond.fieldLinkNest "ThingStream$Writer" (70 : Nat) "ThingStream$Things" "lengths" "[I" "ThingStream") := hw.2.1 _ (z_mem 78 (by decide +kernel)) rfl
theorem zw_79 (hw : z_Wd w) : z_has w (Jvm.Cond.fieldLinkNest "ThingStream" (165 : Nat) "ThingStream$Things" "lengths" "[I" "ThingStream") := hw.2.1 _ (z_mem 79 (by decide +kernel)) rfl
theorem zw_80 (hw : z_Wd w) : z_has w (Jvm.Cond.fieldLink "ThingStream$Things" (18 : Nat) "ThingStream$Things" "values" "[J") := hw.2.1 _ (z_mem 80 (by decide +kernel)) rfl
theorem zw_81 (hw : z_Wd w) : z_has w (Jvm.Cond.fieldLinkNest "ThingStream$Writer" (81 : Nat) "ThingStream$Things" "values" "[J" "ThingStream") := hw.2.1 _ (z_mem 81 (by decide +kernel)) rfl
theorem zw_82 (hw : z_Wd w) : z_has w (Jvm.Cond.fieldLinkNest "ThingStream" (102 : Nat) "ThingStream$Things" "values" "[J" "ThingStream") := hw.2.1 _ (z_mem 82 (by decide +kernel)) rfl
theorem zw_83 (hw : z_Wd w) : z_has w (Jvm.Cond.fieldLinkNest "ThingStream$Reader" (114 : Nat) "ThingStream$Things" "values" "[J" "ThingStream") := hw.2.1 _ (z_mem 83 (by decide +kernel)) rfl
theorem zw_84 (hw : z_Wd w) : z_has w (Jvm.Cond.fieldLink "ThingStream$Things" (22 : Nat) "ThingStream$Things" "count" "I") := hw.2.1 _ (z_mem 84 (by decide +kernel)) rfl
theorem zw_85 (hw : z_Wd w) : z_has w (Jvm.Cond.fieldLinkNest "ThingStream$Reader" (103 : Nat) "ThingStream$Things" "count" "I" "ThingStream") := hw.2.1 _ (z_mem 85 (by decide +kernel)) rfl
theorem zw_86 (hw : z_Wd w) : z_has w (Jvm.Cond.fieldLinkNest "ThingStream" (156 : Nat) "ThingStream$Things" "count" "I" "ThingStream") := hw.2.1 _ (z_mem 86 (by decide +kernel)) rfl
theorem zw_96 (hw : z_Wd w) : z_has w (Jvm.Cond.arrayClass Jvm.ClassFile.FieldType.long) := hw.2.1 _ (z_mem 96 (by decide +kernel)) rfl
theorem zw_97 (hw : z_Wd w) : z_has w (Jvm.Cond.fieldLink "ThingStream$Side" (14 : Nat) "ThingStream$Side" "shapes" "LThingStream$Shapes;") := hw.2.1 _ (z_mem 97 (by decide +kernel)) rfl
theorem zw_98 (hw : z_Wd w) : z_has w (Jvm.Cond.fieldLinkNest "ThingStream" (48 : Nat) "ThingStream$Side" "shapes" "LThingStream$Shapes;" "ThingStream") := hw.2.1 _ (z_mem 98 (by decide +kernel)) rfl
theorem zw_99 (hw : z_Wd w) : z_has w (Jvm.Cond.fieldLinkNest "ThingStream$Writer" (94 : Nat) "ThingStream$Side" "shapes" "LThingStream$Shapes;" "ThingStream") := hw.2.1 _ (z_mem 99 (by decide +kernel)) rfl
theorem zw_100 (hw : z_Wd w) : z_has w (Jvm.Cond.fieldLinkNest "ThingStream$Reader" (130 : Nat) "ThingStream$Side" "shapes" "LThingStream$Shapes;" "ThingStream") := hw.2.1 _ (z_mem 100 (by decide +kernel)) rfl
theorem zw_101 (hw : z_Wd w) : z_has w (Jvm.Cond.fieldLink "ThingStream$Side" (23 : Nat) "ThingStream$Side" "held" "LThingStream$Things;") := hw.2.1 _ (z_mem 101 (by decide +kernel)) rfl
theorem zw_102 (hw : z_Wd w) : z_has w (Jvm.Cond.fieldLinkNest "ThingStream" (58 : Nat) "ThingStream$Side" "held" "LThingStream$Things;" "ThingStream") := hw.2.1 _ (z_mem 102 (by decide +kernel)) rfl
theorem zw_103 (hw : z_Wd w) : z_has w (Jvm.Cond.fieldLinkNest "ThingStream$Writer" (45 : Nat) "ThingStream$Side" "held" "LThingStream$Things;" "ThingStream") := hw.2.1 _ (z_mem 103 (by decide +kernel)) rfl
theorem zw_104 (hw : z_Wd w) : z_has w (Jvm.Cond.fieldLinkNest "ThingStream$Reader" (84 : Nat) "ThingStream$Side" "held" "LThingStream$Things;" "ThingStream") := hw.2.1 _ (z_mem 104 (by decide +kernel)) rfl
theorem zw_116 (hw : z_Wd w) : z_has w (Jvm.Cond.fieldLink "ThingStream$Bytes" (9 : Nat) "ThingStream$Bytes" "bytes" "[I") := hw.2.1 _ (z_mem 116 (by decide +kernel)) rfl
theorem zw_117 (hw : z_Wd w) : z_has w (Jvm.Cond.fieldLinkNest "ThingStream" (138 : Nat) "ThingStream$Bytes" "bytes" "[I" "ThingStream") := hw.2.1 _ (z_mem 117 (by decide +kernel)) rfl
theorem zw_118 (hw : z_Wd w) : z_has w (Jvm.Cond.fieldLinkNest "ThingStream$Reader" (207 : Nat) "ThingStream$Bytes" "bytes" "[I" "ThingStream") := hw.2.1 _ (z_mem 118 (by decide +kernel)) rfl
theorem zw_119 (hw : z_Wd w) : z_has w (Jvm.Cond.fieldLink "ThingStream$Bytes" (15 : Nat) "ThingStream$Bytes" "count" "I") := hw.2.1 _ (z_mem 119 (by decide +kernel)) rfl
theorem zw_120 (hw : z_Wd w) : z_has w (Jvm.Cond.fieldLinkNest "ThingStream$Reader" (69 : Nat) "ThingStream$Bytes" "count" "I" "ThingStream") := hw.2.1 _ (z_mem 120 (by decide +kernel)) rfl
theorem zw_121 (hw : z_Wd w) : z_has w (Jvm.Cond.fieldLinkNest "ThingStream" (133 : Nat) "ThingStream$Bytes" "count" "I" "ThingStream") := hw.2.1 _ (z_mem 121 (by decide +kernel)) rfl
theorem zw_122 (hw : z_Wd w) : z_has w (Jvm.Cond.fieldLink "ThingStream$Bytes" (19 : Nat) "ThingStream$Bytes" "overflowed" "Z") := hw.2.1 _ (z_mem 122 (by decide +kernel)) rfl
theorem zw_123 (hw : z_Wd w) : z_has w (Jvm.Cond.fieldLinkNest "ThingStream" (128 : Nat) "ThingStream$Bytes" "overflowed" "Z" "ThingStream") := hw.2.1 _ (z_mem 123 (by decide +kernel)) rfl
theorem zw_137 (hw : z_Wd w) : z_has w (Jvm.Cond.fieldLink "ThingStream$Writer" (9 : Nat) "ThingStream$Writer" "stream" "LThingStream$Bytes;") := hw.2.1 _ (z_mem 137 (by decide +kernel)) rfl
theorem zw_138 (hw : z_Wd w) : z_has w (Jvm.Cond.fieldLink "ThingStream$Writer" (15 : Nat) "ThingStream$Writer" "side" "LThingStream$Side;") := hw.2.1 _ (z_mem 138 (by decide +kernel)) rfl
theorem zw_139 (hw : z_Wd w) : z_has w (Jvm.Cond.fieldLink "ThingStream$Writer" (19 : Nat) "ThingStream$Writer" "thingHandles" "[I") := hw.2.1 _ (z_mem 139 (by decide +kernel)) rfl
theorem zw_140 (hw : z_Wd w) : z_has w (Jvm.Cond.fieldLink "ThingStream$Writer" (23 : Nat) "ThingStream$Writer" "shapeHandles" "[I") := hw.2.1 _ (z_mem 140 (by decide +kernel)) rfl
theorem zw_141 (hw : z_Wd w) : z_has w (Jvm.Cond.fieldLink "ThingStream$Writer" (32 : Nat) "ThingStream$Writer" "handleCount" "I") := hw.2.1 _ (z_mem 141 (by decide +kernel)) rfl
theorem zw_172 (hw : z_Wd w) : z_has w (Jvm.Cond.fieldLink "ThingStream$Reader" (9 : Nat) "ThingStream$Reader" "stream" "LThingStream$Bytes;") := hw.2.1 _ (z_mem 172 (by decide +kernel)) rfl
theorem zw_173 (hw : z_Wd w) : z_has w (Jvm.Cond.fieldLink "ThingStream$Reader" (15 : Nat) "ThingStream$Reader" "side" "LThingStream$Side;") := hw.2.1 _ (z_mem 173 (by decide +kernel)) rfl
theorem zw_174 (hw : z_Wd w) : z_has w (Jvm.Cond.fieldLink "ThingStream$Reader" (28 : Nat) "ThingStream$Reader" "limits" "[I") := hw.2.1 _ (z_mem 174 (by decide +kernel)) rfl
theorem zw_175 (hw : z_Wd w) : z_has w (Jvm.Cond.fieldLink "ThingStream$Reader" (36 : Nat) "ThingStream$Reader" "told" "LThingStream$Shapes;") := hw.2.1 _ (z_mem 175 (by decide +kernel)) rfl
theorem zw_176 (hw : z_Wd w) : z_has w (Jvm.Cond.fieldLink "ThingStream$Reader" (40 : Nat) "ThingStream$Reader" "thingsByHandle" "[I") := hw.2.1 _ (z_mem 176 (by decide +kernel)) rfl
theorem zw_177 (hw : z_Wd w) : z_has w (Jvm.Cond.fieldLink "ThingStream$Reader" (43 : Nat) "ThingStream$Reader" "toldByHandle" "[I") := hw.2.1 _ (z_mem 177 (by decide +kernel)) rfl
theorem zw_178 (hw : z_Wd w) : z_has w (Jvm.Cond.fieldLink "ThingStream$Reader" (49 : Nat) "ThingStream$Reader" "fresh" "LThingStream$Things;") := hw.2.1 _ (z_mem 178 (by decide +kernel)) rfl
theorem zw_179 (hw : z_Wd w) : z_has w (Jvm.Cond.fieldLink "ThingStream$Reader" (60 : Nat) "ThingStream$Reader" "toldCount" "I") := hw.2.1 _ (z_mem 179 (by decide +kernel)) rfl
theorem zw_180 (hw : z_Wd w) : z_has w (Jvm.Cond.fieldLink "ThingStream$Reader" (63 : Nat) "ThingStream$Reader" "handleCount" "I") := hw.2.1 _ (z_mem 180 (by decide +kernel)) rfl
theorem zw_181 (hw : z_Wd w) : z_has w (Jvm.Cond.fieldLink "ThingStream$Reader" (57 : Nat) "ThingStream$Reader" "place" "I") := hw.2.1 _ (z_mem 181 (by decide +kernel)) rfl
theorem zw_182 (hw : z_Wd w) : z_has w (Jvm.Cond.fieldLink "ThingStream$Reader" (53 : Nat) "ThingStream$Reader" "fault" "I") := hw.2.1 _ (z_mem 182 (by decide +kernel)) rfl
theorem zw_183 (hw : z_Wd w) : z_has w (Jvm.Cond.fieldLinkNest "ThingStream" (157 : Nat) "ThingStream$Reader" "fault" "I" "ThingStream") := hw.2.1 _ (z_mem 183 (by decide +kernel)) rfl
theorem zw_207 (hw : z_Wd w) : z_has w (Jvm.Cond.fieldLink "ThingStream" (14 : Nat) "ThingStream" "writing" "LThingStream$Side;") := hw.2.1 _ (z_mem 207 (by decide +kernel)) rfl
theorem zw_208 (hw : z_Wd w) : z_has w (Jvm.Cond.fieldLink "ThingStream" (18 : Nat) "ThingStream" "reading" "LThingStream$Side;") := hw.2.1 _ (z_mem 208 (by decide +kernel)) rfl
theorem zw_209 (hw : z_Wd w) : z_has w (Jvm.Cond.fieldLink "ThingStream" (24 : Nat) "ThingStream" "stream" "LThingStream$Bytes;") := hw.2.1 _ (z_mem 209 (by decide +kernel)) rfl
theorem zw_210 (hw : z_Wd w) : z_has w (Jvm.Cond.fieldLink "ThingStream" (33 : Nat) "ThingStream" "writer" "LThingStream$Writer;") := hw.2.1 _ (z_mem 210 (by decide +kernel)) rfl
theorem zw_211 (hw : z_Wd w) : z_has w (Jvm.Cond.fieldLink "ThingStream" (40 : Nat) "ThingStream" "reader" "LThingStream$Reader;") := hw.2.1 _ (z_mem 211 (by decide +kernel)) rfl
theorem zw_311 (hw : z_Wd w) : z_has w (Jvm.Cond.constantLong "ThingStream$Things" (30 : Nat) (-1 : Int64)) := hw.2.1 _ (z_mem 311 (by decide +kernel)) rfl
theorem zw_691 (hw : z_Wd w) : z_has w (Jvm.Cond.fieldLink "ThingStreamModel" (106 : Nat) "ThingStreamModel" "thrown" "I") := hw.2.1 _ (z_mem 691 (by decide +kernel)) rfl
theorem zw_692 (hw : z_Wd w) : z_has w (Jvm.Cond.fieldLink "ThingStreamModel" (7 : Nat) "ThingStreamModel" "there" "[Z") := hw.2.1 _ (z_mem 692 (by decide +kernel)) rfl
theorem zw_693 (hw : z_Wd w) : z_has w (Jvm.Cond.fieldLink "ThingStreamModel" (13 : Nat) "ThingStreamModel" "parent" "[I") := hw.2.1 _ (z_mem 693 (by decide +kernel)) rfl
theorem zw_694 (hw : z_Wd w) : z_has w (Jvm.Cond.fieldLink "ThingStreamModel" (17 : Nat) "ThingStreamModel" "mark" "[I") := hw.2.1 _ (z_mem 694 (by decide +kernel)) rfl
theorem zw_695 (hw : z_Wd w) : z_has w (Jvm.Cond.fieldLink "ThingStreamModel" (20 : Nat) "ThingStreamModel" "fields" "[I") := hw.2.1 _ (z_mem 695 (by decide +kernel)) rfl
theorem zw_696 (hw : z_Wd w) : z_has w (Jvm.Cond.fieldLink "ThingStreamModel" (23 : Nat) "ThingStreamModel" "name" "[I") := hw.2.1 _ (z_mem 696 (by decide +kernel)) rfl
theorem zw_697 (hw : z_Wd w) : z_has w (Jvm.Cond.fieldLink "ThingStreamModel" (26 : Nat) "ThingStreamModel" "kind" "[I") := hw.2.1 _ (z_mem 697 (by decide +kernel)) rfl
theorem zw_698 (hw : z_Wd w) : z_has w (Jvm.Cond.fieldLink "ThingStreamModel" (29 : Nat) "ThingStreamModel" "count" "[I") := hw.2.1 _ (z_mem 698 (by decide +kernel)) rfl
theorem zw_699 (hw : z_Wd w) : z_has w (Jvm.Cond.fieldLink "ThingStreamModel" (32 : Nat) "ThingStreamModel" "shape" "[I") := hw.2.1 _ (z_mem 699 (by decide +kernel)) rfl
theorem zw_700 (hw : z_Wd w) : z_has w (Jvm.Cond.fieldLink "ThingStreamModel" (35 : Nat) "ThingStreamModel" "length" "[I") := hw.2.1 _ (z_mem 700 (by decide +kernel)) rfl
theorem zw_701 (hw : z_Wd w) : z_has w (Jvm.Cond.fieldLink "ThingStreamModel" (38 : Nat) "ThingStreamModel" "value" "[J") := hw.2.1 _ (z_mem 701 (by decide +kernel)) rfl
theorem zw_702 (hw : z_Wd w) : z_has w (Jvm.Cond.fieldLink "ThingStreamModel" (42 : Nat) "ThingStreamModel" "link" "[I") := hw.2.1 _ (z_mem 702 (by decide +kernel)) rfl
theorem zw_703 (hw : z_Wd w) : z_has w (Jvm.Cond.fieldLink "ThingStreamModel" (144 : Nat) "ThingStreamModel" "size" "I") := hw.2.1 _ (z_mem 703 (by decide +kernel)) rfl
theorem zw_704 (hw : z_Wd w) : z_has w (Jvm.Cond.fieldLink "ThingStreamModel" (45 : Nat) "ThingStreamModel" "stream" "[I") := hw.2.1 _ (z_mem 704 (by decide +kernel)) rfl
theorem zw_705 (hw : z_Wd w) : z_has w (Jvm.Cond.fieldLink "ThingStreamModel" (48 : Nat) "ThingStreamModel" "limits" "[I") := hw.2.1 _ (z_mem 705 (by decide +kernel)) rfl
theorem zw_706 (hw : z_Wd w) : z_has w (Jvm.Cond.fieldLink "ThingStreamModel" (51 : Nat) "ThingStreamModel" "where" "I") := hw.2.1 _ (z_mem 706 (by decide +kernel)) rfl
theorem zw_707 (hw : z_Wd w) : z_has w (Jvm.Cond.fieldLink "ThingStreamModel" (160 : Nat) "ThingStreamModel" "handles" "I") := hw.2.1 _ (z_mem 707 (by decide +kernel)) rfl
theorem zw_708 (hw : z_Wd w) : z_has w (Jvm.Cond.fieldLink "ThingStreamModel" (55 : Nat) "ThingStreamModel" "shapeHandle" "[I") := hw.2.1 _ (z_mem 708 (by decide +kernel)) rfl
theorem zw_709 (hw : z_Wd w) : z_has w (Jvm.Cond.fieldLink "ThingStreamModel" (58 : Nat) "ThingStreamModel" "thingHandle" "[I") := hw.2.1 _ (z_mem 709 (by decide +kernel)) rfl
theorem zw_710 (hw : z_Wd w) : z_has w (Jvm.Cond.fieldLink "ThingStreamModel" (61 : Nat) "ThingStreamModel" "handle" "[I") := hw.2.1 _ (z_mem 710 (by decide +kernel)) rfl
theorem zw_711 (hw : z_Wd w) : z_has w (Jvm.Cond.fieldLink "ThingStreamModel" (166 : Nat) "ThingStreamModel" "open" "I") := hw.2.1 _ (z_mem 711 (by decide +kernel)) rfl
theorem zw_712 (hw : z_Wd w) : z_has w (Jvm.Cond.fieldLink "ThingStreamModel" (64 : Nat) "ThingStreamModel" "opened" "[I") := hw.2.1 _ (z_mem 712 (by decide +kernel)) rfl
theorem zw_713 (hw : z_Wd w) : z_has w (Jvm.Cond.fieldLink "ThingStreamModel" (67 : Nat) "ThingStreamModel" "far" "[I") := hw.2.1 _ (z_mem 713 (by decide +kernel)) rfl
theorem zw_714 (hw : z_Wd w) : z_has w (Jvm.Cond.fieldLink "ThingStreamModel" (181 : Nat) "ThingStreamModel" "p" "I") := hw.2.1 _ (z_mem 714 (by decide +kernel)) rfl
theorem zw_715 (hw : z_Wd w) : z_has w (Jvm.Cond.fieldLink "ThingStreamModel" (178 : Nat) "ThingStreamModel" "fault" "I") := hw.2.1 _ (z_mem 715 (by decide +kernel)) rfl
theorem zw_716 (hw : z_Wd w) : z_has w (Jvm.Cond.fieldLink "ThingStreamModel" (205 : Nat) "ThingStreamModel" "descriptions" "I") := hw.2.1 _ (z_mem 716 (by decide +kernel)) rfl
theorem zw_717 (hw : z_Wd w) : z_has w (Jvm.Cond.fieldLink "ThingStreamModel" (70 : Nat) "ThingStreamModel" "dShape" "[I") := hw.2.1 _ (z_mem 717 (by decide +kernel)) rfl
theorem zw_718 (hw : z_Wd w) : z_has w (Jvm.Cond.fieldLink "ThingStreamModel" (73 : Nat) "ThingStreamModel" "dAt" "[I") := hw.2.1 _ (z_mem 718 (by decide +kernel)) rfl
theorem zw_719 (hw : z_Wd w) : z_has w (Jvm.Cond.fieldLink "ThingStreamModel" (76 : Nat) "ThingStreamModel" "dParent" "[I") := hw.2.1 _ (z_mem 719 (by decide +kernel)) rfl
theorem zw_720 (hw : z_Wd w) : z_has w (Jvm.Cond.fieldLink "ThingStreamModel" (79 : Nat) "ThingStreamModel" "dMark" "[I") := hw.2.1 _ (z_mem 720 (by decide +kernel)) rfl
theorem zw_721 (hw : z_Wd w) : z_has w (Jvm.Cond.fieldLink "ThingStreamModel" (82 : Nat) "ThingStreamModel" "dFields" "[I") := hw.2.1 _ (z_mem 721 (by decide +kernel)) rfl
theorem zw_722 (hw : z_Wd w) : z_has w (Jvm.Cond.fieldLink "ThingStreamModel" (85 : Nat) "ThingStreamModel" "dName" "[I") := hw.2.1 _ (z_mem 722 (by decide +kernel)) rfl
theorem zw_723 (hw : z_Wd w) : z_has w (Jvm.Cond.fieldLink "ThingStreamModel" (88 : Nat) "ThingStreamModel" "dKind" "[I") := hw.2.1 _ (z_mem 723 (by decide +kernel)) rfl
theorem zw_724 (hw : z_Wd w) : z_has w (Jvm.Cond.fieldLink "ThingStreamModel" (218 : Nat) "ThingStreamModel" "things" "I") := hw.2.1 _ (z_mem 724 (by decide +kernel)) rfl
theorem zw_725 (hw : z_Wd w) : z_has w (Jvm.Cond.fieldLink "ThingStreamModel" (91 : Nat) "ThingStreamModel" "tDescription" "[I") := hw.2.1 _ (z_mem 725 (by decide +kernel)) rfl
theorem zw_726 (hw : z_Wd w) : z_has w (Jvm.Cond.fieldLink "ThingStreamModel" (94 : Nat) "ThingStreamModel" "tLength" "[I") := hw.2.1 _ (z_mem 726 (by decide +kernel)) rfl
theorem zw_727 (hw : z_Wd w) : z_has w (Jvm.Cond.fieldLink "ThingStreamModel" (97 : Nat) "ThingStreamModel" "tValue" "[J") := hw.2.1 _ (z_mem 727 (by decide +kernel)) rfl
theorem zw_728 (hw : z_Wd w) : z_has w (Jvm.Cond.fieldLink "ThingStreamModel" (100 : Nat) "ThingStreamModel" "tHas" "[I") := hw.2.1 _ (z_mem 728 (by decide +kernel)) rfl
theorem zw_729 (hw : z_Wd w) : z_has w (Jvm.Cond.fieldLink "ThingStreamModel" (103 : Nat) "ThingStreamModel" "tLink" "[I") := hw.2.1 _ (z_mem 729 (by decide +kernel)) rfl
theorem zw_730 (hw : z_Wd w) : z_has w (Jvm.Cond.fieldLink "ThingStreamModel" (202 : Nat) "ThingStreamModel" "began" "I") := hw.2.1 _ (z_mem 730 (by decide +kernel)) rfl
theorem zw_842 (hw : z_Wd w) : z_has w (Jvm.Cond.constantLong "ThingStreamModel" (123 : Nat) (-1 : Int64)) := hw.2.1 _ (z_mem 842 (by decide +kernel)) rfl
theorem zw_902 (hw : z_Wd w) : z_has w (Jvm.Cond.constantLong "ThingStreamModel" (151 : Nat) (255 : Int64)) := hw.2.1 _ (z_mem 902 (by decide +kernel)) rfl
theorem zw_1023 (hw : z_Wd w) : z_has w (Jvm.Cond.constantLong "ThingStreamLaw" (41 : Nat) (4294967295 : Int64)) := hw.2.1 _ (z_mem 1023 (by decide +kernel)) rfl
theorem zu_0 (hw : z_Wd w) : ∀ c ∈ u_ws zR0 zT0 3, z_has w c := by
  intro c hc
  obtain ⟨k, hk, rfl⟩ := List.mem_map.mp hc
  have hk := List.mem_range.mp hk
  match k, hk with
  | 0, _ => exact hw.2.1 _ (z_mem 124 (by decide +kernel)) rfl
  | 1, _ => exact hw.2.1 _ (z_mem 126 (by decide +kernel)) rfl
  | 2, _ => exact hw.2.1 _ (z_mem 128 (by decide +kernel)) rfl
theorem zu_1 (hw : z_Wd w) : ∀ c ∈ u_ws zR1 zT1 11, z_has w c := by
  intro c hc
  obtain ⟨k, hk, rfl⟩ := List.mem_map.mp hc
  have hk := List.mem_range.mp hk
  match k, hk with
  | 0, _ => exact hw.2.1 _ (z_mem 184 (by decide +kernel)) rfl
  | 1, _ => exact hw.2.1 _ (z_mem 186 (by decide +kernel)) rfl
  | 2, _ => exact hw.2.1 _ (z_mem 188 (by decide +kernel)) rfl
  | 3, _ => exact hw.2.1 _ (z_mem 190 (by decide +kernel)) rfl
  | 4, _ => exact hw.2.1 _ (z_mem 192 (by decide +kernel)) rfl
  | 5, _ => exact hw.2.1 _ (z_mem 194 (by decide +kernel)) rfl
  | 6, _ => exact hw.2.1 _ (z_mem 196 (by decide +kernel)) rfl
  | 7, _ => exact hw.2.1 _ (z_mem 198 (by decide +kernel)) rfl
  | 8, _ => exact hw.2.1 _ (z_mem 200 (by decide +kernel)) rfl
  | 9, _ => exact hw.2.1 _ (z_mem 202 (by decide +kernel)) rfl
  | 10, _ => exact hw.2.1 _ (z_mem 204 (by decide +kernel)) rfl
theorem zu_2 (hw : z_Wd w) : ∀ c ∈ u_ws zR2 zT2 7, z_has w c := by
  intro c hc
  obtain ⟨k, hk, rfl⟩ := List.mem_map.mp hc
  have hk := List.mem_range.mp hk
  match k, hk with
  | 0, _ => exact hw.2.1 _ (z_mem 50 (by decide +kernel)) rfl
  | 1, _ => exact hw.2.1 _ (z_mem 52 (by decide +kernel)) rfl
  | 2, _ => exact hw.2.1 _ (z_mem 54 (by decide +kernel)) rfl
  | 3, _ => exact hw.2.1 _ (z_mem 56 (by decide +kernel)) rfl
  | 4, _ => exact hw.2.1 _ (z_mem 58 (by decide +kernel)) rfl
  | 5, _ => exact hw.2.1 _ (z_mem 60 (by decide +kernel)) rfl
  | 6, _ => exact hw.2.1 _ (z_mem 62 (by decide +kernel)) rfl
theorem zu_3 (hw : z_Wd w) : ∀ c ∈ u_ws zR3 zT3 2, z_has w c := by
  intro c hc
  obtain ⟨k, hk, rfl⟩ := List.mem_map.mp hc
  have hk := List.mem_range.mp hk
  match k, hk with
  | 0, _ => exact hw.2.1 _ (z_mem 105 (by decide +kernel)) rfl
  | 1, _ => exact hw.2.1 _ (z_mem 107 (by decide +kernel)) rfl
theorem zu_4 (hw : z_Wd w) : ∀ c ∈ u_ws zR4 zT4 4, z_has w c := by
  intro c hc
  obtain ⟨k, hk, rfl⟩ := List.mem_map.mp hc
  have hk := List.mem_range.mp hk
  match k, hk with
  | 0, _ => exact hw.2.1 _ (z_mem 87 (by decide +kernel)) rfl
  | 1, _ => exact hw.2.1 _ (z_mem 89 (by decide +kernel)) rfl
  | 2, _ => exact hw.2.1 _ (z_mem 91 (by decide +kernel)) rfl
  | 3, _ => exact hw.2.1 _ (z_mem 93 (by decide +kernel)) rfl
theorem zu_5 (hw : z_Wd w) : ∀ c ∈ u_ws zR5 zT5 5, z_has w c := by
  intro c hc
  obtain ⟨k, hk, rfl⟩ := List.mem_map.mp hc
  have hk := List.mem_range.mp hk
  match k, hk with
  | 0, _ => exact hw.2.1 _ (z_mem 142 (by decide +kernel)) rfl
  | 1, _ => exact hw.2.1 _ (z_mem 144 (by decide +kernel)) rfl
  | 2, _ => exact hw.2.1 _ (z_mem 146 (by decide +kernel)) rfl
  | 3, _ => exact hw.2.1 _ (z_mem 148 (by decide +kernel)) rfl
  | 4, _ => exact hw.2.1 _ (z_mem 150 (by decide +kernel)) rfl
theorem zu_6 (hw : z_Wd w) : ∀ c ∈ u_ws zR6 zT6 5, z_has w c := by
  intro c hc
  obtain ⟨k, hk, rfl⟩ := List.mem_map.mp hc
  have hk := List.mem_range.mp hk
  match k, hk with
  | 0, _ => exact hw.2.1 _ (z_mem 212 (by decide +kernel)) rfl
  | 1, _ => exact hw.2.1 _ (z_mem 214 (by decide +kernel)) rfl
  | 2, _ => exact hw.2.1 _ (z_mem 216 (by decide +kernel)) rfl
  | 3, _ => exact hw.2.1 _ (z_mem 218 (by decide +kernel)) rfl
  | 4, _ => exact hw.2.1 _ (z_mem 220 (by decide +kernel)) rfl
theorem zu_7 (hw : z_Wd w) : ∀ c ∈ u_ws zR7 zT7 40, z_has w c := by
  intro c hc
  obtain ⟨k, hk, rfl⟩ := List.mem_map.mp hc
  have hk := List.mem_range.mp hk
  match k, hk with
  | 0, _ => exact hw.2.1 _ (z_mem 731 (by decide +kernel)) rfl
  | 1, _ => exact hw.2.1 _ (z_mem 733 (by decide +kernel)) rfl
  | 2, _ => exact hw.2.1 _ (z_mem 735 (by decide +kernel)) rfl
  | 3, _ => exact hw.2.1 _ (z_mem 737 (by decide +kernel)) rfl
  | 4, _ => exact hw.2.1 _ (z_mem 739 (by decide +kernel)) rfl
  | 5, _ => exact hw.2.1 _ (z_mem 741 (by decide +kernel)) rfl
  | 6, _ => exact hw.2.1 _ (z_mem 743 (by decide +kernel)) rfl
  | 7, _ => exact hw.2.1 _ (z_mem 745 (by decide +kernel)) rfl
  | 8, _ => exact hw.2.1 _ (z_mem 747 (by decide +kernel)) rfl
  | 9, _ => exact hw.2.1 _ (z_mem 749 (by decide +kernel)) rfl
  | 10, _ => exact hw.2.1 _ (z_mem 751 (by decide +kernel)) rfl
  | 11, _ => exact hw.2.1 _ (z_mem 753 (by decide +kernel)) rfl
  | 12, _ => exact hw.2.1 _ (z_mem 755 (by decide +kernel)) rfl
  | 13, _ => exact hw.2.1 _ (z_mem 757 (by decide +kernel)) rfl
  | 14, _ => exact hw.2.1 _ (z_mem 759 (by decide +kernel)) rfl
  | 15, _ => exact hw.2.1 _ (z_mem 761 (by decide +kernel)) rfl
  | 16, _ => exact hw.2.1 _ (z_mem 763 (by decide +kernel)) rfl
  | 17, _ => exact hw.2.1 _ (z_mem 765 (by decide +kernel)) rfl
  | 18, _ => exact hw.2.1 _ (z_mem 767 (by decide +kernel)) rfl
  | 19, _ => exact hw.2.1 _ (z_mem 769 (by decide +kernel)) rfl
  | 20, _ => exact hw.2.1 _ (z_mem 771 (by decide +kernel)) rfl
  | 21, _ => exact hw.2.1 _ (z_mem 773 (by decide +kernel)) rfl
  | 22, _ => exact hw.2.1 _ (z_mem 775 (by decide +kernel)) rfl
  | 23, _ => exact hw.2.1 _ (z_mem 777 (by decide +kernel)) rfl
  | 24, _ => exact hw.2.1 _ (z_mem 779 (by decide +kernel)) rfl
  | 25, _ => exact hw.2.1 _ (z_mem 781 (by decide +kernel)) rfl
  | 26, _ => exact hw.2.1 _ (z_mem 783 (by decide +kernel)) rfl
  | 27, _ => exact hw.2.1 _ (z_mem 785 (by decide +kernel)) rfl
  | 28, _ => exact hw.2.1 _ (z_mem 787 (by decide +kernel)) rfl
  | 29, _ => exact hw.2.1 _ (z_mem 789 (by decide +kernel)) rfl
  | 30, _ => exact hw.2.1 _ (z_mem 791 (by decide +kernel)) rfl
  | 31, _ => exact hw.2.1 _ (z_mem 793 (by decide +kernel)) rfl
  | 32, _ => exact hw.2.1 _ (z_mem 795 (by decide +kernel)) rfl
  | 33, _ => exact hw.2.1 _ (z_mem 797 (by decide +kernel)) rfl
  | 34, _ => exact hw.2.1 _ (z_mem 799 (by decide +kernel)) rfl
  | 35, _ => exact hw.2.1 _ (z_mem 801 (by decide +kernel)) rfl
  | 36, _ => exact hw.2.1 _ (z_mem 803 (by decide +kernel)) rfl
  | 37, _ => exact hw.2.1 _ (z_mem 805 (by decide +kernel)) rfl
  | 38, _ => exact hw.2.1 _ (z_mem 807 (by decide +kernel)) rfl
  | 39, _ => exact hw.2.1 _ (z_mem 809 (by decide +kernel)) rfl
  | k + 40, h => exact absurd h (by omega)
theorem zf_TS_14 (hw : z_Wd w) : z_fld w "ThingStream" 14 6 0 := ⟨zR6, zT6, 5, rfl, by decide, zu_6 hw, Or.inl (zw_207 hw)⟩
theorem zp_TS_14 (hw : z_Wd w) : z_fldP w "ThingStream" 14 6 0 (.object "ThingStream$Side") true := ⟨zR6, zT6, 5, zt6, rfl, by decide, zu_6 hw, Or.inl (zw_207 hw), zt6_ok, zn6, zt6_ok 0 (by decide), rfl, fun h => rfl⟩
theorem zf_TS_18 (hw : z_Wd w) : z_fld w "ThingStream" 18 6 1 := ⟨zR6, zT6, 5, rfl, by decide, zu_6 hw, Or.inl (zw_208 hw)⟩
theorem zp_TS_18 (hw : z_Wd w) : z_fldP w "ThingStream" 18 6 1 (.object "ThingStream$Side") true := ⟨zR6, zT6, 5, zt6, rfl, by decide, zu_6 hw, Or.inl (zw_208 hw), zt6_ok, zn6, zt6_ok 1 (by decide), rfl, fun h => rfl⟩
theorem zf_TS_24 (hw : z_Wd w) : z_fld w "ThingStream" 24 6 2 := ⟨zR6, zT6, 5, rfl, by decide, zu_6 hw, Or.inl (zw_209 hw)⟩
theorem zp_TS_24 (hw : z_Wd w) : z_fldP w "ThingStream" 24 6 2 (.object "ThingStream$Bytes") true := ⟨zR6, zT6, 5, zt6, rfl, by decide, zu_6 hw, Or.inl (zw_209 hw), zt6_ok, zn6, zt6_ok 2 (by decide), rfl, fun h => rfl⟩
theorem zf_TS_33 (hw : z_Wd w) : z_fld w "ThingStream" 33 6 3 := ⟨zR6, zT6, 5, rfl, by decide, zu_6 hw, Or.inl (zw_210 hw)⟩
theorem zp_TS_33 (hw : z_Wd w) : z_fldP w "ThingStream" 33 6 3 (.object "ThingStream$Writer") true := ⟨zR6, zT6, 5, zt6, rfl, by decide, zu_6 hw, Or.inl (zw_210 hw), zt6_ok, zn6, zt6_ok 3 (by decide), rfl, fun h => rfl⟩
theorem zf_TS_40 (hw : z_Wd w) : z_fld w "ThingStream" 40 6 4 := ⟨zR6, zT6, 5, rfl, by decide, zu_6 hw, Or.inl (zw_211 hw)⟩
theorem zp_TS_40 (hw : z_Wd w) : z_fldP w "ThingStream" 40 6 4 (.object "ThingStream$Reader") true := ⟨zR6, zT6, 5, zt6, rfl, by decide, zu_6 hw, Or.inl (zw_211 hw), zt6_ok, zn6, zt6_ok 4 (by decide), rfl, fun h => rfl⟩
theorem zf_TS_48 (hw : z_Wd w) : z_fld w "ThingStream" 48 3 0 := ⟨zR3, zT3, 2, rfl, by decide, zu_3 hw, Or.inr ⟨"ThingStream", zw_98 hw⟩⟩
theorem zf_TS_58 (hw : z_Wd w) : z_fld w "ThingStream" 58 3 1 := ⟨zR3, zT3, 2, rfl, by decide, zu_3 hw, Or.inr ⟨"ThingStream", zw_102 hw⟩⟩
theorem zp_TS_58 (hw : z_Wd w) : z_fldP w "ThingStream" 58 3 1 (.object "ThingStream$Things") false := ⟨zR3, zT3, 2, zt3, rfl, by decide, zu_3 hw, Or.inr ⟨rfl, "ThingStream", zw_102 hw⟩, zt3_ok, zn3, zt3_ok 1 (by decide), rfl, fun h => by cases h⟩
theorem zf_TS_102 (hw : z_Wd w) : z_fld w "ThingStream" 102 4 2 := ⟨zR4, zT4, 4, rfl, by decide, zu_4 hw, Or.inr ⟨"ThingStream", zw_82 hw⟩⟩
theorem zf_TS_128 (hw : z_Wd w) : z_fld w "ThingStream" 128 0 2 := ⟨zR0, zT0, 3, rfl, by decide, zu_0 hw, Or.inr ⟨"ThingStream", zw_123 hw⟩⟩
theorem zp_TS_128 (hw : z_Wd w) : z_fldP w "ThingStream" 128 0 2 (.boolean) false := ⟨zR0, zT0, 3, zt0, rfl, by decide, zu_0 hw, Or.inr ⟨rfl, "ThingStream", zw_123 hw⟩, zt0_ok, zn0, zt0_ok 2 (by decide), rfl, fun h => by cases h⟩
theorem zf_TS_133 (hw : z_Wd w) : z_fld w "ThingStream" 133 0 1 := ⟨zR0, zT0, 3, rfl, by decide, zu_0 hw, Or.inr ⟨"ThingStream", zw_121 hw⟩⟩
theorem zp_TS_133 (hw : z_Wd w) : z_fldP w "ThingStream" 133 0 1 (.int) false := ⟨zR0, zT0, 3, zt0, rfl, by decide, zu_0 hw, Or.inr ⟨rfl, "ThingStream", zw_121 hw⟩, zt0_ok, zn0, zt0_ok 1 (by decide), rfl, fun h => by cases h⟩
theorem zf_TS_138 (hw : z_Wd w) : z_fld w "ThingStream" 138 0 0 := ⟨zR0, zT0, 3, rfl, by decide, zu_0 hw, Or.inr ⟨"ThingStream", zw_117 hw⟩⟩
theorem zf_TS_156 (hw : z_Wd w) : z_fld w "ThingStream" 156 4 3 := ⟨zR4, zT4, 4, rfl, by decide, zu_4 hw, Or.inr ⟨"ThingStream", zw_86 hw⟩⟩
theorem zp_TS_156 (hw : z_Wd w) : z_fldP w "ThingStream" 156 4 3 (.int) false := ⟨zR4, zT4, 4, zt4, rfl, by decide, zu_4 hw, Or.inr ⟨rfl, "ThingStream", zw_86 hw⟩, zt4_ok, zn4, zt4_ok 3 (by decide), rfl, fun h => by cases h⟩
theorem zf_TS_157 (hw : z_Wd w) : z_fld w "ThingStream" 157 1 10 := ⟨zR1, zT1, 11, rfl, by decide, zu_1 hw, Or.inr ⟨"ThingStream", zw_183 hw⟩⟩
theorem zp_TS_157 (hw : z_Wd w) : z_fldP w "ThingStream" 157 1 10 (.int) false := ⟨zR1, zT1, 11, zt1, rfl, by decide, zu_1 hw, Or.inr ⟨rfl, "ThingStream", zw_183 hw⟩, zt1_ok, zn1, zt1_ok 10 (by decide), rfl, fun h => by cases h⟩
theorem zf_TS_163 (hw : z_Wd w) : z_fld w "ThingStream" 163 4 0 := ⟨zR4, zT4, 4, rfl, by decide, zu_4 hw, Or.inr ⟨"ThingStream", zw_76 hw⟩⟩
theorem zf_TS_165 (hw : z_Wd w) : z_fld w "ThingStream" 165 4 1 := ⟨zR4, zT4, 4, rfl, by decide, zu_4 hw, Or.inr ⟨"ThingStream", zw_79 hw⟩⟩
theorem zf_Bytes_9 (hw : z_Wd w) : z_fld w "ThingStream$Bytes" 9 0 0 := ⟨zR0, zT0, 3, rfl, by decide, zu_0 hw, Or.inl (zw_116 hw)⟩
theorem zp_Bytes_9 (hw : z_Wd w) : z_fldP w "ThingStream$Bytes" 9 0 0 (.array .int) true := ⟨zR0, zT0, 3, zt0, rfl, by decide, zu_0 hw, Or.inl (zw_116 hw), zt0_ok, zn0, zt0_ok 0 (by decide), rfl, fun h => rfl⟩
theorem zf_Bytes_15 (hw : z_Wd w) : z_fld w "ThingStream$Bytes" 15 0 1 := ⟨zR0, zT0, 3, rfl, by decide, zu_0 hw, Or.inl (zw_119 hw)⟩
theorem zp_Bytes_15 (hw : z_Wd w) : z_fldP w "ThingStream$Bytes" 15 0 1 (.int) false := ⟨zR0, zT0, 3, zt0, rfl, by decide, zu_0 hw, Or.inl (zw_119 hw), zt0_ok, zn0, zt0_ok 1 (by decide), rfl, fun h => by cases h⟩
theorem zf_Bytes_19 (hw : z_Wd w) : z_fld w "ThingStream$Bytes" 19 0 2 := ⟨zR0, zT0, 3, rfl, by decide, zu_0 hw, Or.inl (zw_122 hw)⟩
theorem zp_Bytes_19 (hw : z_Wd w) : z_fldP w "ThingStream$Bytes" 19 0 2 (.boolean) false := ⟨zR0, zT0, 3, zt0, rfl, by decide, zu_0 hw, Or.inl (zw_122 hw), zt0_ok, zn0, zt0_ok 2 (by decide), rfl, fun h => by cases h⟩
theorem zf_Reader_9 (hw : z_Wd w) : z_fld w "ThingStream$Reader" 9 1 0 := ⟨zR1, zT1, 11, rfl, by decide, zu_1 hw, Or.inl (zw_172 hw)⟩
theorem zp_Reader_9 (hw : z_Wd w) : z_fldP w "ThingStream$Reader" 9 1 0 (.object "ThingStream$Bytes") true := ⟨zR1, zT1, 11, zt1, rfl, by decide, zu_1 hw, Or.inl (zw_172 hw), zt1_ok, zn1, zt1_ok 0 (by decide), rfl, fun h => rfl⟩
theorem zf_Reader_15 (hw : z_Wd w) : z_fld w "ThingStream$Reader" 15 1 1 := ⟨zR1, zT1, 11, rfl, by decide, zu_1 hw, Or.inl (zw_173 hw)⟩
theorem zp_Reader_15 (hw : z_Wd w) : z_fldP w "ThingStream$Reader" 15 1 1 (.object "ThingStream$Side") true := ⟨zR1, zT1, 11, zt1, rfl, by decide, zu_1 hw, Or.inl (zw_173 hw), zt1_ok, zn1, zt1_ok 1 (by decide), rfl, fun h => rfl⟩
theorem zf_Reader_28 (hw : z_Wd w) : z_fld w "ThingStream$Reader" 28 1 2 := ⟨zR1, zT1, 11, rfl, by decide, zu_1 hw, Or.inl (zw_174 hw)⟩
theorem zp_Reader_28 (hw : z_Wd w) : z_fldP w "ThingStream$Reader" 28 1 2 (.array .int) true := ⟨zR1, zT1, 11, zt1, rfl, by decide, zu_1 hw, Or.inl (zw_174 hw), zt1_ok, zn1, zt1_ok 2 (by decide), rfl, fun h => rfl⟩
theorem zf_Reader_36 (hw : z_Wd w) : z_fld w "ThingStream$Reader" 36 1 3 := ⟨zR1, zT1, 11, rfl, by decide, zu_1 hw, Or.inl (zw_175 hw)⟩
theorem zp_Reader_36 (hw : z_Wd w) : z_fldP w "ThingStream$Reader" 36 1 3 (.object "ThingStream$Shapes") true := ⟨zR1, zT1, 11, zt1, rfl, by decide, zu_1 hw, Or.inl (zw_175 hw), zt1_ok, zn1, zt1_ok 3 (by decide), rfl, fun h => rfl⟩
theorem zf_Reader_40 (hw : z_Wd w) : z_fld w "ThingStream$Reader" 40 1 4 := ⟨zR1, zT1, 11, rfl, by decide, zu_1 hw, Or.inl (zw_176 hw)⟩
theorem zp_Reader_40 (hw : z_Wd w) : z_fldP w "ThingStream$Reader" 40 1 4 (.array .int) true := ⟨zR1, zT1, 11, zt1, rfl, by decide, zu_1 hw, Or.inl (zw_176 hw), zt1_ok, zn1, zt1_ok 4 (by decide), rfl, fun h => rfl⟩
theorem zf_Reader_43 (hw : z_Wd w) : z_fld w "ThingStream$Reader" 43 1 5 := ⟨zR1, zT1, 11, rfl, by decide, zu_1 hw, Or.inl (zw_177 hw)⟩
theorem zp_Reader_43 (hw : z_Wd w) : z_fldP w "ThingStream$Reader" 43 1 5 (.array .int) true := ⟨zR1, zT1, 11, zt1, rfl, by decide, zu_1 hw, Or.inl (zw_177 hw), zt1_ok, zn1, zt1_ok 5 (by decide), rfl, fun h => rfl⟩
theorem zf_Reader_49 (hw : z_Wd w) : z_fld w "ThingStream$Reader" 49 1 6 := ⟨zR1, zT1, 11, rfl, by decide, zu_1 hw, Or.inl (zw_178 hw)⟩
theorem zp_Reader_49 (hw : z_Wd w) : z_fldP w "ThingStream$Reader" 49 1 6 (.object "ThingStream$Things") false := ⟨zR1, zT1, 11, zt1, rfl, by decide, zu_1 hw, Or.inl (zw_178 hw), zt1_ok, zn1, zt1_ok 6 (by decide), rfl, fun h => by cases h⟩
theorem zf_Reader_53 (hw : z_Wd w) : z_fld w "ThingStream$Reader" 53 1 10 := ⟨zR1, zT1, 11, rfl, by decide, zu_1 hw, Or.inl (zw_182 hw)⟩
theorem zp_Reader_53 (hw : z_Wd w) : z_fldP w "ThingStream$Reader" 53 1 10 (.int) false := ⟨zR1, zT1, 11, zt1, rfl, by decide, zu_1 hw, Or.inl (zw_182 hw), zt1_ok, zn1, zt1_ok 10 (by decide), rfl, fun h => by cases h⟩
theorem zf_Reader_57 (hw : z_Wd w) : z_fld w "ThingStream$Reader" 57 1 9 := ⟨zR1, zT1, 11, rfl, by decide, zu_1 hw, Or.inl (zw_181 hw)⟩
theorem zp_Reader_57 (hw : z_Wd w) : z_fldP w "ThingStream$Reader" 57 1 9 (.int) false := ⟨zR1, zT1, 11, zt1, rfl, by decide, zu_1 hw, Or.inl (zw_181 hw), zt1_ok, zn1, zt1_ok 9 (by decide), rfl, fun h => by cases h⟩
theorem zf_Reader_60 (hw : z_Wd w) : z_fld w "ThingStream$Reader" 60 1 7 := ⟨zR1, zT1, 11, rfl, by decide, zu_1 hw, Or.inl (zw_179 hw)⟩
theorem zp_Reader_60 (hw : z_Wd w) : z_fldP w "ThingStream$Reader" 60 1 7 (.int) false := ⟨zR1, zT1, 11, zt1, rfl, by decide, zu_1 hw, Or.inl (zw_179 hw), zt1_ok, zn1, zt1_ok 7 (by decide), rfl, fun h => by cases h⟩
theorem zf_Reader_63 (hw : z_Wd w) : z_fld w "ThingStream$Reader" 63 1 8 := ⟨zR1, zT1, 11, rfl, by decide, zu_1 hw, Or.inl (zw_180 hw)⟩
theorem zp_Reader_63 (hw : z_Wd w) : z_fldP w "ThingStream$Reader" 63 1 8 (.int) false := ⟨zR1, zT1, 11, zt1, rfl, by decide, zu_1 hw, Or.inl (zw_180 hw), zt1_ok, zn1, zt1_ok 8 (by decide), rfl, fun h => by cases h⟩
theorem zf_Reader_69 (hw : z_Wd w) : z_fld w "ThingStream$Reader" 69 0 1 := ⟨zR0, zT0, 3, rfl, by decide, zu_0 hw, Or.inr ⟨"ThingStream", zw_120 hw⟩⟩
theorem zp_Reader_69 (hw : z_Wd w) : z_fldP w "ThingStream$Reader" 69 0 1 (.int) false := ⟨zR0, zT0, 3, zt0, rfl, by decide, zu_0 hw, Or.inr ⟨rfl, "ThingStream", zw_120 hw⟩, zt0_ok, zn0, zt0_ok 1 (by decide), rfl, fun h => by cases h⟩
theorem zf_Reader_84 (hw : z_Wd w) : z_fld w "ThingStream$Reader" 84 3 1 := ⟨zR3, zT3, 2, rfl, by decide, zu_3 hw, Or.inr ⟨"ThingStream", zw_104 hw⟩⟩
theorem zp_Reader_84 (hw : z_Wd w) : z_fldP w "ThingStream$Reader" 84 3 1 (.object "ThingStream$Things") false := ⟨zR3, zT3, 2, zt3, rfl, by decide, zu_3 hw, Or.inr ⟨rfl, "ThingStream", zw_104 hw⟩, zt3_ok, zn3, zt3_ok 1 (by decide), rfl, fun h => by cases h⟩
theorem zf_Reader_103 (hw : z_Wd w) : z_fld w "ThingStream$Reader" 103 4 3 := ⟨zR4, zT4, 4, rfl, by decide, zu_4 hw, Or.inr ⟨"ThingStream", zw_85 hw⟩⟩
theorem zp_Reader_103 (hw : z_Wd w) : z_fldP w "ThingStream$Reader" 103 4 3 (.int) false := ⟨zR4, zT4, 4, zt4, rfl, by decide, zu_4 hw, Or.inr ⟨rfl, "ThingStream", zw_85 hw⟩, zt4_ok, zn4, zt4_ok 3 (by decide), rfl, fun h => by cases h⟩
theorem zf_Reader_114 (hw : z_Wd w) : z_fld w "ThingStream$Reader" 114 4 2 := ⟨zR4, zT4, 4, rfl, by decide, zu_4 hw, Or.inr ⟨"ThingStream", zw_83 hw⟩⟩
theorem zf_Reader_127 (hw : z_Wd w) : z_fld w "ThingStream$Reader" 127 2 1 := ⟨zR2, zT2, 7, rfl, by decide, zu_2 hw, Or.inr ⟨"ThingStream", zw_38 hw⟩⟩
theorem zf_Reader_130 (hw : z_Wd w) : z_fld w "ThingStream$Reader" 130 3 0 := ⟨zR3, zT3, 2, rfl, by decide, zu_3 hw, Or.inr ⟨"ThingStream", zw_100 hw⟩⟩
theorem zf_Reader_155 (hw : z_Wd w) : z_fld w "ThingStream$Reader" 155 2 4 := ⟨zR2, zT2, 7, rfl, by decide, zu_2 hw, Or.inr ⟨"ThingStream", zw_46 hw⟩⟩
theorem zf_Reader_191 (hw : z_Wd w) : z_fld w "ThingStream$Reader" 191 2 2 := ⟨zR2, zT2, 7, rfl, by decide, zu_2 hw, Or.inr ⟨"ThingStream", zw_40 hw⟩⟩
theorem zf_Reader_204 (hw : z_Wd w) : z_fld w "ThingStream$Reader" 204 2 3 := ⟨zR2, zT2, 7, rfl, by decide, zu_2 hw, Or.inr ⟨"ThingStream", zw_43 hw⟩⟩
theorem zf_Reader_207 (hw : z_Wd w) : z_fld w "ThingStream$Reader" 207 0 0 := ⟨zR0, zT0, 3, rfl, by decide, zu_0 hw, Or.inr ⟨"ThingStream", zw_118 hw⟩⟩
theorem zf_Shapes_9 (hw : z_Wd w) : z_fld w "ThingStream$Shapes" 9 2 0 := ⟨zR2, zT2, 7, rfl, by decide, zu_2 hw, Or.inl (zw_36 hw)⟩
theorem zp_Shapes_9 (hw : z_Wd w) : z_fldP w "ThingStream$Shapes" 9 2 0 (.array .boolean) true := ⟨zR2, zT2, 7, zt2, rfl, by decide, zu_2 hw, Or.inl (zw_36 hw), zt2_ok, zn2, zt2_ok 0 (by decide), rfl, fun h => rfl⟩
theorem zf_Shapes_15 (hw : z_Wd w) : z_fld w "ThingStream$Shapes" 15 2 1 := ⟨zR2, zT2, 7, rfl, by decide, zu_2 hw, Or.inl (zw_37 hw)⟩
theorem zp_Shapes_15 (hw : z_Wd w) : z_fldP w "ThingStream$Shapes" 15 2 1 (.array .int) true := ⟨zR2, zT2, 7, zt2, rfl, by decide, zu_2 hw, Or.inl (zw_37 hw), zt2_ok, zn2, zt2_ok 1 (by decide), rfl, fun h => rfl⟩
theorem zf_Shapes_19 (hw : z_Wd w) : z_fld w "ThingStream$Shapes" 19 2 2 := ⟨zR2, zT2, 7, rfl, by decide, zu_2 hw, Or.inl (zw_39 hw)⟩
theorem zp_Shapes_19 (hw : z_Wd w) : z_fldP w "ThingStream$Shapes" 19 2 2 (.array .int) true := ⟨zR2, zT2, 7, zt2, rfl, by decide, zu_2 hw, Or.inl (zw_39 hw), zt2_ok, zn2, zt2_ok 2 (by decide), rfl, fun h => rfl⟩
theorem zf_Shapes_22 (hw : z_Wd w) : z_fld w "ThingStream$Shapes" 22 2 3 := ⟨zR2, zT2, 7, rfl, by decide, zu_2 hw, Or.inl (zw_41 hw)⟩
theorem zp_Shapes_22 (hw : z_Wd w) : z_fldP w "ThingStream$Shapes" 22 2 3 (.array .int) true := ⟨zR2, zT2, 7, zt2, rfl, by decide, zu_2 hw, Or.inl (zw_41 hw), zt2_ok, zn2, zt2_ok 3 (by decide), rfl, fun h => rfl⟩
theorem zf_Shapes_25 (hw : z_Wd w) : z_fld w "ThingStream$Shapes" 25 2 4 := ⟨zR2, zT2, 7, rfl, by decide, zu_2 hw, Or.inl (zw_44 hw)⟩
theorem zp_Shapes_25 (hw : z_Wd w) : z_fldP w "ThingStream$Shapes" 25 2 4 (.array .int) true := ⟨zR2, zT2, 7, zt2, rfl, by decide, zu_2 hw, Or.inl (zw_44 hw), zt2_ok, zn2, zt2_ok 4 (by decide), rfl, fun h => rfl⟩
theorem zf_Shapes_28 (hw : z_Wd w) : z_fld w "ThingStream$Shapes" 28 2 5 := ⟨zR2, zT2, 7, rfl, by decide, zu_2 hw, Or.inl (zw_48 hw)⟩
theorem zp_Shapes_28 (hw : z_Wd w) : z_fldP w "ThingStream$Shapes" 28 2 5 (.array .int) true := ⟨zR2, zT2, 7, zt2, rfl, by decide, zu_2 hw, Or.inl (zw_48 hw), zt2_ok, zn2, zt2_ok 5 (by decide), rfl, fun h => rfl⟩
theorem zf_Shapes_31 (hw : z_Wd w) : z_fld w "ThingStream$Shapes" 31 2 6 := ⟨zR2, zT2, 7, rfl, by decide, zu_2 hw, Or.inl (zw_49 hw)⟩
theorem zp_Shapes_31 (hw : z_Wd w) : z_fldP w "ThingStream$Shapes" 31 2 6 (.array .int) true := ⟨zR2, zT2, 7, zt2, rfl, by decide, zu_2 hw, Or.inl (zw_49 hw), zt2_ok, zn2, zt2_ok 6 (by decide), rfl, fun h => rfl⟩
theorem zf_Side_14 (hw : z_Wd w) : z_fld w "ThingStream$Side" 14 3 0 := ⟨zR3, zT3, 2, rfl, by decide, zu_3 hw, Or.inl (zw_97 hw)⟩
theorem zp_Side_14 (hw : z_Wd w) : z_fldP w "ThingStream$Side" 14 3 0 (.object "ThingStream$Shapes") true := ⟨zR3, zT3, 2, zt3, rfl, by decide, zu_3 hw, Or.inl (zw_97 hw), zt3_ok, zn3, zt3_ok 0 (by decide), rfl, fun h => rfl⟩
theorem zf_Side_23 (hw : z_Wd w) : z_fld w "ThingStream$Side" 23 3 1 := ⟨zR3, zT3, 2, rfl, by decide, zu_3 hw, Or.inl (zw_101 hw)⟩
theorem zp_Side_23 (hw : z_Wd w) : z_fldP w "ThingStream$Side" 23 3 1 (.object "ThingStream$Things") false := ⟨zR3, zT3, 2, zt3, rfl, by decide, zu_3 hw, Or.inl (zw_101 hw), zt3_ok, zn3, zt3_ok 1 (by decide), rfl, fun h => by cases h⟩
theorem zf_Side_31 (hw : z_Wd w) : z_fld w "ThingStream$Side" 31 4 0 := ⟨zR4, zT4, 4, rfl, by decide, zu_4 hw, Or.inr ⟨"ThingStream", zw_74 hw⟩⟩
theorem zf_Things_9 (hw : z_Wd w) : z_fld w "ThingStream$Things" 9 4 0 := ⟨zR4, zT4, 4, rfl, by decide, zu_4 hw, Or.inl (zw_73 hw)⟩
theorem zp_Things_9 (hw : z_Wd w) : z_fldP w "ThingStream$Things" 9 4 0 (.array .int) true := ⟨zR4, zT4, 4, zt4, rfl, by decide, zu_4 hw, Or.inl (zw_73 hw), zt4_ok, zn4, zt4_ok 0 (by decide), rfl, fun h => rfl⟩
theorem zf_Things_15 (hw : z_Wd w) : z_fld w "ThingStream$Things" 15 4 1 := ⟨zR4, zT4, 4, rfl, by decide, zu_4 hw, Or.inl (zw_77 hw)⟩
theorem zp_Things_15 (hw : z_Wd w) : z_fldP w "ThingStream$Things" 15 4 1 (.array .int) true := ⟨zR4, zT4, 4, zt4, rfl, by decide, zu_4 hw, Or.inl (zw_77 hw), zt4_ok, zn4, zt4_ok 1 (by decide), rfl, fun h => rfl⟩
theorem zf_Things_18 (hw : z_Wd w) : z_fld w "ThingStream$Things" 18 4 2 := ⟨zR4, zT4, 4, rfl, by decide, zu_4 hw, Or.inl (zw_80 hw)⟩
theorem zp_Things_18 (hw : z_Wd w) : z_fldP w "ThingStream$Things" 18 4 2 (.array .long) true := ⟨zR4, zT4, 4, zt4, rfl, by decide, zu_4 hw, Or.inl (zw_80 hw), zt4_ok, zn4, zt4_ok 2 (by decide), rfl, fun h => rfl⟩
theorem zf_Things_22 (hw : z_Wd w) : z_fld w "ThingStream$Things" 22 4 3 := ⟨zR4, zT4, 4, rfl, by decide, zu_4 hw, Or.inl (zw_84 hw)⟩
theorem zp_Things_22 (hw : z_Wd w) : z_fldP w "ThingStream$Things" 22 4 3 (.int) false := ⟨zR4, zT4, 4, zt4, rfl, by decide, zu_4 hw, Or.inl (zw_84 hw), zt4_ok, zn4, zt4_ok 3 (by decide), rfl, fun h => by cases h⟩
theorem zf_Things_49 (hw : z_Wd w) : z_fld w "ThingStream$Things" 49 2 4 := ⟨zR2, zT2, 7, rfl, by decide, zu_2 hw, Or.inr ⟨"ThingStream", zw_47 hw⟩⟩
theorem zf_Writer_9 (hw : z_Wd w) : z_fld w "ThingStream$Writer" 9 5 0 := ⟨zR5, zT5, 5, rfl, by decide, zu_5 hw, Or.inl (zw_137 hw)⟩
theorem zp_Writer_9 (hw : z_Wd w) : z_fldP w "ThingStream$Writer" 9 5 0 (.object "ThingStream$Bytes") true := ⟨zR5, zT5, 5, zt5, rfl, by decide, zu_5 hw, Or.inl (zw_137 hw), zt5_ok, zn5, zt5_ok 0 (by decide), rfl, fun h => rfl⟩
theorem zf_Writer_15 (hw : z_Wd w) : z_fld w "ThingStream$Writer" 15 5 1 := ⟨zR5, zT5, 5, rfl, by decide, zu_5 hw, Or.inl (zw_138 hw)⟩
theorem zp_Writer_15 (hw : z_Wd w) : z_fldP w "ThingStream$Writer" 15 5 1 (.object "ThingStream$Side") true := ⟨zR5, zT5, 5, zt5, rfl, by decide, zu_5 hw, Or.inl (zw_138 hw), zt5_ok, zn5, zt5_ok 1 (by decide), rfl, fun h => rfl⟩
theorem zf_Writer_19 (hw : z_Wd w) : z_fld w "ThingStream$Writer" 19 5 2 := ⟨zR5, zT5, 5, rfl, by decide, zu_5 hw, Or.inl (zw_139 hw)⟩
theorem zp_Writer_19 (hw : z_Wd w) : z_fldP w "ThingStream$Writer" 19 5 2 (.array .int) true := ⟨zR5, zT5, 5, zt5, rfl, by decide, zu_5 hw, Or.inl (zw_139 hw), zt5_ok, zn5, zt5_ok 2 (by decide), rfl, fun h => rfl⟩
theorem zf_Writer_23 (hw : z_Wd w) : z_fld w "ThingStream$Writer" 23 5 3 := ⟨zR5, zT5, 5, rfl, by decide, zu_5 hw, Or.inl (zw_140 hw)⟩
theorem zp_Writer_23 (hw : z_Wd w) : z_fldP w "ThingStream$Writer" 23 5 3 (.array .int) true := ⟨zR5, zT5, 5, zt5, rfl, by decide, zu_5 hw, Or.inl (zw_140 hw), zt5_ok, zn5, zt5_ok 3 (by decide), rfl, fun h => rfl⟩
theorem zf_Writer_32 (hw : z_Wd w) : z_fld w "ThingStream$Writer" 32 5 4 := ⟨zR5, zT5, 5, rfl, by decide, zu_5 hw, Or.inl (zw_141 hw)⟩
theorem zp_Writer_32 (hw : z_Wd w) : z_fldP w "ThingStream$Writer" 32 5 4 (.int) false := ⟨zR5, zT5, 5, zt5, rfl, by decide, zu_5 hw, Or.inl (zw_141 hw), zt5_ok, zn5, zt5_ok 4 (by decide), rfl, fun h => by cases h⟩
theorem zf_Writer_45 (hw : z_Wd w) : z_fld w "ThingStream$Writer" 45 3 1 := ⟨zR3, zT3, 2, rfl, by decide, zu_3 hw, Or.inr ⟨"ThingStream", zw_103 hw⟩⟩
theorem zp_Writer_45 (hw : z_Wd w) : z_fldP w "ThingStream$Writer" 45 3 1 (.object "ThingStream$Things") false := ⟨zR3, zT3, 2, zt3, rfl, by decide, zu_3 hw, Or.inr ⟨rfl, "ThingStream", zw_103 hw⟩, zt3_ok, zn3, zt3_ok 1 (by decide), rfl, fun h => by cases h⟩
theorem zf_Writer_70 (hw : z_Wd w) : z_fld w "ThingStream$Writer" 70 4 1 := ⟨zR4, zT4, 4, rfl, by decide, zu_4 hw, Or.inr ⟨"ThingStream", zw_78 hw⟩⟩
theorem zf_Writer_81 (hw : z_Wd w) : z_fld w "ThingStream$Writer" 81 4 2 := ⟨zR4, zT4, 4, rfl, by decide, zu_4 hw, Or.inr ⟨"ThingStream", zw_81 hw⟩⟩
theorem zf_Writer_88 (hw : z_Wd w) : z_fld w "ThingStream$Writer" 88 4 0 := ⟨zR4, zT4, 4, rfl, by decide, zu_4 hw, Or.inr ⟨"ThingStream", zw_75 hw⟩⟩
theorem zf_Writer_94 (hw : z_Wd w) : z_fld w "ThingStream$Writer" 94 3 0 := ⟨zR3, zT3, 2, rfl, by decide, zu_3 hw, Or.inr ⟨"ThingStream", zw_99 hw⟩⟩
theorem zf_Writer_110 (hw : z_Wd w) : z_fld w "ThingStream$Writer" 110 2 4 := ⟨zR2, zT2, 7, rfl, by decide, zu_2 hw, Or.inr ⟨"ThingStream", zw_45 hw⟩⟩
theorem zf_Writer_133 (hw : z_Wd w) : z_fld w "ThingStream$Writer" 133 2 3 := ⟨zR2, zT2, 7, rfl, by decide, zu_2 hw, Or.inr ⟨"ThingStream", zw_42 hw⟩⟩
theorem zf_Model_7 (hw : z_Wd w) : z_fld w "ThingStreamModel" 7 7 1 := ⟨zR7, zT7, 40, rfl, by decide, zu_7 hw, Or.inl (zw_692 hw)⟩
theorem zp_Model_7 (hw : z_Wd w) : z_fldP w "ThingStreamModel" 7 7 1 (.array .boolean) true := ⟨zR7, zT7, 40, zt7, rfl, by decide, zu_7 hw, Or.inl (zw_692 hw), zt7_ok, zn7, zt7_ok 1 (by decide), rfl, fun h => rfl⟩
theorem zf_Model_13 (hw : z_Wd w) : z_fld w "ThingStreamModel" 13 7 2 := ⟨zR7, zT7, 40, rfl, by decide, zu_7 hw, Or.inl (zw_693 hw)⟩
theorem zp_Model_13 (hw : z_Wd w) : z_fldP w "ThingStreamModel" 13 7 2 (.array .int) true := ⟨zR7, zT7, 40, zt7, rfl, by decide, zu_7 hw, Or.inl (zw_693 hw), zt7_ok, zn7, zt7_ok 2 (by decide), rfl, fun h => rfl⟩
theorem zf_Model_17 (hw : z_Wd w) : z_fld w "ThingStreamModel" 17 7 3 := ⟨zR7, zT7, 40, rfl, by decide, zu_7 hw, Or.inl (zw_694 hw)⟩
theorem zp_Model_17 (hw : z_Wd w) : z_fldP w "ThingStreamModel" 17 7 3 (.array .int) true := ⟨zR7, zT7, 40, zt7, rfl, by decide, zu_7 hw, Or.inl (zw_694 hw), zt7_ok, zn7, zt7_ok 3 (by decide), rfl, fun h => rfl⟩
theorem zf_Model_20 (hw : z_Wd w) : z_fld w "ThingStreamModel" 20 7 4 := ⟨zR7, zT7, 40, rfl, by decide, zu_7 hw, Or.inl (zw_695 hw)⟩
theorem zp_Model_20 (hw : z_Wd w) : z_fldP w "ThingStreamModel" 20 7 4 (.array .int) true := ⟨zR7, zT7, 40, zt7, rfl, by decide, zu_7 hw, Or.inl (zw_695 hw), zt7_ok, zn7, zt7_ok 4 (by decide), rfl, fun h => rfl⟩
theorem zf_Model_23 (hw : z_Wd w) : z_fld w "ThingStreamModel" 23 7 5 := ⟨zR7, zT7, 40, rfl, by decide, zu_7 hw, Or.inl (zw_696 hw)⟩
theorem zp_Model_23 (hw : z_Wd w) : z_fldP w "ThingStreamModel" 23 7 5 (.array .int) true := ⟨zR7, zT7, 40, zt7, rfl, by decide, zu_7 hw, Or.inl (zw_696 hw), zt7_ok, zn7, zt7_ok 5 (by decide), rfl, fun h => rfl⟩
theorem zf_Model_26 (hw : z_Wd w) : z_fld w "ThingStreamModel" 26 7 6 := ⟨zR7, zT7, 40, rfl, by decide, zu_7 hw, Or.inl (zw_697 hw)⟩
theorem zp_Model_26 (hw : z_Wd w) : z_fldP w "ThingStreamModel" 26 7 6 (.array .int) true := ⟨zR7, zT7, 40, zt7, rfl, by decide, zu_7 hw, Or.inl (zw_697 hw), zt7_ok, zn7, zt7_ok 6 (by decide), rfl, fun h => rfl⟩
theorem zf_Model_29 (hw : z_Wd w) : z_fld w "ThingStreamModel" 29 7 7 := ⟨zR7, zT7, 40, rfl, by decide, zu_7 hw, Or.inl (zw_698 hw)⟩
theorem zp_Model_29 (hw : z_Wd w) : z_fldP w "ThingStreamModel" 29 7 7 (.array .int) true := ⟨zR7, zT7, 40, zt7, rfl, by decide, zu_7 hw, Or.inl (zw_698 hw), zt7_ok, zn7, zt7_ok 7 (by decide), rfl, fun h => rfl⟩
theorem zf_Model_32 (hw : z_Wd w) : z_fld w "ThingStreamModel" 32 7 8 := ⟨zR7, zT7, 40, rfl, by decide, zu_7 hw, Or.inl (zw_699 hw)⟩
theorem zp_Model_32 (hw : z_Wd w) : z_fldP w "ThingStreamModel" 32 7 8 (.array .int) true := ⟨zR7, zT7, 40, zt7, rfl, by decide, zu_7 hw, Or.inl (zw_699 hw), zt7_ok, zn7, zt7_ok 8 (by decide), rfl, fun h => rfl⟩
theorem zf_Model_35 (hw : z_Wd w) : z_fld w "ThingStreamModel" 35 7 9 := ⟨zR7, zT7, 40, rfl, by decide, zu_7 hw, Or.inl (zw_700 hw)⟩
theorem zp_Model_35 (hw : z_Wd w) : z_fldP w "ThingStreamModel" 35 7 9 (.array .int) true := ⟨zR7, zT7, 40, zt7, rfl, by decide, zu_7 hw, Or.inl (zw_700 hw), zt7_ok, zn7, zt7_ok 9 (by decide), rfl, fun h => rfl⟩
theorem zf_Model_38 (hw : z_Wd w) : z_fld w "ThingStreamModel" 38 7 10 := ⟨zR7, zT7, 40, rfl, by decide, zu_7 hw, Or.inl (zw_701 hw)⟩
theorem zp_Model_38 (hw : z_Wd w) : z_fldP w "ThingStreamModel" 38 7 10 (.array .long) true := ⟨zR7, zT7, 40, zt7, rfl, by decide, zu_7 hw, Or.inl (zw_701 hw), zt7_ok, zn7, zt7_ok 10 (by decide), rfl, fun h => rfl⟩
theorem zf_Model_42 (hw : z_Wd w) : z_fld w "ThingStreamModel" 42 7 11 := ⟨zR7, zT7, 40, rfl, by decide, zu_7 hw, Or.inl (zw_702 hw)⟩
theorem zp_Model_42 (hw : z_Wd w) : z_fldP w "ThingStreamModel" 42 7 11 (.array .int) true := ⟨zR7, zT7, 40, zt7, rfl, by decide, zu_7 hw, Or.inl (zw_702 hw), zt7_ok, zn7, zt7_ok 11 (by decide), rfl, fun h => rfl⟩
theorem zf_Model_45 (hw : z_Wd w) : z_fld w "ThingStreamModel" 45 7 13 := ⟨zR7, zT7, 40, rfl, by decide, zu_7 hw, Or.inl (zw_704 hw)⟩
theorem zp_Model_45 (hw : z_Wd w) : z_fldP w "ThingStreamModel" 45 7 13 (.array .int) true := ⟨zR7, zT7, 40, zt7, rfl, by decide, zu_7 hw, Or.inl (zw_704 hw), zt7_ok, zn7, zt7_ok 13 (by decide), rfl, fun h => rfl⟩
theorem zf_Model_48 (hw : z_Wd w) : z_fld w "ThingStreamModel" 48 7 14 := ⟨zR7, zT7, 40, rfl, by decide, zu_7 hw, Or.inl (zw_705 hw)⟩
theorem zp_Model_48 (hw : z_Wd w) : z_fldP w "ThingStreamModel" 48 7 14 (.array .int) true := ⟨zR7, zT7, 40, zt7, rfl, by decide, zu_7 hw, Or.inl (zw_705 hw), zt7_ok, zn7, zt7_ok 14 (by decide), rfl, fun h => rfl⟩
theorem zf_Model_51 (hw : z_Wd w) : z_fld w "ThingStreamModel" 51 7 15 := ⟨zR7, zT7, 40, rfl, by decide, zu_7 hw, Or.inl (zw_706 hw)⟩
theorem zp_Model_51 (hw : z_Wd w) : z_fldP w "ThingStreamModel" 51 7 15 (.int) false := ⟨zR7, zT7, 40, zt7, rfl, by decide, zu_7 hw, Or.inl (zw_706 hw), zt7_ok, zn7, zt7_ok 15 (by decide), rfl, fun h => by cases h⟩
theorem zf_Model_55 (hw : z_Wd w) : z_fld w "ThingStreamModel" 55 7 17 := ⟨zR7, zT7, 40, rfl, by decide, zu_7 hw, Or.inl (zw_708 hw)⟩
theorem zp_Model_55 (hw : z_Wd w) : z_fldP w "ThingStreamModel" 55 7 17 (.array .int) true := ⟨zR7, zT7, 40, zt7, rfl, by decide, zu_7 hw, Or.inl (zw_708 hw), zt7_ok, zn7, zt7_ok 17 (by decide), rfl, fun h => rfl⟩
theorem zf_Model_58 (hw : z_Wd w) : z_fld w "ThingStreamModel" 58 7 18 := ⟨zR7, zT7, 40, rfl, by decide, zu_7 hw, Or.inl (zw_709 hw)⟩
theorem zp_Model_58 (hw : z_Wd w) : z_fldP w "ThingStreamModel" 58 7 18 (.array .int) true := ⟨zR7, zT7, 40, zt7, rfl, by decide, zu_7 hw, Or.inl (zw_709 hw), zt7_ok, zn7, zt7_ok 18 (by decide), rfl, fun h => rfl⟩
theorem zf_Model_61 (hw : z_Wd w) : z_fld w "ThingStreamModel" 61 7 19 := ⟨zR7, zT7, 40, rfl, by decide, zu_7 hw, Or.inl (zw_710 hw)⟩
theorem zp_Model_61 (hw : z_Wd w) : z_fldP w "ThingStreamModel" 61 7 19 (.array .int) true := ⟨zR7, zT7, 40, zt7, rfl, by decide, zu_7 hw, Or.inl (zw_710 hw), zt7_ok, zn7, zt7_ok 19 (by decide), rfl, fun h => rfl⟩
theorem zf_Model_64 (hw : z_Wd w) : z_fld w "ThingStreamModel" 64 7 21 := ⟨zR7, zT7, 40, rfl, by decide, zu_7 hw, Or.inl (zw_712 hw)⟩
theorem zp_Model_64 (hw : z_Wd w) : z_fldP w "ThingStreamModel" 64 7 21 (.array .int) true := ⟨zR7, zT7, 40, zt7, rfl, by decide, zu_7 hw, Or.inl (zw_712 hw), zt7_ok, zn7, zt7_ok 21 (by decide), rfl, fun h => rfl⟩
theorem zf_Model_67 (hw : z_Wd w) : z_fld w "ThingStreamModel" 67 7 22 := ⟨zR7, zT7, 40, rfl, by decide, zu_7 hw, Or.inl (zw_713 hw)⟩
theorem zp_Model_67 (hw : z_Wd w) : z_fldP w "ThingStreamModel" 67 7 22 (.array .int) true := ⟨zR7, zT7, 40, zt7, rfl, by decide, zu_7 hw, Or.inl (zw_713 hw), zt7_ok, zn7, zt7_ok 22 (by decide), rfl, fun h => rfl⟩
theorem zf_Model_70 (hw : z_Wd w) : z_fld w "ThingStreamModel" 70 7 26 := ⟨zR7, zT7, 40, rfl, by decide, zu_7 hw, Or.inl (zw_717 hw)⟩
theorem zp_Model_70 (hw : z_Wd w) : z_fldP w "ThingStreamModel" 70 7 26 (.array .int) true := ⟨zR7, zT7, 40, zt7, rfl, by decide, zu_7 hw, Or.inl (zw_717 hw), zt7_ok, zn7, zt7_ok 26 (by decide), rfl, fun h => rfl⟩
theorem zf_Model_73 (hw : z_Wd w) : z_fld w "ThingStreamModel" 73 7 27 := ⟨zR7, zT7, 40, rfl, by decide, zu_7 hw, Or.inl (zw_718 hw)⟩
theorem zp_Model_73 (hw : z_Wd w) : z_fldP w "ThingStreamModel" 73 7 27 (.array .int) true := ⟨zR7, zT7, 40, zt7, rfl, by decide, zu_7 hw, Or.inl (zw_718 hw), zt7_ok, zn7, zt7_ok 27 (by decide), rfl, fun h => rfl⟩
theorem zf_Model_76 (hw : z_Wd w) : z_fld w "ThingStreamModel" 76 7 28 := ⟨zR7, zT7, 40, rfl, by decide, zu_7 hw, Or.inl (zw_719 hw)⟩
theorem zp_Model_76 (hw : z_Wd w) : z_fldP w "ThingStreamModel" 76 7 28 (.array .int) true := ⟨zR7, zT7, 40, zt7, rfl, by decide, zu_7 hw, Or.inl (zw_719 hw), zt7_ok, zn7, zt7_ok 28 (by decide), rfl, fun h => rfl⟩
theorem zf_Model_79 (hw : z_Wd w) : z_fld w "ThingStreamModel" 79 7 29 := ⟨zR7, zT7, 40, rfl, by decide, zu_7 hw, Or.inl (zw_720 hw)⟩
theorem zp_Model_79 (hw : z_Wd w) : z_fldP w "ThingStreamModel" 79 7 29 (.array .int) true := ⟨zR7, zT7, 40, zt7, rfl, by decide, zu_7 hw, Or.inl (zw_720 hw), zt7_ok, zn7, zt7_ok 29 (by decide), rfl, fun h => rfl⟩
theorem zf_Model_82 (hw : z_Wd w) : z_fld w "ThingStreamModel" 82 7 30 := ⟨zR7, zT7, 40, rfl, by decide, zu_7 hw, Or.inl (zw_721 hw)⟩
theorem zp_Model_82 (hw : z_Wd w) : z_fldP w "ThingStreamModel" 82 7 30 (.array .int) true := ⟨zR7, zT7, 40, zt7, rfl, by decide, zu_7 hw, Or.inl (zw_721 hw), zt7_ok, zn7, zt7_ok 30 (by decide), rfl, fun h => rfl⟩
theorem zf_Model_85 (hw : z_Wd w) : z_fld w "ThingStreamModel" 85 7 31 := ⟨zR7, zT7, 40, rfl, by decide, zu_7 hw, Or.inl (zw_722 hw)⟩
theorem zp_Model_85 (hw : z_Wd w) : z_fldP w "ThingStreamModel" 85 7 31 (.array .int) true := ⟨zR7, zT7, 40, zt7, rfl, by decide, zu_7 hw, Or.inl (zw_722 hw), zt7_ok, zn7, zt7_ok 31 (by decide), rfl, fun h => rfl⟩
theorem zf_Model_88 (hw : z_Wd w) : z_fld w "ThingStreamModel" 88 7 32 := ⟨zR7, zT7, 40, rfl, by decide, zu_7 hw, Or.inl (zw_723 hw)⟩
theorem zp_Model_88 (hw : z_Wd w) : z_fldP w "ThingStreamModel" 88 7 32 (.array .int) true := ⟨zR7, zT7, 40, zt7, rfl, by decide, zu_7 hw, Or.inl (zw_723 hw), zt7_ok, zn7, zt7_ok 32 (by decide), rfl, fun h => rfl⟩
theorem zf_Model_91 (hw : z_Wd w) : z_fld w "ThingStreamModel" 91 7 34 := ⟨zR7, zT7, 40, rfl, by decide, zu_7 hw, Or.inl (zw_725 hw)⟩
theorem zp_Model_91 (hw : z_Wd w) : z_fldP w "ThingStreamModel" 91 7 34 (.array .int) true := ⟨zR7, zT7, 40, zt7, rfl, by decide, zu_7 hw, Or.inl (zw_725 hw), zt7_ok, zn7, zt7_ok 34 (by decide), rfl, fun h => rfl⟩
theorem zf_Model_94 (hw : z_Wd w) : z_fld w "ThingStreamModel" 94 7 35 := ⟨zR7, zT7, 40, rfl, by decide, zu_7 hw, Or.inl (zw_726 hw)⟩
theorem zp_Model_94 (hw : z_Wd w) : z_fldP w "ThingStreamModel" 94 7 35 (.array .int) true := ⟨zR7, zT7, 40, zt7, rfl, by decide, zu_7 hw, Or.inl (zw_726 hw), zt7_ok, zn7, zt7_ok 35 (by decide), rfl, fun h => rfl⟩
theorem zf_Model_97 (hw : z_Wd w) : z_fld w "ThingStreamModel" 97 7 36 := ⟨zR7, zT7, 40, rfl, by decide, zu_7 hw, Or.inl (zw_727 hw)⟩
theorem zp_Model_97 (hw : z_Wd w) : z_fldP w "ThingStreamModel" 97 7 36 (.array .long) true := ⟨zR7, zT7, 40, zt7, rfl, by decide, zu_7 hw, Or.inl (zw_727 hw), zt7_ok, zn7, zt7_ok 36 (by decide), rfl, fun h => rfl⟩
theorem zf_Model_100 (hw : z_Wd w) : z_fld w "ThingStreamModel" 100 7 37 := ⟨zR7, zT7, 40, rfl, by decide, zu_7 hw, Or.inl (zw_728 hw)⟩
theorem zp_Model_100 (hw : z_Wd w) : z_fldP w "ThingStreamModel" 100 7 37 (.array .int) true := ⟨zR7, zT7, 40, zt7, rfl, by decide, zu_7 hw, Or.inl (zw_728 hw), zt7_ok, zn7, zt7_ok 37 (by decide), rfl, fun h => rfl⟩
theorem zf_Model_103 (hw : z_Wd w) : z_fld w "ThingStreamModel" 103 7 38 := ⟨zR7, zT7, 40, rfl, by decide, zu_7 hw, Or.inl (zw_729 hw)⟩
theorem zp_Model_103 (hw : z_Wd w) : z_fldP w "ThingStreamModel" 103 7 38 (.array .int) true := ⟨zR7, zT7, 40, zt7, rfl, by decide, zu_7 hw, Or.inl (zw_729 hw), zt7_ok, zn7, zt7_ok 38 (by decide), rfl, fun h => rfl⟩
theorem zf_Model_106 (hw : z_Wd w) : z_fld w "ThingStreamModel" 106 7 0 := ⟨zR7, zT7, 40, rfl, by decide, zu_7 hw, Or.inl (zw_691 hw)⟩
theorem zp_Model_106 (hw : z_Wd w) : z_fldP w "ThingStreamModel" 106 7 0 (.int) false := ⟨zR7, zT7, 40, zt7, rfl, by decide, zu_7 hw, Or.inl (zw_691 hw), zt7_ok, zn7, zt7_ok 0 (by decide), rfl, fun h => by cases h⟩
theorem zf_Model_144 (hw : z_Wd w) : z_fld w "ThingStreamModel" 144 7 12 := ⟨zR7, zT7, 40, rfl, by decide, zu_7 hw, Or.inl (zw_703 hw)⟩
theorem zp_Model_144 (hw : z_Wd w) : z_fldP w "ThingStreamModel" 144 7 12 (.int) false := ⟨zR7, zT7, 40, zt7, rfl, by decide, zu_7 hw, Or.inl (zw_703 hw), zt7_ok, zn7, zt7_ok 12 (by decide), rfl, fun h => by cases h⟩
theorem zf_Model_160 (hw : z_Wd w) : z_fld w "ThingStreamModel" 160 7 16 := ⟨zR7, zT7, 40, rfl, by decide, zu_7 hw, Or.inl (zw_707 hw)⟩
theorem zp_Model_160 (hw : z_Wd w) : z_fldP w "ThingStreamModel" 160 7 16 (.int) false := ⟨zR7, zT7, 40, zt7, rfl, by decide, zu_7 hw, Or.inl (zw_707 hw), zt7_ok, zn7, zt7_ok 16 (by decide), rfl, fun h => by cases h⟩
theorem zf_Model_166 (hw : z_Wd w) : z_fld w "ThingStreamModel" 166 7 20 := ⟨zR7, zT7, 40, rfl, by decide, zu_7 hw, Or.inl (zw_711 hw)⟩
theorem zp_Model_166 (hw : z_Wd w) : z_fldP w "ThingStreamModel" 166 7 20 (.int) false := ⟨zR7, zT7, 40, zt7, rfl, by decide, zu_7 hw, Or.inl (zw_711 hw), zt7_ok, zn7, zt7_ok 20 (by decide), rfl, fun h => by cases h⟩
theorem zf_Model_178 (hw : z_Wd w) : z_fld w "ThingStreamModel" 178 7 24 := ⟨zR7, zT7, 40, rfl, by decide, zu_7 hw, Or.inl (zw_715 hw)⟩
theorem zp_Model_178 (hw : z_Wd w) : z_fldP w "ThingStreamModel" 178 7 24 (.int) false := ⟨zR7, zT7, 40, zt7, rfl, by decide, zu_7 hw, Or.inl (zw_715 hw), zt7_ok, zn7, zt7_ok 24 (by decide), rfl, fun h => by cases h⟩
theorem zf_Model_181 (hw : z_Wd w) : z_fld w "ThingStreamModel" 181 7 23 := ⟨zR7, zT7, 40, rfl, by decide, zu_7 hw, Or.inl (zw_714 hw)⟩
theorem zp_Model_181 (hw : z_Wd w) : z_fldP w "ThingStreamModel" 181 7 23 (.int) false := ⟨zR7, zT7, 40, zt7, rfl, by decide, zu_7 hw, Or.inl (zw_714 hw), zt7_ok, zn7, zt7_ok 23 (by decide), rfl, fun h => by cases h⟩
theorem zf_Model_202 (hw : z_Wd w) : z_fld w "ThingStreamModel" 202 7 39 := ⟨zR7, zT7, 40, rfl, by decide, zu_7 hw, Or.inl (zw_730 hw)⟩
theorem zp_Model_202 (hw : z_Wd w) : z_fldP w "ThingStreamModel" 202 7 39 (.int) false := ⟨zR7, zT7, 40, zt7, rfl, by decide, zu_7 hw, Or.inl (zw_730 hw), zt7_ok, zn7, zt7_ok 39 (by decide), rfl, fun h => by cases h⟩
theorem zf_Model_205 (hw : z_Wd w) : z_fld w "ThingStreamModel" 205 7 25 := ⟨zR7, zT7, 40, rfl, by decide, zu_7 hw, Or.inl (zw_716 hw)⟩
theorem zp_Model_205 (hw : z_Wd w) : z_fldP w "ThingStreamModel" 205 7 25 (.int) false := ⟨zR7, zT7, 40, zt7, rfl, by decide, zu_7 hw, Or.inl (zw_716 hw), zt7_ok, zn7, zt7_ok 25 (by decide), rfl, fun h => by cases h⟩
theorem zf_Model_218 (hw : z_Wd w) : z_fld w "ThingStreamModel" 218 7 33 := ⟨zR7, zT7, 40, rfl, by decide, zu_7 hw, Or.inl (zw_724 hw)⟩
theorem zp_Model_218 (hw : z_Wd w) : z_fldP w "ThingStreamModel" 218 7 33 (.int) false := ⟨zR7, zT7, 40, zt7, rfl, by decide, zu_7 hw, Or.inl (zw_724 hw), zt7_ok, zn7, zt7_ok 33 (by decide), rfl, fun h => by cases h⟩
theorem zN_TS_9 (hw : z_Wd w) : z_newF w "ThingStream" 9 3 2 [.null, .null] := ⟨zR3, zT3, zt3, rfl, zu_3 hw, hw.2.1 _ (z_mem 24 (by decide +kernel)) rfl, hw.2.1 _ (z_mem 25 (by decide +kernel)) rfl, hw.2.1 _ (z_mem 2 (by decide +kernel)) rfl, zt3_ok, by decide +kernel, fun _ => rfl, z_okd rfl⟩
theorem zN_TS_21 (hw : z_Wd w) : z_newF w "ThingStream" 21 0 3 [.null, .int 0, .int 0] := ⟨zR0, zT0, zt0, rfl, zu_0 hw, hw.2.1 _ (z_mem 110 (by decide +kernel)) rfl, hw.2.1 _ (z_mem 111 (by decide +kernel)) rfl, hw.2.1 _ (z_mem 5 (by decide +kernel)) rfl, zt0_ok, by decide +kernel, fun _ => rfl, z_okd rfl⟩
theorem zN_TS_28 (hw : z_Wd w) : z_newF w "ThingStream" 28 5 5 [.null, .null, .null, .null, .int 0] := ⟨zR5, zT5, zt5, rfl, zu_5 hw, hw.2.1 _ (z_mem 131 (by decide +kernel)) rfl, hw.2.1 _ (z_mem 132 (by decide +kernel)) rfl, hw.2.1 _ (z_mem 6 (by decide +kernel)) rfl, zt5_ok, by decide +kernel, fun _ => rfl, z_okd rfl⟩
theorem zN_TS_37 (hw : z_Wd w) : z_newF w "ThingStream" 37 1 11 [.null, .null, .null, .null, .null, .null, .null, .int 0, .int 0, .int 0, .int 0] := ⟨zR1, zT1, zt1, rfl, zu_1 hw, hw.2.1 _ (z_mem 153 (by decide +kernel)) rfl, hw.2.1 _ (z_mem 154 (by decide +kernel)) rfl, hw.2.1 _ (z_mem 7 (by decide +kernel)) rfl, zt1_ok, by decide +kernel, fun _ => rfl, z_okd rfl⟩
theorem zN_Reader_31 (hw : z_Wd w) : z_newF w "ThingStream$Reader" 31 2 7 [.null, .null, .null, .null, .null, .null, .null] := ⟨zR2, zT2, zt2, rfl, zu_2 hw, hw.2.1 _ (z_mem 168 (by decide +kernel)) rfl, hw.2.1 _ (z_mem 31 (by decide +kernel)) rfl, hw.2.1 _ (z_mem 3 (by decide +kernel)) rfl, zt2_ok, by decide +kernel, fun _ => rfl, z_okd rfl⟩
theorem zN_Reader_46 (hw : z_Wd w) : z_newF w "ThingStream$Reader" 46 4 4 [.null, .null, .null, .int 0] := ⟨zR4, zT4, zt4, rfl, zu_4 hw, hw.2.1 _ (z_mem 170 (by decide +kernel)) rfl, hw.2.1 _ (z_mem 68 (by decide +kernel)) rfl, hw.2.1 _ (z_mem 4 (by decide +kernel)) rfl, zt4_ok, by decide +kernel, fun _ => rfl, z_okd rfl⟩
theorem zN_Side_9 (hw : z_Wd w) : z_newF w "ThingStream$Side" 9 2 7 [.null, .null, .null, .null, .null, .null, .null] := ⟨zR2, zT2, zt2, rfl, zu_2 hw, hw.2.1 _ (z_mem 30 (by decide +kernel)) rfl, hw.2.1 _ (z_mem 31 (by decide +kernel)) rfl, hw.2.1 _ (z_mem 3 (by decide +kernel)) rfl, zt2_ok, by decide +kernel, fun _ => rfl, z_okd rfl⟩
theorem zN_Side_20 (hw : z_Wd w) : z_newF w "ThingStream$Side" 20 4 4 [.null, .null, .null, .int 0] := ⟨zR4, zT4, zt4, rfl, zu_4 hw, hw.2.1 _ (z_mem 67 (by decide +kernel)) rfl, hw.2.1 _ (z_mem 68 (by decide +kernel)) rfl, hw.2.1 _ (z_mem 4 (by decide +kernel)) rfl, zt4_ok, by decide +kernel, fun _ => rfl, z_okd rfl⟩
theorem zN_Law_8 (hw : z_Wd w) : z_newF w "ThingStreamLaw" 8 6 5 [.null, .null, .null, .null, .null] := ⟨zR6, zT6, zt6, rfl, zu_6 hw, hw.2.1 _ (z_mem 16 (by decide +kernel)) rfl, hw.2.1 _ (z_mem 17 (by decide +kernel)) rfl, hw.2.1 _ (z_mem 1 (by decide +kernel)) rfl, zt6_ok, by decide +kernel, fun _ => rfl, z_okd rfl⟩
theorem zN_Law_20 (hw : z_Wd w) : z_newF w "ThingStreamLaw" 20 7 40 [.int 0, .null, .null, .null, .null, .null, .null, .null, .null, .null, .null, .null, .int 0, .null, .null, .int 0, .int 0, .null, .null, .null, .int 0, .null, .null, .int 0, .int 0, .int 0, .null, .null, .null, .null, .null, .null, .null, .int 0, .null, .null, .null, .null, .null, .int 0] := ⟨zR7, zT7, zt7, rfl, zu_7 hw, hw.2.1 _ (z_mem 685 (by decide +kernel)) rfl, hw.2.1 _ (z_mem 686 (by decide +kernel)) rfl, hw.2.1 _ (z_mem 8 (by decide +kernel)) rfl, zt7_ok, by decide +kernel, fun _ => rfl, z_okd rfl⟩
end ZL
end
section
section ZG
variable {w : z_W}
def g_Bytes_init_4 : z_T := (zq 5 (zi_aload 0 5) (zq 8 (zi_sipush 1000 8) (zq 10 (zi_newa 0 4 (fun n => (n, .inl fun _ => 0)) 10) (zq 13 (zi_put 0 0 (.array .int) 13) (zi_vret)))))
theorem gS_Bytes_init_4 (hw : z_Wd w) : z_S w zY_Bytes_init 4 g_Bytes_init_4 := (zq_S (zs_aload_n (k9 := 0) (by decide +kernel) rfl) (zq_S (zs_sipush (n := 1000) (by decide +kernel) (by decide)) (zq_S (zs_newi hw.1 (by decide +kernel) (zw_66 hw)) (zq_S (zs_put hw.1 (by decide +kernel) (zp_Bytes_9 hw) (fun _ => rfl)) (zs_vret (by decide +kernel) rfl)))))
def g_Bytes_init_0 : z_T := (zi_aload 0 1)
theorem gS_Bytes_init_0 (hw : z_Wd w) : z_S w zY_Bytes_init 0 g_Bytes_init_0 := (zs_aload_n (k9 := 0) (by decide +kernel) rfl)
def g_Bytes_has_17 : z_T := (zi_zret)
theorem gS_Bytes_has_17 (hw : z_Wd w) : z_S w zY_Bytes_has 17 g_Bytes_has_17 := (zs_zret (by decide +kernel) rfl)
def g_Bytes_has_16 : z_T := (zq 17 (zi_iconst 0 17) g_Bytes_has_17)
theorem gS_Bytes_has_16 (hw : z_Wd w) : z_S w zY_Bytes_has 16 g_Bytes_has_16 := (zq_S (zs_iconst (n := 0) (by decide +kernel) (by decide)) (gS_Bytes_has_17 hw))
def g_Bytes_has_0 : z_T := (zq 1 (zi_iload 1 1) (zb 4 16 (zi_if_lt 16 4) (zq 5 (zi_iload 1 5) (zq 6 (zi_aload 0 6) (zq 9 (zi_get 0 1 9) (zb 12 16 (zi_icmp_ge 16 12) (zq 13 (zi_iconst 1 13) (zq 17 (zi_goto 17) g_Bytes_has_17)) g_Bytes_has_16)))) g_Bytes_has_16))
theorem gS_Bytes_has_0 (hw : z_Wd w) : z_S w zY_Bytes_has 0 g_Bytes_has_0 := (zq_S (zs_iload_n (k9 := 1) (by decide +kernel) rfl) (zb_S (zs_if_lt (off := 15) (by decide +kernel) (by decide)) (zq_S (zs_iload_n (k9 := 1) (by decide +kernel) rfl) (zq_S (zs_aload_n (k9 := 0) (by decide +kernel) rfl) (zq_S (zs_get hw.1 (by decide +kernel) (zf_Bytes_15 hw)) (zb_S (zs_icmp_ge (off := 7) (by decide +kernel) (by decide)) (zq_S (zs_iconst (n := 1) (by decide +kernel) (by decide)) (zq_S (zs_goto (off := 4) (by decide +kernel) (by decide)) (gS_Bytes_has_17 hw))) (gS_Bytes_has_16 hw))))) (gS_Bytes_has_16 hw)))
def g_Bytes_isFull_15 : z_T := (zi_zret)
theorem gS_Bytes_isFull_15 (hw : z_Wd w) : z_S w zY_Bytes_isFull 15 g_Bytes_isFull_15 := (zs_zret (by decide +kernel) rfl)
def g_Bytes_isFull_14 : z_T := (zq 15 (zi_iconst 0 15) g_Bytes_isFull_15)
theorem gS_Bytes_isFull_14 (hw : z_Wd w) : z_S w zY_Bytes_isFull 14 g_Bytes_isFull_14 := (zq_S (zs_iconst (n := 0) (by decide +kernel) (by decide)) (gS_Bytes_isFull_15 hw))
def g_Bytes_isFull_0 : z_T := (zq 1 (zi_aload 0 1) (zq 4 (zi_get 0 1 4) (zq 7 (zi_sipush 1000 7) (zb 10 14 (zi_icmp_lt 14 10) (zq 11 (zi_iconst 1 11) (zq 15 (zi_goto 15) g_Bytes_isFull_15)) g_Bytes_isFull_14))))
theorem gS_Bytes_isFull_0 (hw : z_Wd w) : z_S w zY_Bytes_isFull 0 g_Bytes_isFull_0 := (zq_S (zs_aload_n (k9 := 0) (by decide +kernel) rfl) (zq_S (zs_get hw.1 (by decide +kernel) (zf_Bytes_15 hw)) (zq_S (zs_sipush (n := 1000) (by decide +kernel) (by decide)) (zb_S (zs_icmp_lt (off := 7) (by decide +kernel) (by decide)) (zq_S (zs_iconst (n := 1) (by decide +kernel) (by decide)) (zq_S (zs_goto (off := 4) (by decide +kernel) (by decide)) (gS_Bytes_isFull_15 hw))) (gS_Bytes_isFull_14 hw)))))
def g_Bytes_removeAll_0 : z_T := (zq 1 (zi_aload 0 1) (zq 2 (zi_iconst 0 2) (zq 5 (zi_put 0 1 (.int) 5) (zq 6 (zi_aload 0 6) (zq 7 (zi_iconst 0 7) (zq 10 (zi_put 0 2 (.boolean) 10) (zi_vret)))))))
theorem gS_Bytes_removeAll_0 (hw : z_Wd w) : z_S w zY_Bytes_removeAll 0 g_Bytes_removeAll_0 := (zq_S (zs_aload_n (k9 := 0) (by decide +kernel) rfl) (zq_S (zs_iconst (n := 0) (by decide +kernel) (by decide)) (zq_S (zs_put hw.1 (by decide +kernel) (zp_Bytes_15 hw) (fun h => by cases h)) (zq_S (zs_aload_n (k9 := 0) (by decide +kernel) rfl) (zq_S (zs_iconst (n := 0) (by decide +kernel) (by decide)) (zq_S (zs_put hw.1 (by decide +kernel) (zp_Bytes_19 hw) (fun h => by cases h)) (zs_vret (by decide +kernel) rfl)))))))
def g_Bytes_append_13 : z_T := (zq 14 (zi_aload 0 14) (zq 17 (zi_get 0 0 17) (zq 18 (zi_aload 0 18) (zq 21 (zi_get 0 1 21) (zq 22 (zi_iload 1 22) (zq 25 (zi_sipush 255 25) (zq 26 (zi_iand 26) (zq 27 (zi_iast 27) (zq 28 (zi_aload 0 28) (zq 29 (zi_dup 29) (zq 32 (zi_get 0 1 32) (zq 33 (zi_iconst 1 33) (zq 34 (zi_iadd 34) (zq 37 (zi_put 0 1 (.int) 37) (zi_vret)))))))))))))))
theorem gS_Bytes_append_13 (hw : z_Wd w) : z_S w zY_Bytes_append 13 g_Bytes_append_13 := (zq_S (zs_aload_n (k9 := 0) (by decide +kernel) rfl) (zq_S (zs_get hw.1 (by decide +kernel) (zf_Bytes_9 hw)) (zq_S (zs_aload_n (k9 := 0) (by decide +kernel) rfl) (zq_S (zs_get hw.1 (by decide +kernel) (zf_Bytes_15 hw)) (zq_S (zs_iload_n (k9 := 1) (by decide +kernel) rfl) (zq_S (zs_sipush (n := 255) (by decide +kernel) (by decide)) (zq_S (zs_iand (by decide +kernel)) (zq_S (zs_iast hw.1 (by decide +kernel)) (zq_S (zs_aload_n (k9 := 0) (by decide +kernel) rfl) (zq_S (zs_dup (by decide +kernel)) (zq_S (zs_get hw.1 (by decide +kernel) (zf_Bytes_15 hw)) (zq_S (zs_iconst (n := 1) (by decide +kernel) (by decide)) (zq_S (zs_iadd (by decide +kernel)) (zq_S (zs_put hw.1 (by decide +kernel) (zp_Bytes_15 hw) (fun h => by cases h)) (zs_vret (by decide +kernel) rfl)))))))))))))))
def g_Bytes_append_4 : z_T := (zb 7 13 (zi_if_eq 13 7) (zq 8 (zi_aload 0 8) (zq 9 (zi_iconst 1 9) (zq 12 (zi_put 0 2 (.boolean) 12) (zi_vret)))) g_Bytes_append_13)
theorem gS_Bytes_append_4 (hw : z_Wd w) : z_S w zY_Bytes_append 4 g_Bytes_append_4 := (zb_S (zs_if_eq (off := 9) (by decide +kernel) (by decide)) (zq_S (zs_aload_n (k9 := 0) (by decide +kernel) rfl) (zq_S (zs_iconst (n := 1) (by decide +kernel) (by decide)) (zq_S (zs_put hw.1 (by decide +kernel) (zp_Bytes_19 hw) (fun h => by cases h)) (zs_vret (by decide +kernel) rfl)))) (gS_Bytes_append_13 hw))
def g_Bytes_append_0 : z_T := (zi_aload 0 1)
theorem gS_Bytes_append_0 (hw : z_Wd w) : z_S w zY_Bytes_append 0 g_Bytes_append_0 := (zs_aload_n (k9 := 0) (by decide +kernel) rfl)
end ZG
end
section
section ZG
variable {w : z_W}
def g_Shapes_init_4 : z_T := (zq 5 (zi_aload 0 5) (zq 6 (zi_iload 1 6) (zq 8 (zi_newa 2 1 (fun n => (n, .inl fun _ => 0)) 8) (zq 11 (zi_put 2 0 (.array .boolean) 11) (zq 12 (zi_aload 0 12) (zq 13 (zi_iload 1 13) (zq 15 (zi_newa 0 4 (fun n => (n, .inl fun _ => 0)) 15) (zq 18 (zi_put 2 1 (.array .int) 18) (zq 19 (zi_aload 0 19) (zq 20 (zi_iload 1 20) (zq 22 (zi_newa 0 4 (fun n => (n, .inl fun _ => 0)) 22) (zq 25 (zi_put 2 2 (.array .int) 25) (zq 26 (zi_aload 0 26) (zq 27 (zi_iload 1 27) (zq 29 (zi_newa 0 4 (fun n => (n, .inl fun _ => 0)) 29) (zq 32 (zi_put 2 3 (.array .int) 32) (zq 33 (zi_aload 0 33) (zq 34 (zi_iload 1 34) (zq 36 (zi_newa 0 4 (fun n => (n, .inl fun _ => 0)) 36) (zq 39 (zi_put 2 4 (.array .int) 39) (zq 40 (zi_aload 0 40) (zq 41 (zi_iload 1 41) (zq 42 (zi_iconst 4 42) (zq 43 (zi_imul 43) (zq 45 (zi_newa 0 4 (fun n => (n, .inl fun _ => 0)) 45) (zq 48 (zi_put 2 5 (.array .int) 48) (zq 49 (zi_aload 0 49) (zq 50 (zi_iload 1 50) (zq 51 (zi_iconst 4 51) (zq 52 (zi_imul 52) (zq 54 (zi_newa 0 4 (fun n => (n, .inl fun _ => 0)) 54) (zq 57 (zi_put 2 6 (.array .int) 57) (zi_vret)))))))))))))))))))))))))))))))))
theorem gS_Shapes_init_4 (hw : z_Wd w) : z_S w zY_Shapes_init 4 g_Shapes_init_4 := (zq_S (zs_aload_n (k9 := 0) (by decide +kernel) rfl) (zq_S (zs_iload_n (k9 := 1) (by decide +kernel) rfl) (zq_S (zs_newz hw.1 (by decide +kernel) (zw_65 hw)) (zq_S (zs_put hw.1 (by decide +kernel) (zp_Shapes_9 hw) (fun _ => rfl)) (zq_S (zs_aload_n (k9 := 0) (by decide +kernel) rfl) (zq_S (zs_iload_n (k9 := 1) (by decide +kernel) rfl) (zq_S (zs_newi hw.1 (by decide +kernel) (zw_66 hw)) (zq_S (zs_put hw.1 (by decide +kernel) (zp_Shapes_15 hw) (fun _ => rfl)) (zq_S (zs_aload_n (k9 := 0) (by decide +kernel) rfl) (zq_S (zs_iload_n (k9 := 1) (by decide +kernel) rfl) (zq_S (zs_newi hw.1 (by decide +kernel) (zw_66 hw)) (zq_S (zs_put hw.1 (by decide +kernel) (zp_Shapes_19 hw) (fun _ => rfl)) (zq_S (zs_aload_n (k9 := 0) (by decide +kernel) rfl) (zq_S (zs_iload_n (k9 := 1) (by decide +kernel) rfl) (zq_S (zs_newi hw.1 (by decide +kernel) (zw_66 hw)) (zq_S (zs_put hw.1 (by decide +kernel) (zp_Shapes_22 hw) (fun _ => rfl)) (zq_S (zs_aload_n (k9 := 0) (by decide +kernel) rfl) (zq_S (zs_iload_n (k9 := 1) (by decide +kernel) rfl) (zq_S (zs_newi hw.1 (by decide +kernel) (zw_66 hw)) (zq_S (zs_put hw.1 (by decide +kernel) (zp_Shapes_25 hw) (fun _ => rfl)) (zq_S (zs_aload_n (k9 := 0) (by decide +kernel) rfl) (zq_S (zs_iload_n (k9 := 1) (by decide +kernel) rfl) (zq_S (zs_iconst (n := 4) (by decide +kernel) (by decide)) (zq_S (zs_imul (by decide +kernel)) (zq_S (zs_newi hw.1 (by decide +kernel) (zw_66 hw)) (zq_S (zs_put hw.1 (by decide +kernel) (zp_Shapes_28 hw) (fun _ => rfl)) (zq_S (zs_aload_n (k9 := 0) (by decide +kernel) rfl) (zq_S (zs_iload_n (k9 := 1) (by decide +kernel) rfl) (zq_S (zs_iconst (n := 4) (by decide +kernel) (by decide)) (zq_S (zs_imul (by decide +kernel)) (zq_S (zs_newi hw.1 (by decide +kernel) (zw_66 hw)) (zq_S (zs_put hw.1 (by decide +kernel) (zp_Shapes_31 hw) (fun _ => rfl)) (zs_vret (by decide +kernel) rfl)))))))))))))))))))))))))))))))))
def g_Shapes_init_0 : z_T := (zi_aload 0 1)
theorem gS_Shapes_init_0 (hw : z_Wd w) : z_S w zY_Shapes_init 0 g_Shapes_init_0 := (zs_aload_n (k9 := 0) (by decide +kernel) rfl)
def g_Shapes_has_27 : z_T := (zi_zret)
theorem gS_Shapes_has_27 (hw : z_Wd w) : z_S w zY_Shapes_has 27 g_Shapes_has_27 := (zs_zret (by decide +kernel) rfl)
def g_Shapes_has_26 : z_T := (zq 27 (zi_iconst 0 27) g_Shapes_has_27)
theorem gS_Shapes_has_26 (hw : z_Wd w) : z_S w zY_Shapes_has 26 g_Shapes_has_26 := (zq_S (zs_iconst (n := 0) (by decide +kernel) (by decide)) (gS_Shapes_has_27 hw))
def g_Shapes_has_0 : z_T := (zq 1 (zi_iload 1 1) (zb 4 26 (zi_if_lt 26 4) (zq 5 (zi_iload 1 5) (zq 6 (zi_aload 0 6) (zq 9 (zi_get 2 0 9) (zq 10 (zi_alen 10) (zb 13 26 (zi_icmp_ge 26 13) (zq 14 (zi_aload 0 14) (zq 17 (zi_get 2 0 17) (zq 18 (zi_iload 1 18) (zq 19 (zi_zald 19) (zb 22 26 (zi_if_eq 26 22) (zq 23 (zi_iconst 1 23) (zq 27 (zi_goto 27) g_Shapes_has_27)) g_Shapes_has_26))))) g_Shapes_has_26))))) g_Shapes_has_26))
theorem gS_Shapes_has_0 (hw : z_Wd w) : z_S w zY_Shapes_has 0 g_Shapes_has_0 := (zq_S (zs_iload_n (k9 := 1) (by decide +kernel) rfl) (zb_S (zs_if_lt (off := 25) (by decide +kernel) (by decide)) (zq_S (zs_iload_n (k9 := 1) (by decide +kernel) rfl) (zq_S (zs_aload_n (k9 := 0) (by decide +kernel) rfl) (zq_S (zs_get hw.1 (by decide +kernel) (zf_Shapes_9 hw)) (zq_S (zs_alen hw.1 (by decide +kernel)) (zb_S (zs_icmp_ge (off := 16) (by decide +kernel) (by decide)) (zq_S (zs_aload_n (k9 := 0) (by decide +kernel) rfl) (zq_S (zs_get hw.1 (by decide +kernel) (zf_Shapes_9 hw)) (zq_S (zs_iload_n (k9 := 1) (by decide +kernel) rfl) (zq_S (zs_zald hw.1 (by decide +kernel)) (zb_S (zs_if_eq (off := 7) (by decide +kernel) (by decide)) (zq_S (zs_iconst (n := 1) (by decide +kernel) (by decide)) (zq_S (zs_goto (off := 4) (by decide +kernel) (by decide)) (gS_Shapes_has_27 hw))) (gS_Shapes_has_26 hw)))))) (gS_Shapes_has_26 hw)))))) (gS_Shapes_has_26 hw)))
def g_Shapes_begin_0 : z_T := (zq 1 (zi_aload 0 1) (zq 4 (zi_get 2 0 4) (zq 5 (zi_iload 1 5) (zq 6 (zi_iconst 1 6) (zq 7 (zi_zast 7) (zq 8 (zi_aload 0 8) (zq 11 (zi_get 2 1 11) (zq 12 (zi_iload 1 12) (zq 13 (zi_iload 2 13) (zq 14 (zi_iast 14) (zq 15 (zi_aload 0 15) (zq 18 (zi_get 2 2 18) (zq 19 (zi_iload 1 19) (zq 20 (zi_iload 3 20) (zq 21 (zi_iast 21) (zq 22 (zi_aload 0 22) (zq 25 (zi_get 2 3 25) (zq 26 (zi_iload 1 26) (zq 28 (zi_iload 4 28) (zq 29 (zi_iast 29) (zq 30 (zi_aload 0 30) (zq 33 (zi_get 2 4 33) (zq 34 (zi_iload 1 34) (zq 35 (zi_iconst 0 35) (zq 36 (zi_iast 36) (zi_vret))))))))))))))))))))))))))
theorem gS_Shapes_begin_0 (hw : z_Wd w) : z_S w zY_Shapes_begin 0 g_Shapes_begin_0 := (zq_S (zs_aload_n (k9 := 0) (by decide +kernel) rfl) (zq_S (zs_get hw.1 (by decide +kernel) (zf_Shapes_9 hw)) (zq_S (zs_iload_n (k9 := 1) (by decide +kernel) rfl) (zq_S (zs_iconst (n := 1) (by decide +kernel) (by decide)) (zq_S (zs_zast hw.1 (by decide +kernel)) (zq_S (zs_aload_n (k9 := 0) (by decide +kernel) rfl) (zq_S (zs_get hw.1 (by decide +kernel) (zf_Shapes_15 hw)) (zq_S (zs_iload_n (k9 := 1) (by decide +kernel) rfl) (zq_S (zs_iload_n (k9 := 2) (by decide +kernel) rfl) (zq_S (zs_iast hw.1 (by decide +kernel)) (zq_S (zs_aload_n (k9 := 0) (by decide +kernel) rfl) (zq_S (zs_get hw.1 (by decide +kernel) (zf_Shapes_19 hw)) (zq_S (zs_iload_n (k9 := 1) (by decide +kernel) rfl) (zq_S (zs_iload_n (k9 := 3) (by decide +kernel) rfl) (zq_S (zs_iast hw.1 (by decide +kernel)) (zq_S (zs_aload_n (k9 := 0) (by decide +kernel) rfl) (zq_S (zs_get hw.1 (by decide +kernel) (zf_Shapes_22 hw)) (zq_S (zs_iload_n (k9 := 1) (by decide +kernel) rfl) (zq_S (zs_iload (by decide +kernel)) (zq_S (zs_iast hw.1 (by decide +kernel)) (zq_S (zs_aload_n (k9 := 0) (by decide +kernel) rfl) (zq_S (zs_get hw.1 (by decide +kernel) (zf_Shapes_25 hw)) (zq_S (zs_iload_n (k9 := 1) (by decide +kernel) rfl) (zq_S (zs_iconst (n := 0) (by decide +kernel) (by decide)) (zq_S (zs_iast hw.1 (by decide +kernel)) (zs_vret (by decide +kernel) rfl))))))))))))))))))))))))))
def g_Shapes_mayAddField_52 : z_T := (zi_zret)
theorem gS_Shapes_mayAddField_52 (hw : z_Wd w) : z_S w zY_Shapes_mayAddField 52 g_Shapes_mayAddField_52 := (zs_zret (by decide +kernel) rfl)
def g_Shapes_mayAddField_51 : z_T := (zq 52 (zi_iconst 0 52) g_Shapes_mayAddField_52)
theorem gS_Shapes_mayAddField_51 (hw : z_Wd w) : z_S w zY_Shapes_mayAddField 51 g_Shapes_mayAddField_51 := (zq_S (zs_iconst (n := 0) (by decide +kernel) (by decide)) (gS_Shapes_mayAddField_52 hw))
def g_Shapes_mayAddField_43 : z_T := (zq 44 (zi_iconst (-1) 44) (zb 47 51 (zi_icmp_ne 51 47) (zq 48 (zi_iconst 1 48) (zq 52 (zi_goto 52) g_Shapes_mayAddField_52)) g_Shapes_mayAddField_51))
theorem gS_Shapes_mayAddField_43 (hw : z_Wd w) : z_S w zY_Shapes_mayAddField 43 g_Shapes_mayAddField_43 := (zq_S (zs_iconst (n := (-1)) (by decide +kernel) (by decide)) (zb_S (zs_icmp_ne (off := 7) (by decide +kernel) (by decide)) (zq_S (zs_iconst (n := 1) (by decide +kernel) (by decide)) (zq_S (zs_goto (off := 4) (by decide +kernel) (by decide)) (gS_Shapes_mayAddField_52 hw))) (gS_Shapes_mayAddField_51 hw)))
def g_Shapes_mayAddField_5 : z_T := (zb 8 51 (zi_if_eq 51 8) (zq 9 (zi_aload 0 9) (zq 12 (zi_get 2 4 12) (zq 13 (zi_iload 1 13) (zq 14 (zi_iald 14) (zq 15 (zi_iconst 4 15) (zb 18 51 (zi_icmp_ge 51 18) (zq 19 (zi_iload 2 19) (zb 22 51 (zi_if_lt 51 22) (zq 23 (zi_iload 2 23) (zq 25 (zi_bipush 10 25) (zb 28 51 (zi_icmp_ge 51 28) (zq 29 (zi_iload 3 29) (zb 32 51 (zi_if_lt 51 32) (zq 33 (zi_iload 3 33) (zq 34 (zi_iconst 5 34) (zb 37 51 (zi_icmp_ge 51 37) (zq 38 (zi_aload 0 38) (zq 39 (zi_iload 1 39) (zi_iload 2 40))) g_Shapes_mayAddField_51))) g_Shapes_mayAddField_51)) g_Shapes_mayAddField_51))) g_Shapes_mayAddField_51)) g_Shapes_mayAddField_51)))))) g_Shapes_mayAddField_51)
theorem gS_Shapes_mayAddField_5 (hw : z_Wd w) : z_S w zY_Shapes_mayAddField 5 g_Shapes_mayAddField_5 := (zb_S (zs_if_eq (off := 46) (by decide +kernel) (by decide)) (zq_S (zs_aload_n (k9 := 0) (by decide +kernel) rfl) (zq_S (zs_get hw.1 (by decide +kernel) (zf_Shapes_25 hw)) (zq_S (zs_iload_n (k9 := 1) (by decide +kernel) rfl) (zq_S (zs_iald hw.1 (by decide +kernel)) (zq_S (zs_iconst (n := 4) (by decide +kernel) (by decide)) (zb_S (zs_icmp_ge (off := 36) (by decide +kernel) (by decide)) (zq_S (zs_iload_n (k9 := 2) (by decide +kernel) rfl) (zb_S (zs_if_lt (off := 32) (by decide +kernel) (by decide)) (zq_S (zs_iload_n (k9 := 2) (by decide +kernel) rfl) (zq_S (zs_bipush (n := 10) (by decide +kernel) (by decide)) (zb_S (zs_icmp_ge (off := 26) (by decide +kernel) (by decide)) (zq_S (zs_iload_n (k9 := 3) (by decide +kernel) rfl) (zb_S (zs_if_lt (off := 22) (by decide +kernel) (by decide)) (zq_S (zs_iload_n (k9 := 3) (by decide +kernel) rfl) (zq_S (zs_iconst (n := 5) (by decide +kernel) (by decide)) (zb_S (zs_icmp_ge (off := 17) (by decide +kernel) (by decide)) (zq_S (zs_aload_n (k9 := 0) (by decide +kernel) rfl) (zq_S (zs_iload_n (k9 := 1) (by decide +kernel) rfl) (zs_iload_n (k9 := 2) (by decide +kernel) rfl))) (gS_Shapes_mayAddField_51 hw)))) (gS_Shapes_mayAddField_51 hw))) (gS_Shapes_mayAddField_51 hw)))) (gS_Shapes_mayAddField_51 hw))) (gS_Shapes_mayAddField_51 hw))))))) (gS_Shapes_mayAddField_51 hw))
def g_Shapes_mayAddField_0 : z_T := (zq 1 (zi_aload 0 1) (zi_iload 1 2))
theorem gS_Shapes_mayAddField_0 (hw : z_Wd w) : z_S w zY_Shapes_mayAddField 0 g_Shapes_mayAddField_0 := (zq_S (zs_aload_n (k9 := 0) (by decide +kernel) rfl) (zs_iload_n (k9 := 1) (by decide +kernel) rfl))
def g_Shapes_addField_90 : z_T := (zq 91 (zi_aload 0 91) (zq 94 (zi_get 2 5 94) (zq 96 (zi_iload 5 96) (zq 97 (zi_iload 2 97) (zq 98 (zi_iast 98) (zq 99 (zi_aload 0 99) (zq 102 (zi_get 2 6 102) (zq 104 (zi_iload 5 104) (zq 105 (zi_iload 3 105) (zq 106 (zi_iast 106) (zq 107 (zi_aload 0 107) (zq 110 (zi_get 2 4 110) (zq 111 (zi_iload 1 111) (zq 112 (zi_dup2 112) (zq 113 (zi_iald 113) (zq 114 (zi_iconst 1 114) (zq 115 (zi_iadd 115) (zq 116 (zi_iast 116) (zi_vret)))))))))))))))))))
theorem gS_Shapes_addField_90 (hw : z_Wd w) : z_S w zY_Shapes_addField 90 g_Shapes_addField_90 := (zq_S (zs_aload_n (k9 := 0) (by decide +kernel) rfl) (zq_S (zs_get hw.1 (by decide +kernel) (zf_Shapes_28 hw)) (zq_S (zs_iload (by decide +kernel)) (zq_S (zs_iload_n (k9 := 2) (by decide +kernel) rfl) (zq_S (zs_iast hw.1 (by decide +kernel)) (zq_S (zs_aload_n (k9 := 0) (by decide +kernel) rfl) (zq_S (zs_get hw.1 (by decide +kernel) (zf_Shapes_31 hw)) (zq_S (zs_iload (by decide +kernel)) (zq_S (zs_iload_n (k9 := 3) (by decide +kernel) rfl) (zq_S (zs_iast hw.1 (by decide +kernel)) (zq_S (zs_aload_n (k9 := 0) (by decide +kernel) rfl) (zq_S (zs_get hw.1 (by decide +kernel) (zf_Shapes_25 hw)) (zq_S (zs_iload_n (k9 := 1) (by decide +kernel) rfl) (zq_S (zs_dup2 (by decide +kernel)) (zq_S (zs_iald hw.1 (by decide +kernel)) (zq_S (zs_iconst (n := 1) (by decide +kernel) (by decide)) (zq_S (zs_iadd (by decide +kernel)) (zq_S (zs_iast hw.1 (by decide +kernel)) (zs_vret (by decide +kernel) rfl)))))))))))))))))))
def g_Shapes_addField_49 : z_T := (zq 52 (zi_icmp_le 90 52) (zq 53 (zi_aload 0 53) (zq 56 (zi_get 2 5 56) (zq 58 (zi_iload 5 58) (zq 59 (zi_aload 0 59) (zq 62 (zi_get 2 5 62) (zq 64 (zi_iload 5 64) (zq 65 (zi_iconst 1 65) (zq 66 (zi_isub 66) (zq 67 (zi_iald 67) (zq 68 (zi_iast 68) (zq 69 (zi_aload 0 69) (zq 72 (zi_get 2 6 72) (zq 74 (zi_iload 5 74) (zq 75 (zi_aload 0 75) (zq 78 (zi_get 2 6 78) (zq 80 (zi_iload 5 80) (zq 81 (zi_iconst 1 81) (zq 82 (zi_isub 82) (zq 83 (zi_iald 83) (zq 84 (zi_iast 84) (zq 87 (zi_iinc 5 (-1) 87) (zi_goto 16)))))))))))))))))))))))
theorem gS_Shapes_addField_49 (hw : z_Wd w) : z_S w zY_Shapes_addField 49 g_Shapes_addField_49 := (zq_S (zs_icmp_le (off := 41) (by decide +kernel) (by decide)) (zq_S (zs_aload_n (k9 := 0) (by decide +kernel) rfl) (zq_S (zs_get hw.1 (by decide +kernel) (zf_Shapes_28 hw)) (zq_S (zs_iload (by decide +kernel)) (zq_S (zs_aload_n (k9 := 0) (by decide +kernel) rfl) (zq_S (zs_get hw.1 (by decide +kernel) (zf_Shapes_28 hw)) (zq_S (zs_iload (by decide +kernel)) (zq_S (zs_iconst (n := 1) (by decide +kernel) (by decide)) (zq_S (zs_isub (by decide +kernel)) (zq_S (zs_iald hw.1 (by decide +kernel)) (zq_S (zs_iast hw.1 (by decide +kernel)) (zq_S (zs_aload_n (k9 := 0) (by decide +kernel) rfl) (zq_S (zs_get hw.1 (by decide +kernel) (zf_Shapes_31 hw)) (zq_S (zs_iload (by decide +kernel)) (zq_S (zs_aload_n (k9 := 0) (by decide +kernel) rfl) (zq_S (zs_get hw.1 (by decide +kernel) (zf_Shapes_31 hw)) (zq_S (zs_iload (by decide +kernel)) (zq_S (zs_iconst (n := 1) (by decide +kernel) (by decide)) (zq_S (zs_isub (by decide +kernel)) (zq_S (zs_iald hw.1 (by decide +kernel)) (zq_S (zs_iast hw.1 (by decide +kernel)) (zq_S (zs_iinc (n := (-1)) (by decide +kernel) (by decide) (by decide)) (zs_goto (off := -71) (by decide +kernel) (by decide))))))))))))))))))))))))
def g_Shapes_addField_44 : z_T := (zq 45 (zi_iload 2 45) (zi_iload 3 46))
theorem gS_Shapes_addField_44 (hw : z_Wd w) : z_S w zY_Shapes_addField 44 g_Shapes_addField_44 := (zq_S (zs_iload_n (k9 := 2) (by decide +kernel) rfl) (zs_iload_n (k9 := 3) (by decide +kernel) rfl))
def g_Shapes_addField_16 : z_T := (zq 18 (zi_iload 5 18) (zq 20 (zi_iload 4 20) (zq 23 (zi_icmp_le 90 23) (zq 24 (zi_aload 0 24) (zq 27 (zi_get 2 5 27) (zq 29 (zi_iload 5 29) (zq 30 (zi_iconst 1 30) (zq 31 (zi_isub 31) (zq 32 (zi_iald 32) (zq 33 (zi_aload 0 33) (zq 36 (zi_get 2 6 36) (zq 38 (zi_iload 5 38) (zq 39 (zi_iconst 1 39) (zq 40 (zi_isub 40) (zi_iald 41)))))))))))))))
theorem gS_Shapes_addField_16 (hw : z_Wd w) : z_S w zY_Shapes_addField 16 g_Shapes_addField_16 := (zq_S (zs_iload (by decide +kernel)) (zq_S (zs_iload (by decide +kernel)) (zq_S (zs_icmp_le (off := 70) (by decide +kernel) (by decide)) (zq_S (zs_aload_n (k9 := 0) (by decide +kernel) rfl) (zq_S (zs_get hw.1 (by decide +kernel) (zf_Shapes_28 hw)) (zq_S (zs_iload (by decide +kernel)) (zq_S (zs_iconst (n := 1) (by decide +kernel) (by decide)) (zq_S (zs_isub (by decide +kernel)) (zq_S (zs_iald hw.1 (by decide +kernel)) (zq_S (zs_aload_n (k9 := 0) (by decide +kernel) rfl) (zq_S (zs_get hw.1 (by decide +kernel) (zf_Shapes_31 hw)) (zq_S (zs_iload (by decide +kernel)) (zq_S (zs_iconst (n := 1) (by decide +kernel) (by decide)) (zq_S (zs_isub (by decide +kernel)) (zs_iald hw.1 (by decide +kernel))))))))))))))))
def g_Shapes_addField_0 : z_T := (zq 1 (zi_iload 1 1) (zq 2 (zi_iconst 4 2) (zq 3 (zi_imul 3) (zq 5 (zi_istore 4 5) (zq 7 (zi_iload 4 7) (zq 8 (zi_aload 0 8) (zq 11 (zi_get 2 4 11) (zq 12 (zi_iload 1 12) (zq 13 (zi_iald 13) (zq 14 (zi_iadd 14) (zi_istore 5 16)))))))))))
theorem gS_Shapes_addField_0 (hw : z_Wd w) : z_S w zY_Shapes_addField 0 g_Shapes_addField_0 := (zq_S (zs_iload_n (k9 := 1) (by decide +kernel) rfl) (zq_S (zs_iconst (n := 4) (by decide +kernel) (by decide)) (zq_S (zs_imul (by decide +kernel)) (zq_S (zs_istore (by decide +kernel) (by decide)) (zq_S (zs_iload (by decide +kernel)) (zq_S (zs_aload_n (k9 := 0) (by decide +kernel) rfl) (zq_S (zs_get hw.1 (by decide +kernel) (zf_Shapes_25 hw)) (zq_S (zs_iload_n (k9 := 1) (by decide +kernel) rfl) (zq_S (zs_iald hw.1 (by decide +kernel)) (zq_S (zs_iadd (by decide +kernel)) (zs_istore (by decide +kernel) (by decide))))))))))))
def g_Shapes_comesLast_45 : z_T := (zi_zret)
theorem gS_Shapes_comesLast_45 (hw : z_Wd w) : z_S w zY_Shapes_comesLast 45 g_Shapes_comesLast_45 := (zs_zret (by decide +kernel) rfl)
def g_Shapes_comesLast_44 : z_T := (zq 45 (zi_iconst 0 45) g_Shapes_comesLast_45)
theorem gS_Shapes_comesLast_44 (hw : z_Wd w) : z_S w zY_Shapes_comesLast 44 g_Shapes_comesLast_44 := (zq_S (zs_iconst (n := 0) (by decide +kernel) (by decide)) (gS_Shapes_comesLast_45 hw))
def g_Shapes_comesLast_40 : z_T := (zq 41 (zi_iconst 1 41) (zq 45 (zi_goto 45) g_Shapes_comesLast_45))
theorem gS_Shapes_comesLast_40 (hw : z_Wd w) : z_S w zY_Shapes_comesLast 40 g_Shapes_comesLast_40 := (zq_S (zs_iconst (n := 1) (by decide +kernel) (by decide)) (zq_S (zs_goto (off := 4) (by decide +kernel) (by decide)) (gS_Shapes_comesLast_45 hw)))
def g_Shapes_comesLast_37 : z_T := (zb 40 44 (zi_icmp_ge 44 40) g_Shapes_comesLast_40 g_Shapes_comesLast_44)
theorem gS_Shapes_comesLast_37 (hw : z_Wd w) : z_S w zY_Shapes_comesLast 37 g_Shapes_comesLast_37 := (zb_S (zs_icmp_ge (off := 7) (by decide +kernel) (by decide)) (gS_Shapes_comesLast_40 hw) (gS_Shapes_comesLast_44 hw))
def g_Shapes_comesLast_32 : z_T := (zq 33 (zi_iload 2 33) (zi_iload 3 34))
theorem gS_Shapes_comesLast_32 (hw : z_Wd w) : z_S w zY_Shapes_comesLast 32 g_Shapes_comesLast_32 := (zq_S (zs_iload_n (k9 := 2) (by decide +kernel) rfl) (zs_iload_n (k9 := 3) (by decide +kernel) rfl))
def g_Shapes_comesLast_22 : z_T := (zq 23 (zi_aload 0 23) (zq 24 (zi_iload 1 24) (zi_iload 4 26)))
theorem gS_Shapes_comesLast_22 (hw : z_Wd w) : z_S w zY_Shapes_comesLast 22 g_Shapes_comesLast_22 := (zq_S (zs_aload_n (k9 := 0) (by decide +kernel) rfl) (zq_S (zs_iload_n (k9 := 1) (by decide +kernel) rfl) (zs_iload (by decide +kernel))))
def g_Shapes_comesLast_0 : z_T := (zq 1 (zi_aload 0 1) (zq 4 (zi_get 2 4 4) (zq 5 (zi_iload 1 5) (zq 6 (zi_iald 6) (zq 7 (zi_iconst 1 7) (zq 8 (zi_isub 8) (zq 10 (zi_istore 4 10) (zq 12 (zi_iload 4 12) (zb 15 40 (zi_if_lt 40 15) (zq 16 (zi_aload 0 16) (zq 17 (zi_iload 1 17) (zi_iload 4 19))) g_Shapes_comesLast_40)))))))))
theorem gS_Shapes_comesLast_0 (hw : z_Wd w) : z_S w zY_Shapes_comesLast 0 g_Shapes_comesLast_0 := (zq_S (zs_aload_n (k9 := 0) (by decide +kernel) rfl) (zq_S (zs_get hw.1 (by decide +kernel) (zf_Shapes_25 hw)) (zq_S (zs_iload_n (k9 := 1) (by decide +kernel) rfl) (zq_S (zs_iald hw.1 (by decide +kernel)) (zq_S (zs_iconst (n := 1) (by decide +kernel) (by decide)) (zq_S (zs_isub (by decide +kernel)) (zq_S (zs_istore (by decide +kernel) (by decide)) (zq_S (zs_iload (by decide +kernel)) (zb_S (zs_if_lt (off := 28) (by decide +kernel) (by decide)) (zq_S (zs_aload_n (k9 := 0) (by decide +kernel) rfl) (zq_S (zs_iload_n (k9 := 1) (by decide +kernel) rfl) (zs_iload (by decide +kernel)))) (gS_Shapes_comesLast_40 hw))))))))))
def g_Shapes_rank_13 : z_T := (zi_iret)
theorem gS_Shapes_rank_13 (hw : z_Wd w) : z_S w zY_Shapes_rank 13 g_Shapes_rank_13 := (zs_iret (by decide +kernel) rfl)
def g_Shapes_rank_12 : z_T := (zq 13 (zi_iload 0 13) g_Shapes_rank_13)
theorem gS_Shapes_rank_12 (hw : z_Wd w) : z_S w zY_Shapes_rank 12 g_Shapes_rank_12 := (zq_S (zs_iload_n (k9 := 0) (by decide +kernel) rfl) (gS_Shapes_rank_13 hw))
def g_Shapes_rank_0 : z_T := (zq 1 (zi_iload 1 1) (zq 2 (zi_iconst 4 2) (zb 5 12 (zi_icmp_ne 12 5) (zq 7 (zi_bipush 10 7) (zq 8 (zi_iload 0 8) (zq 9 (zi_iadd 9) (zq 13 (zi_goto 13) g_Shapes_rank_13)))) g_Shapes_rank_12)))
theorem gS_Shapes_rank_0 (hw : z_Wd w) : z_S w zY_Shapes_rank 0 g_Shapes_rank_0 := (zq_S (zs_iload_n (k9 := 1) (by decide +kernel) rfl) (zq_S (zs_iconst (n := 4) (by decide +kernel) (by decide)) (zb_S (zs_icmp_ne (off := 10) (by decide +kernel) (by decide)) (zq_S (zs_bipush (n := 10) (by decide +kernel) (by decide)) (zq_S (zs_iload_n (k9 := 0) (by decide +kernel) rfl) (zq_S (zs_iadd (by decide +kernel)) (zq_S (zs_goto (off := 4) (by decide +kernel) (by decide)) (gS_Shapes_rank_13 hw))))) (gS_Shapes_rank_12 hw))))
def g_Shapes_fieldOf_40 : z_T := (zq 41 (zi_iconst (-1) 41) (zi_iret))
theorem gS_Shapes_fieldOf_40 (hw : z_Wd w) : z_S w zY_Shapes_fieldOf 40 g_Shapes_fieldOf_40 := (zq_S (zs_iconst (n := (-1)) (by decide +kernel) (by decide)) (zs_iret (by decide +kernel) rfl))
def g_Shapes_fieldOf_34 : z_T := (zq 37 (zi_iinc 3 1 37) (zi_goto 12))
theorem gS_Shapes_fieldOf_34 (hw : z_Wd w) : z_S w zY_Shapes_fieldOf 34 g_Shapes_fieldOf_34 := (zq_S (zs_iinc (n := 1) (by decide +kernel) (by decide) (by decide)) (zs_goto (off := -25) (by decide +kernel) (by decide)))
def g_Shapes_fieldOf_28 : z_T := (zq 29 (zi_iload 2 29) (zb 32 34 (zi_icmp_ne 34 32) (zq 33 (zi_iload 3 33) (zi_iret)) g_Shapes_fieldOf_34))
theorem gS_Shapes_fieldOf_28 (hw : z_Wd w) : z_S w zY_Shapes_fieldOf 28 g_Shapes_fieldOf_28 := (zq_S (zs_iload_n (k9 := 2) (by decide +kernel) rfl) (zb_S (zs_icmp_ne (off := 5) (by decide +kernel) (by decide)) (zq_S (zs_iload_n (k9 := 3) (by decide +kernel) rfl) (zs_iret (by decide +kernel) rfl)) (gS_Shapes_fieldOf_34 hw)))
def g_Shapes_fieldOf_12 : z_T := (zq 13 (zi_iload 3 13) (zq 14 (zi_aload 0 14) (zq 17 (zi_get 2 4 17) (zq 18 (zi_iload 1 18) (zq 19 (zi_iald 19) (zb 22 40 (zi_icmp_ge 40 22) (zq 23 (zi_aload 0 23) (zq 24 (zi_iload 1 24) (zi_iload 3 25))) g_Shapes_fieldOf_40))))))
theorem gS_Shapes_fieldOf_12 (hw : z_Wd w) : z_S w zY_Shapes_fieldOf 12 g_Shapes_fieldOf_12 := (zq_S (zs_iload_n (k9 := 3) (by decide +kernel) rfl) (zq_S (zs_aload_n (k9 := 0) (by decide +kernel) rfl) (zq_S (zs_get hw.1 (by decide +kernel) (zf_Shapes_25 hw)) (zq_S (zs_iload_n (k9 := 1) (by decide +kernel) rfl) (zq_S (zs_iald hw.1 (by decide +kernel)) (zb_S (zs_icmp_ge (off := 21) (by decide +kernel) (by decide)) (zq_S (zs_aload_n (k9 := 0) (by decide +kernel) rfl) (zq_S (zs_iload_n (k9 := 1) (by decide +kernel) rfl) (zs_iload_n (k9 := 3) (by decide +kernel) rfl))) (gS_Shapes_fieldOf_40 hw)))))))
def g_Shapes_fieldOf_10 : z_T := (zq 11 (zi_iconst 0 11) (zi_istore 3 12))
theorem gS_Shapes_fieldOf_10 (hw : z_Wd w) : z_S w zY_Shapes_fieldOf 10 g_Shapes_fieldOf_10 := (zq_S (zs_iconst (n := 0) (by decide +kernel) (by decide)) (zs_istore_n (k9 := 3) (by decide +kernel) rfl (by decide)))
def g_Shapes_fieldOf_5 : z_T := (zb 8 10 (zi_if_ne 10 8) (zq 9 (zi_iconst (-1) 9) (zi_iret)) g_Shapes_fieldOf_10)
theorem gS_Shapes_fieldOf_5 (hw : z_Wd w) : z_S w zY_Shapes_fieldOf 5 g_Shapes_fieldOf_5 := (zb_S (zs_if_ne (off := 5) (by decide +kernel) (by decide)) (zq_S (zs_iconst (n := (-1)) (by decide +kernel) (by decide)) (zs_iret (by decide +kernel) rfl)) (gS_Shapes_fieldOf_10 hw))
def g_Shapes_fieldOf_0 : z_T := (zq 1 (zi_aload 0 1) (zi_iload 1 2))
theorem gS_Shapes_fieldOf_0 (hw : z_Wd w) : z_S w zY_Shapes_fieldOf 0 g_Shapes_fieldOf_0 := (zq_S (zs_aload_n (k9 := 0) (by decide +kernel) rfl) (zs_iload_n (k9 := 1) (by decide +kernel) rfl))
def g_Shapes_nameOf_0 : z_T := (zq 1 (zi_aload 0 1) (zq 4 (zi_get 2 5 4) (zq 5 (zi_iload 1 5) (zq 6 (zi_iconst 4 6) (zq 7 (zi_imul 7) (zq 8 (zi_iload 2 8) (zq 9 (zi_iadd 9) (zq 10 (zi_iald 10) (zi_iret)))))))))
theorem gS_Shapes_nameOf_0 (hw : z_Wd w) : z_S w zY_Shapes_nameOf 0 g_Shapes_nameOf_0 := (zq_S (zs_aload_n (k9 := 0) (by decide +kernel) rfl) (zq_S (zs_get hw.1 (by decide +kernel) (zf_Shapes_28 hw)) (zq_S (zs_iload_n (k9 := 1) (by decide +kernel) rfl) (zq_S (zs_iconst (n := 4) (by decide +kernel) (by decide)) (zq_S (zs_imul (by decide +kernel)) (zq_S (zs_iload_n (k9 := 2) (by decide +kernel) rfl) (zq_S (zs_iadd (by decide +kernel)) (zq_S (zs_iald hw.1 (by decide +kernel)) (zs_iret (by decide +kernel) rfl)))))))))
def g_Shapes_kindOf_0 : z_T := (zq 1 (zi_aload 0 1) (zq 4 (zi_get 2 6 4) (zq 5 (zi_iload 1 5) (zq 6 (zi_iconst 4 6) (zq 7 (zi_imul 7) (zq 8 (zi_iload 2 8) (zq 9 (zi_iadd 9) (zq 10 (zi_iald 10) (zi_iret)))))))))
theorem gS_Shapes_kindOf_0 (hw : z_Wd w) : z_S w zY_Shapes_kindOf 0 g_Shapes_kindOf_0 := (zq_S (zs_aload_n (k9 := 0) (by decide +kernel) rfl) (zq_S (zs_get hw.1 (by decide +kernel) (zf_Shapes_31 hw)) (zq_S (zs_iload_n (k9 := 1) (by decide +kernel) rfl) (zq_S (zs_iconst (n := 4) (by decide +kernel) (by decide)) (zq_S (zs_imul (by decide +kernel)) (zq_S (zs_iload_n (k9 := 2) (by decide +kernel) rfl) (zq_S (zs_iadd (by decide +kernel)) (zq_S (zs_iald hw.1 (by decide +kernel)) (zs_iret (by decide +kernel) rfl)))))))))
def g_Shapes_parentOf_23 : z_T := (zi_iret)
theorem gS_Shapes_parentOf_23 (hw : z_Wd w) : z_S w zY_Shapes_parentOf 23 g_Shapes_parentOf_23 := (zs_iret (by decide +kernel) rfl)
def g_Shapes_parentOf_22 : z_T := (zq 23 (zi_iconst (-1) 23) g_Shapes_parentOf_23)
theorem gS_Shapes_parentOf_22 (hw : z_Wd w) : z_S w zY_Shapes_parentOf 22 g_Shapes_parentOf_22 := (zq_S (zs_iconst (n := (-1)) (by decide +kernel) (by decide)) (gS_Shapes_parentOf_23 hw))
def g_Shapes_parentOf_10 : z_T := (zb 13 22 (zi_if_eq 22 13) (zq 14 (zi_aload 0 14) (zq 17 (zi_get 2 2 17) (zq 18 (zi_iload 1 18) (zq 19 (zi_iald 19) (zq 23 (zi_goto 23) g_Shapes_parentOf_23))))) g_Shapes_parentOf_22)
theorem gS_Shapes_parentOf_10 (hw : z_Wd w) : z_S w zY_Shapes_parentOf 10 g_Shapes_parentOf_10 := (zb_S (zs_if_eq (off := 12) (by decide +kernel) (by decide)) (zq_S (zs_aload_n (k9 := 0) (by decide +kernel) rfl) (zq_S (zs_get hw.1 (by decide +kernel) (zf_Shapes_19 hw)) (zq_S (zs_iload_n (k9 := 1) (by decide +kernel) rfl) (zq_S (zs_iald hw.1 (by decide +kernel)) (zq_S (zs_goto (off := 4) (by decide +kernel) (by decide)) (gS_Shapes_parentOf_23 hw)))))) (gS_Shapes_parentOf_22 hw))
def g_Shapes_parentOf_0 : z_T := (zq 1 (zi_aload 0 1) (zq 2 (zi_aload 0 2) (zq 5 (zi_get 2 2 5) (zq 6 (zi_iload 1 6) (zi_iald 7)))))
theorem gS_Shapes_parentOf_0 (hw : z_Wd w) : z_S w zY_Shapes_parentOf 0 g_Shapes_parentOf_0 := (zq_S (zs_aload_n (k9 := 0) (by decide +kernel) rfl) (zq_S (zs_aload_n (k9 := 0) (by decide +kernel) rfl) (zq_S (zs_get hw.1 (by decide +kernel) (zf_Shapes_19 hw)) (zq_S (zs_iload_n (k9 := 1) (by decide +kernel) rfl) (zs_iald hw.1 (by decide +kernel))))))
def g_Shapes_chainLength_27 : z_T := (zq 28 (zi_iload 2 28) (zi_iret))
theorem gS_Shapes_chainLength_27 (hw : z_Wd w) : z_S w zY_Shapes_chainLength 27 g_Shapes_chainLength_27 := (zq_S (zs_iload_n (k9 := 2) (by decide +kernel) rfl) (zs_iret (by decide +kernel) rfl))
def g_Shapes_chainLength_23 : z_T := (zq 24 (zi_istore 3 24) (zi_goto 4))
theorem gS_Shapes_chainLength_23 (hw : z_Wd w) : z_S w zY_Shapes_chainLength 23 g_Shapes_chainLength_23 := (zq_S (zs_istore_n (k9 := 3) (by decide +kernel) rfl (by decide)) (zs_goto (off := -20) (by decide +kernel) (by decide)))
def g_Shapes_chainLength_4 : z_T := (zq 5 (zi_iload 3 5) (zq 6 (zi_iconst (-1) 6) (zb 9 27 (zi_icmp_eq 27 9) (zq 10 (zi_iload 2 10) (zq 12 (zi_bipush 6 12) (zb 15 27 (zi_icmp_ge 27 15) (zq 18 (zi_iinc 2 1 18) (zq 19 (zi_aload 0 19) (zi_iload 3 20))) g_Shapes_chainLength_27))) g_Shapes_chainLength_27)))
theorem gS_Shapes_chainLength_4 (hw : z_Wd w) : z_S w zY_Shapes_chainLength 4 g_Shapes_chainLength_4 := (zq_S (zs_iload_n (k9 := 3) (by decide +kernel) rfl) (zq_S (zs_iconst (n := (-1)) (by decide +kernel) (by decide)) (zb_S (zs_icmp_eq (off := 21) (by decide +kernel) (by decide)) (zq_S (zs_iload_n (k9 := 2) (by decide +kernel) rfl) (zq_S (zs_bipush (n := 6) (by decide +kernel) (by decide)) (zb_S (zs_icmp_ge (off := 15) (by decide +kernel) (by decide)) (zq_S (zs_iinc (n := 1) (by decide +kernel) (by decide) (by decide)) (zq_S (zs_aload_n (k9 := 0) (by decide +kernel) rfl) (zs_iload_n (k9 := 3) (by decide +kernel) rfl))) (gS_Shapes_chainLength_27 hw)))) (gS_Shapes_chainLength_27 hw))))
def g_Shapes_chainLength_0 : z_T := (zq 1 (zi_iconst 0 1) (zq 2 (zi_istore 2 2) (zq 3 (zi_iload 1 3) (zi_istore 3 4))))
theorem gS_Shapes_chainLength_0 (hw : z_Wd w) : z_S w zY_Shapes_chainLength 0 g_Shapes_chainLength_0 := (zq_S (zs_iconst (n := 0) (by decide +kernel) (by decide)) (zq_S (zs_istore_n (k9 := 2) (by decide +kernel) rfl (by decide)) (zq_S (zs_iload_n (k9 := 1) (by decide +kernel) rfl) (zs_istore_n (k9 := 3) (by decide +kernel) rfl (by decide)))))
def g_Shapes_upTheChain_28 : z_T := (zq 29 (zi_iload 3 29) (zi_iret))
theorem gS_Shapes_upTheChain_28 (hw : z_Wd w) : z_S w zY_Shapes_upTheChain 28 g_Shapes_upTheChain_28 := (zq_S (zs_iload_n (k9 := 3) (by decide +kernel) rfl) (zs_iret (by decide +kernel) rfl))
def g_Shapes_upTheChain_21 : z_T := (zq 22 (zi_istore 3 22) (zq 25 (zi_iinc 4 1 25) (zi_goto 5)))
theorem gS_Shapes_upTheChain_21 (hw : z_Wd w) : z_S w zY_Shapes_upTheChain 21 g_Shapes_upTheChain_21 := (zq_S (zs_istore_n (k9 := 3) (by decide +kernel) rfl (by decide)) (zq_S (zs_iinc (n := 1) (by decide +kernel) (by decide) (by decide)) (zs_goto (off := -20) (by decide +kernel) (by decide))))
def g_Shapes_upTheChain_5 : z_T := (zq 7 (zi_iload 4 7) (zq 8 (zi_iload 2 8) (zb 11 28 (zi_icmp_ge 28 11) (zq 12 (zi_iload 3 12) (zq 13 (zi_iconst (-1) 13) (zb 16 28 (zi_icmp_eq 28 16) (zq 17 (zi_aload 0 17) (zi_iload 3 18)) g_Shapes_upTheChain_28))) g_Shapes_upTheChain_28)))
theorem gS_Shapes_upTheChain_5 (hw : z_Wd w) : z_S w zY_Shapes_upTheChain 5 g_Shapes_upTheChain_5 := (zq_S (zs_iload (by decide +kernel)) (zq_S (zs_iload_n (k9 := 2) (by decide +kernel) rfl) (zb_S (zs_icmp_ge (off := 20) (by decide +kernel) (by decide)) (zq_S (zs_iload_n (k9 := 3) (by decide +kernel) rfl) (zq_S (zs_iconst (n := (-1)) (by decide +kernel) (by decide)) (zb_S (zs_icmp_eq (off := 15) (by decide +kernel) (by decide)) (zq_S (zs_aload_n (k9 := 0) (by decide +kernel) rfl) (zs_iload_n (k9 := 3) (by decide +kernel) rfl)) (gS_Shapes_upTheChain_28 hw)))) (gS_Shapes_upTheChain_28 hw))))
def g_Shapes_upTheChain_0 : z_T := (zq 1 (zi_iload 1 1) (zq 2 (zi_istore 3 2) (zq 3 (zi_iconst 0 3) (zi_istore 4 5))))
theorem gS_Shapes_upTheChain_0 (hw : z_Wd w) : z_S w zY_Shapes_upTheChain 0 g_Shapes_upTheChain_0 := (zq_S (zs_iload_n (k9 := 1) (by decide +kernel) rfl) (zq_S (zs_istore_n (k9 := 3) (by decide +kernel) rfl (by decide)) (zq_S (zs_iconst (n := 0) (by decide +kernel) (by decide)) (zs_istore (by decide +kernel) (by decide)))))
def g_Shapes_chainHas_36 : z_T := (zq 37 (zi_iconst 0 37) (zi_zret))
theorem gS_Shapes_chainHas_36 (hw : z_Wd w) : z_S w zY_Shapes_chainHas 36 g_Shapes_chainHas_36 := (zq_S (zs_iconst (n := 0) (by decide +kernel) (by decide)) (zs_zret (by decide +kernel) rfl))
def g_Shapes_chainHas_29 : z_T := (zq 30 (zi_istore 3 30) (zq 33 (zi_iinc 4 1 33) (zi_goto 5)))
theorem gS_Shapes_chainHas_29 (hw : z_Wd w) : z_S w zY_Shapes_chainHas 29 g_Shapes_chainHas_29 := (zq_S (zs_istore_n (k9 := 3) (by decide +kernel) rfl (by decide)) (zq_S (zs_iinc (n := 1) (by decide +kernel) (by decide) (by decide)) (zs_goto (off := -28) (by decide +kernel) (by decide))))
def g_Shapes_chainHas_24 : z_T := (zq 25 (zi_aload 0 25) (zi_iload 3 26))
theorem gS_Shapes_chainHas_24 (hw : z_Wd w) : z_S w zY_Shapes_chainHas 24 g_Shapes_chainHas_24 := (zq_S (zs_aload_n (k9 := 0) (by decide +kernel) rfl) (zs_iload_n (k9 := 3) (by decide +kernel) rfl))
def g_Shapes_chainHas_5 : z_T := (zq 7 (zi_iload 4 7) (zq 9 (zi_bipush 6 9) (zb 12 36 (zi_icmp_ge 36 12) (zq 13 (zi_iload 3 13) (zq 14 (zi_iconst (-1) 14) (zb 17 36 (zi_icmp_eq 36 17) (zq 18 (zi_iload 3 18) (zq 19 (zi_iload 2 19) (zb 22 24 (zi_icmp_ne 24 22) (zq 23 (zi_iconst 1 23) (zi_zret)) g_Shapes_chainHas_24))) g_Shapes_chainHas_36))) g_Shapes_chainHas_36)))
theorem gS_Shapes_chainHas_5 (hw : z_Wd w) : z_S w zY_Shapes_chainHas 5 g_Shapes_chainHas_5 := (zq_S (zs_iload (by decide +kernel)) (zq_S (zs_bipush (n := 6) (by decide +kernel) (by decide)) (zb_S (zs_icmp_ge (off := 27) (by decide +kernel) (by decide)) (zq_S (zs_iload_n (k9 := 3) (by decide +kernel) rfl) (zq_S (zs_iconst (n := (-1)) (by decide +kernel) (by decide)) (zb_S (zs_icmp_eq (off := 22) (by decide +kernel) (by decide)) (zq_S (zs_iload_n (k9 := 3) (by decide +kernel) rfl) (zq_S (zs_iload_n (k9 := 2) (by decide +kernel) rfl) (zb_S (zs_icmp_ne (off := 5) (by decide +kernel) (by decide)) (zq_S (zs_iconst (n := 1) (by decide +kernel) (by decide)) (zs_zret (by decide +kernel) rfl)) (gS_Shapes_chainHas_24 hw)))) (gS_Shapes_chainHas_36 hw)))) (gS_Shapes_chainHas_36 hw))))
def g_Shapes_chainHas_0 : z_T := (zq 1 (zi_iload 1 1) (zq 2 (zi_istore 3 2) (zq 3 (zi_iconst 0 3) (zi_istore 4 5))))
theorem gS_Shapes_chainHas_0 (hw : z_Wd w) : z_S w zY_Shapes_chainHas 0 g_Shapes_chainHas_0 := (zq_S (zs_iload_n (k9 := 1) (by decide +kernel) rfl) (zq_S (zs_istore_n (k9 := 3) (by decide +kernel) rfl (by decide)) (zq_S (zs_iconst (n := 0) (by decide +kernel) (by decide)) (zs_istore (by decide +kernel) (by decide)))))
end ZG
end
section
section ZG
variable {w : z_W}
def g_Things_init_4 : z_T := (zq 5 (zi_aload 0 5) (zq 6 (zi_iload 1 6) (zq 8 (zi_newa 0 4 (fun n => (n, .inl fun _ => 0)) 8) (zq 11 (zi_put 4 0 (.array .int) 11) (zq 12 (zi_aload 0 12) (zq 13 (zi_iload 1 13) (zq 15 (zi_newa 0 4 (fun n => (n, .inl fun _ => 0)) 15) (zq 18 (zi_put 4 1 (.array .int) 18) (zq 19 (zi_aload 0 19) (zq 20 (zi_iload 1 20) (zq 22 (zi_bipush 24 22) (zq 23 (zi_imul 23) (zq 25 (zi_newa 1 8 (fun n => (n, .inr (.inl fun _ => 0))) 25) (zq 28 (zi_put 4 2 (.array .long) 28) (zi_vret)))))))))))))))
theorem gS_Things_init_4 (hw : z_Wd w) : z_S w zY_Things_init 4 g_Things_init_4 := (zq_S (zs_aload_n (k9 := 0) (by decide +kernel) rfl) (zq_S (zs_iload_n (k9 := 1) (by decide +kernel) rfl) (zq_S (zs_newi hw.1 (by decide +kernel) (zw_66 hw)) (zq_S (zs_put hw.1 (by decide +kernel) (zp_Things_9 hw) (fun _ => rfl)) (zq_S (zs_aload_n (k9 := 0) (by decide +kernel) rfl) (zq_S (zs_iload_n (k9 := 1) (by decide +kernel) rfl) (zq_S (zs_newi hw.1 (by decide +kernel) (zw_66 hw)) (zq_S (zs_put hw.1 (by decide +kernel) (zp_Things_15 hw) (fun _ => rfl)) (zq_S (zs_aload_n (k9 := 0) (by decide +kernel) rfl) (zq_S (zs_iload_n (k9 := 1) (by decide +kernel) rfl) (zq_S (zs_bipush (n := 24) (by decide +kernel) (by decide)) (zq_S (zs_imul (by decide +kernel)) (zq_S (zs_newl hw.1 (by decide +kernel) (zw_96 hw)) (zq_S (zs_put hw.1 (by decide +kernel) (zp_Things_18 hw) (fun _ => rfl)) (zs_vret (by decide +kernel) rfl)))))))))))))))
def g_Things_init_0 : z_T := (zi_aload 0 1)
theorem gS_Things_init_0 (hw : z_Wd w) : z_S w zY_Things_init 0 g_Things_init_0 := (zs_aload_n (k9 := 0) (by decide +kernel) rfl)
def g_Things_has_17 : z_T := (zi_zret)
theorem gS_Things_has_17 (hw : z_Wd w) : z_S w zY_Things_has 17 g_Things_has_17 := (zs_zret (by decide +kernel) rfl)
def g_Things_has_16 : z_T := (zq 17 (zi_iconst 0 17) g_Things_has_17)
theorem gS_Things_has_16 (hw : z_Wd w) : z_S w zY_Things_has 16 g_Things_has_16 := (zq_S (zs_iconst (n := 0) (by decide +kernel) (by decide)) (gS_Things_has_17 hw))
def g_Things_has_0 : z_T := (zq 1 (zi_iload 1 1) (zb 4 16 (zi_if_lt 16 4) (zq 5 (zi_iload 1 5) (zq 6 (zi_aload 0 6) (zq 9 (zi_get 4 3 9) (zb 12 16 (zi_icmp_ge 16 12) (zq 13 (zi_iconst 1 13) (zq 17 (zi_goto 17) g_Things_has_17)) g_Things_has_16)))) g_Things_has_16))
theorem gS_Things_has_0 (hw : z_Wd w) : z_S w zY_Things_has 0 g_Things_has_0 := (zq_S (zs_iload_n (k9 := 1) (by decide +kernel) rfl) (zb_S (zs_if_lt (off := 15) (by decide +kernel) (by decide)) (zq_S (zs_iload_n (k9 := 1) (by decide +kernel) rfl) (zq_S (zs_aload_n (k9 := 0) (by decide +kernel) rfl) (zq_S (zs_get hw.1 (by decide +kernel) (zf_Things_22 hw)) (zb_S (zs_icmp_ge (off := 7) (by decide +kernel) (by decide)) (zq_S (zs_iconst (n := 1) (by decide +kernel) (by decide)) (zq_S (zs_goto (off := 4) (by decide +kernel) (by decide)) (gS_Things_has_17 hw))) (gS_Things_has_16 hw))))) (gS_Things_has_16 hw)))
def g_Things_isFull_17 : z_T := (zi_zret)
theorem gS_Things_isFull_17 (hw : z_Wd w) : z_S w zY_Things_isFull 17 g_Things_isFull_17 := (zs_zret (by decide +kernel) rfl)
def g_Things_isFull_16 : z_T := (zq 17 (zi_iconst 0 17) g_Things_isFull_17)
theorem gS_Things_isFull_16 (hw : z_Wd w) : z_S w zY_Things_isFull 16 g_Things_isFull_16 := (zq_S (zs_iconst (n := 0) (by decide +kernel) (by decide)) (gS_Things_isFull_17 hw))
def g_Things_isFull_0 : z_T := (zq 1 (zi_aload 0 1) (zq 4 (zi_get 4 3 4) (zq 5 (zi_aload 0 5) (zq 8 (zi_get 4 0 8) (zq 9 (zi_alen 9) (zb 12 16 (zi_icmp_lt 16 12) (zq 13 (zi_iconst 1 13) (zq 17 (zi_goto 17) g_Things_isFull_17)) g_Things_isFull_16))))))
theorem gS_Things_isFull_0 (hw : z_Wd w) : z_S w zY_Things_isFull 0 g_Things_isFull_0 := (zq_S (zs_aload_n (k9 := 0) (by decide +kernel) rfl) (zq_S (zs_get hw.1 (by decide +kernel) (zf_Things_22 hw)) (zq_S (zs_aload_n (k9 := 0) (by decide +kernel) rfl) (zq_S (zs_get hw.1 (by decide +kernel) (zf_Things_9 hw)) (zq_S (zs_alen hw.1 (by decide +kernel)) (zb_S (zs_icmp_lt (off := 7) (by decide +kernel) (by decide)) (zq_S (zs_iconst (n := 1) (by decide +kernel) (by decide)) (zq_S (zs_goto (off := 4) (by decide +kernel) (by decide)) (gS_Things_isFull_17 hw))) (gS_Things_isFull_16 hw)))))))
def g_Things_isRecord_23 : z_T := (zi_zret)
theorem gS_Things_isRecord_23 (hw : z_Wd w) : z_S w zY_Things_isRecord 23 g_Things_isRecord_23 := (zs_zret (by decide +kernel) rfl)
def g_Things_isRecord_22 : z_T := (zq 23 (zi_iconst 0 23) g_Things_isRecord_23)
theorem gS_Things_isRecord_22 (hw : z_Wd w) : z_S w zY_Things_isRecord 22 g_Things_isRecord_22 := (zq_S (zs_iconst (n := 0) (by decide +kernel) (by decide)) (gS_Things_isRecord_23 hw))
def g_Things_isRecord_5 : z_T := (zb 8 22 (zi_if_eq 22 8) (zq 9 (zi_aload 0 9) (zq 12 (zi_get 4 0 12) (zq 13 (zi_iload 1 13) (zq 14 (zi_iald 14) (zq 15 (zi_iconst (-1) 15) (zb 18 22 (zi_icmp_eq 22 18) (zq 19 (zi_iconst 1 19) (zq 23 (zi_goto 23) g_Things_isRecord_23)) g_Things_isRecord_22)))))) g_Things_isRecord_22)
theorem gS_Things_isRecord_5 (hw : z_Wd w) : z_S w zY_Things_isRecord 5 g_Things_isRecord_5 := (zb_S (zs_if_eq (off := 17) (by decide +kernel) (by decide)) (zq_S (zs_aload_n (k9 := 0) (by decide +kernel) rfl) (zq_S (zs_get hw.1 (by decide +kernel) (zf_Things_9 hw)) (zq_S (zs_iload_n (k9 := 1) (by decide +kernel) rfl) (zq_S (zs_iald hw.1 (by decide +kernel)) (zq_S (zs_iconst (n := (-1)) (by decide +kernel) (by decide)) (zb_S (zs_icmp_eq (off := 7) (by decide +kernel) (by decide)) (zq_S (zs_iconst (n := 1) (by decide +kernel) (by decide)) (zq_S (zs_goto (off := 4) (by decide +kernel) (by decide)) (gS_Things_isRecord_23 hw))) (gS_Things_isRecord_22 hw))))))) (gS_Things_isRecord_22 hw))
def g_Things_isRecord_0 : z_T := (zq 1 (zi_aload 0 1) (zi_iload 1 2))
theorem gS_Things_isRecord_0 (hw : z_Wd w) : z_S w zY_Things_isRecord 0 g_Things_isRecord_0 := (zq_S (zs_aload_n (k9 := 0) (by decide +kernel) rfl) (zs_iload_n (k9 := 1) (by decide +kernel) rfl))
def g_Things_hasLink_27 : z_T := (zi_zret)
theorem gS_Things_hasLink_27 (hw : z_Wd w) : z_S w zY_Things_hasLink 27 g_Things_hasLink_27 := (zs_zret (by decide +kernel) rfl)
def g_Things_hasLink_26 : z_T := (zq 27 (zi_iconst 0 27) g_Things_hasLink_27)
theorem gS_Things_hasLink_26 (hw : z_Wd w) : z_S w zY_Things_hasLink 26 g_Things_hasLink_26 := (zq_S (zs_iconst (n := 0) (by decide +kernel) (by decide)) (gS_Things_hasLink_27 hw))
def g_Things_hasLink_5 : z_T := (zb 8 26 (zi_if_eq 26 8) (zq 9 (zi_iload 2 9) (zb 12 26 (zi_if_lt 26 12) (zq 13 (zi_iload 2 13) (zq 14 (zi_aload 0 14) (zq 17 (zi_get 4 1 17) (zq 18 (zi_iload 1 18) (zq 19 (zi_iald 19) (zb 22 26 (zi_icmp_ge 26 22) (zq 23 (zi_iconst 1 23) (zq 27 (zi_goto 27) g_Things_hasLink_27)) g_Things_hasLink_26)))))) g_Things_hasLink_26)) g_Things_hasLink_26)
theorem gS_Things_hasLink_5 (hw : z_Wd w) : z_S w zY_Things_hasLink 5 g_Things_hasLink_5 := (zb_S (zs_if_eq (off := 21) (by decide +kernel) (by decide)) (zq_S (zs_iload_n (k9 := 2) (by decide +kernel) rfl) (zb_S (zs_if_lt (off := 17) (by decide +kernel) (by decide)) (zq_S (zs_iload_n (k9 := 2) (by decide +kernel) rfl) (zq_S (zs_aload_n (k9 := 0) (by decide +kernel) rfl) (zq_S (zs_get hw.1 (by decide +kernel) (zf_Things_15 hw)) (zq_S (zs_iload_n (k9 := 1) (by decide +kernel) rfl) (zq_S (zs_iald hw.1 (by decide +kernel)) (zb_S (zs_icmp_ge (off := 7) (by decide +kernel) (by decide)) (zq_S (zs_iconst (n := 1) (by decide +kernel) (by decide)) (zq_S (zs_goto (off := 4) (by decide +kernel) (by decide)) (gS_Things_hasLink_27 hw))) (gS_Things_hasLink_26 hw))))))) (gS_Things_hasLink_26 hw))) (gS_Things_hasLink_26 hw))
def g_Things_hasLink_0 : z_T := (zq 1 (zi_aload 0 1) (zi_iload 1 2))
theorem gS_Things_hasLink_0 (hw : z_Wd w) : z_S w zY_Things_hasLink 0 g_Things_hasLink_0 := (zq_S (zs_aload_n (k9 := 0) (by decide +kernel) rfl) (zs_iload_n (k9 := 1) (by decide +kernel) rfl))
def g_Things_mayLinkTo_23 : z_T := (zi_zret)
theorem gS_Things_mayLinkTo_23 (hw : z_Wd w) : z_S w zY_Things_mayLinkTo 23 g_Things_mayLinkTo_23 := (zs_zret (by decide +kernel) rfl)
def g_Things_mayLinkTo_22 : z_T := (zq 23 (zi_iconst 0 23) g_Things_mayLinkTo_23)
theorem gS_Things_mayLinkTo_22 (hw : z_Wd w) : z_S w zY_Things_mayLinkTo 22 g_Things_mayLinkTo_22 := (zq_S (zs_iconst (n := 0) (by decide +kernel) (by decide)) (gS_Things_mayLinkTo_23 hw))
def g_Things_mayLinkTo_0 : z_T := (zq 1 (zi_lload 1 1) (zq 4 (zi_ldc2 (-1) 4) (zq 5 (zi_lcmp 5) (zb 8 22 (zi_if_lt 22 8) (zq 9 (zi_lload 1 9) (zq 10 (zi_aload 0 10) (zq 13 (zi_get 4 3 13) (zq 14 (zi_i2l 14) (zq 15 (zi_lcmp 15) (zb 18 22 (zi_if_ge 22 18) (zq 19 (zi_iconst 1 19) (zq 23 (zi_goto 23) g_Things_mayLinkTo_23)) g_Things_mayLinkTo_22)))))) g_Things_mayLinkTo_22))))
theorem gS_Things_mayLinkTo_0 (hw : z_Wd w) : z_S w zY_Things_mayLinkTo 0 g_Things_mayLinkTo_0 := (zq_S (zs_lload_n (k9 := 1) (by decide +kernel) rfl) (zq_S (zs_ldc2 (idx := 30) (by decide +kernel) (zw_311 hw)) (zq_S (zs_lcmp (by decide +kernel)) (zb_S (zs_if_lt (off := 17) (by decide +kernel) (by decide)) (zq_S (zs_lload_n (k9 := 1) (by decide +kernel) rfl) (zq_S (zs_aload_n (k9 := 0) (by decide +kernel) rfl) (zq_S (zs_get hw.1 (by decide +kernel) (zf_Things_22 hw)) (zq_S (zs_i2l (by decide +kernel)) (zq_S (zs_lcmp (by decide +kernel)) (zb_S (zs_if_ge (off := 7) (by decide +kernel) (by decide)) (zq_S (zs_iconst (n := 1) (by decide +kernel) (by decide)) (zq_S (zs_goto (off := 4) (by decide +kernel) (by decide)) (gS_Things_mayLinkTo_23 hw))) (gS_Things_mayLinkTo_22 hw))))))) (gS_Things_mayLinkTo_22 hw)))))
def g_Things_firstSlot_0 : z_T := (zq 1 (zi_iload 1 1) (zq 3 (zi_bipush 24 3) (zq 4 (zi_imul 4) (zi_iret))))
theorem gS_Things_firstSlot_0 (hw : z_Wd w) : z_S w zY_Things_firstSlot 0 g_Things_firstSlot_0 := (zq_S (zs_iload_n (k9 := 1) (by decide +kernel) rfl) (zq_S (zs_bipush (n := 24) (by decide +kernel) (by decide)) (zq_S (zs_imul (by decide +kernel)) (zs_iret (by decide +kernel) rfl))))
def g_Things_slotOfField_5 : z_T := (zq 6 (zi_iload 2 6) (zq 7 (zi_iconst 4 7) (zq 8 (zi_imul 8) (zq 9 (zi_iadd 9) (zq 10 (zi_iload 3 10) (zq 11 (zi_iadd 11) (zi_iret)))))))
theorem gS_Things_slotOfField_5 (hw : z_Wd w) : z_S w zY_Things_slotOfField 5 g_Things_slotOfField_5 := (zq_S (zs_iload_n (k9 := 2) (by decide +kernel) rfl) (zq_S (zs_iconst (n := 4) (by decide +kernel) (by decide)) (zq_S (zs_imul (by decide +kernel)) (zq_S (zs_iadd (by decide +kernel)) (zq_S (zs_iload_n (k9 := 3) (by decide +kernel) rfl) (zq_S (zs_iadd (by decide +kernel)) (zs_iret (by decide +kernel) rfl)))))))
def g_Things_slotOfField_0 : z_T := (zq 1 (zi_aload 0 1) (zi_iload 1 2))
theorem gS_Things_slotOfField_0 (hw : z_Wd w) : z_S w zY_Things_slotOfField 0 g_Things_slotOfField_0 := (zq_S (zs_aload_n (k9 := 0) (by decide +kernel) rfl) (zs_iload_n (k9 := 1) (by decide +kernel) rfl))
def g_Things_removeAll_0 : z_T := (zq 1 (zi_aload 0 1) (zq 2 (zi_iconst 0 2) (zq 5 (zi_put 4 3 (.int) 5) (zi_vret))))
theorem gS_Things_removeAll_0 (hw : z_Wd w) : z_S w zY_Things_removeAll 0 g_Things_removeAll_0 := (zq_S (zs_aload_n (k9 := 0) (by decide +kernel) rfl) (zq_S (zs_iconst (n := 0) (by decide +kernel) (by decide)) (zq_S (zs_put hw.1 (by decide +kernel) (zp_Things_22 hw) (fun h => by cases h)) (zs_vret (by decide +kernel) rfl))))
def g_Things_addRow_47 : z_T := (zq 48 (zi_aload 0 48) (zq 49 (zi_dup 49) (zq 52 (zi_get 4 3 52) (zq 53 (zi_iconst 1 53) (zq 54 (zi_iadd 54) (zq 57 (zi_put 4 3 (.int) 57) (zq 58 (zi_iload 2 58) (zi_iret))))))))
theorem gS_Things_addRow_47 (hw : z_Wd w) : z_S w zY_Things_addRow 47 g_Things_addRow_47 := (zq_S (zs_aload_n (k9 := 0) (by decide +kernel) rfl) (zq_S (zs_dup (by decide +kernel)) (zq_S (zs_get hw.1 (by decide +kernel) (zf_Things_22 hw)) (zq_S (zs_iconst (n := 1) (by decide +kernel) (by decide)) (zq_S (zs_iadd (by decide +kernel)) (zq_S (zs_put hw.1 (by decide +kernel) (zp_Things_22 hw) (fun h => by cases h)) (zq_S (zs_iload_n (k9 := 2) (by decide +kernel) rfl) (zs_iret (by decide +kernel) rfl))))))))
def g_Things_addRow_35 : z_T := (zq 36 (zi_iload 3 36) (zq 37 (zi_iadd 37) (zq 40 (zi_ldc2 (-1) 40) (zq 41 (zi_last 41) (zq 44 (zi_iinc 3 1 44) (zi_goto 21))))))
theorem gS_Things_addRow_35 (hw : z_Wd w) : z_S w zY_Things_addRow 35 g_Things_addRow_35 := (zq_S (zs_iload_n (k9 := 3) (by decide +kernel) rfl) (zq_S (zs_iadd (by decide +kernel)) (zq_S (zs_ldc2 (idx := 30) (by decide +kernel) (zw_311 hw)) (zq_S (zs_last hw.1 (by decide +kernel)) (zq_S (zs_iinc (n := 1) (by decide +kernel) (by decide) (by decide)) (zs_goto (off := -23) (by decide +kernel) (by decide)))))))
def g_Things_addRow_21 : z_T := (zq 22 (zi_iload 3 22) (zq 23 (zi_iload 1 23) (zb 26 47 (zi_icmp_ge 47 26) (zq 27 (zi_aload 0 27) (zq 30 (zi_get 4 2 30) (zq 31 (zi_aload 0 31) (zi_iload 2 32)))) g_Things_addRow_47)))
theorem gS_Things_addRow_21 (hw : z_Wd w) : z_S w zY_Things_addRow 21 g_Things_addRow_21 := (zq_S (zs_iload_n (k9 := 3) (by decide +kernel) rfl) (zq_S (zs_iload_n (k9 := 1) (by decide +kernel) rfl) (zb_S (zs_icmp_ge (off := 24) (by decide +kernel) (by decide)) (zq_S (zs_aload_n (k9 := 0) (by decide +kernel) rfl) (zq_S (zs_get hw.1 (by decide +kernel) (zf_Things_18 hw)) (zq_S (zs_aload_n (k9 := 0) (by decide +kernel) rfl) (zs_iload_n (k9 := 2) (by decide +kernel) rfl)))) (gS_Things_addRow_47 hw))))
def g_Things_addRow_0 : z_T := (zq 1 (zi_aload 0 1) (zq 4 (zi_get 4 3 4) (zq 5 (zi_istore 2 5) (zq 6 (zi_aload 0 6) (zq 9 (zi_get 4 0 9) (zq 10 (zi_iload 2 10) (zq 11 (zi_iconst (-1) 11) (zq 12 (zi_iast 12) (zq 13 (zi_aload 0 13) (zq 16 (zi_get 4 1 16) (zq 17 (zi_iload 2 17) (zq 18 (zi_iload 1 18) (zq 19 (zi_iast 19) (zq 20 (zi_iconst 0 20) (zi_istore 3 21)))))))))))))))
theorem gS_Things_addRow_0 (hw : z_Wd w) : z_S w zY_Things_addRow 0 g_Things_addRow_0 := (zq_S (zs_aload_n (k9 := 0) (by decide +kernel) rfl) (zq_S (zs_get hw.1 (by decide +kernel) (zf_Things_22 hw)) (zq_S (zs_istore_n (k9 := 2) (by decide +kernel) rfl (by decide)) (zq_S (zs_aload_n (k9 := 0) (by decide +kernel) rfl) (zq_S (zs_get hw.1 (by decide +kernel) (zf_Things_9 hw)) (zq_S (zs_iload_n (k9 := 2) (by decide +kernel) rfl) (zq_S (zs_iconst (n := (-1)) (by decide +kernel) (by decide)) (zq_S (zs_iast hw.1 (by decide +kernel)) (zq_S (zs_aload_n (k9 := 0) (by decide +kernel) rfl) (zq_S (zs_get hw.1 (by decide +kernel) (zf_Things_15 hw)) (zq_S (zs_iload_n (k9 := 2) (by decide +kernel) rfl) (zq_S (zs_iload_n (k9 := 1) (by decide +kernel) rfl) (zq_S (zs_iast hw.1 (by decide +kernel)) (zq_S (zs_iconst (n := 0) (by decide +kernel) (by decide)) (zs_istore_n (k9 := 3) (by decide +kernel) rfl (by decide))))))))))))))))
def g_Things_addRecord_52 : z_T := (zq 53 (zi_aload 0 53) (zq 54 (zi_dup 54) (zq 57 (zi_get 4 3 57) (zq 58 (zi_iconst 1 58) (zq 59 (zi_iadd 59) (zq 62 (zi_put 4 3 (.int) 62) (zq 63 (zi_iload 3 63) (zi_iret))))))))
theorem gS_Things_addRecord_52 (hw : z_Wd w) : z_S w zY_Things_addRecord 52 g_Things_addRecord_52 := (zq_S (zs_aload_n (k9 := 0) (by decide +kernel) rfl) (zq_S (zs_dup (by decide +kernel)) (zq_S (zs_get hw.1 (by decide +kernel) (zf_Things_22 hw)) (zq_S (zs_iconst (n := 1) (by decide +kernel) (by decide)) (zq_S (zs_iadd (by decide +kernel)) (zq_S (zs_put hw.1 (by decide +kernel) (zp_Things_22 hw) (fun h => by cases h)) (zq_S (zs_iload_n (k9 := 3) (by decide +kernel) rfl) (zs_iret (by decide +kernel) rfl))))))))
def g_Things_addRecord_46 : z_T := (zq 49 (zi_iinc 4 (-1) 49) (zi_goto 28))
theorem gS_Things_addRecord_46 (hw : z_Wd w) : z_S w zY_Things_addRecord 46 g_Things_addRecord_46 := (zq_S (zs_iinc (n := (-1)) (by decide +kernel) (by decide) (by decide)) (zs_goto (off := -21) (by decide +kernel) (by decide)))
def g_Things_addRecord_42 : z_T := (zi_aload 2 43)
theorem gS_Things_addRecord_42 (hw : z_Wd w) : z_S w zY_Things_addRecord 42 g_Things_addRecord_42 := (zs_aload_n (k9 := 2) (by decide +kernel) rfl)
def g_Things_addRecord_28 : z_T := (zq 30 (zi_iload 4 30) (zb 33 52 (zi_if_lt 52 33) (zq 34 (zi_aload 0 34) (zq 35 (zi_iload 3 35) (zq 36 (zi_aload 2 36) (zq 37 (zi_iload 1 37) (zi_iload 4 39))))) g_Things_addRecord_52))
theorem gS_Things_addRecord_28 (hw : z_Wd w) : z_S w zY_Things_addRecord 28 g_Things_addRecord_28 := (zq_S (zs_iload (by decide +kernel)) (zb_S (zs_if_lt (off := 22) (by decide +kernel) (by decide)) (zq_S (zs_aload_n (k9 := 0) (by decide +kernel) rfl) (zq_S (zs_iload_n (k9 := 3) (by decide +kernel) rfl) (zq_S (zs_aload_n (k9 := 2) (by decide +kernel) rfl) (zq_S (zs_iload_n (k9 := 1) (by decide +kernel) rfl) (zs_iload (by decide +kernel)))))) (gS_Things_addRecord_52 hw)))
def g_Things_addRecord_24 : z_T := (zq 25 (zi_iconst 1 25) (zq 26 (zi_isub 26) (zi_istore 4 28)))
theorem gS_Things_addRecord_24 (hw : z_Wd w) : z_S w zY_Things_addRecord 24 g_Things_addRecord_24 := (zq_S (zs_iconst (n := 1) (by decide +kernel) (by decide)) (zq_S (zs_isub (by decide +kernel)) (zs_istore (by decide +kernel) (by decide))))
def g_Things_addRecord_0 : z_T := (zq 1 (zi_aload 0 1) (zq 4 (zi_get 4 3 4) (zq 5 (zi_istore 3 5) (zq 6 (zi_aload 0 6) (zq 9 (zi_get 4 0 9) (zq 10 (zi_iload 3 10) (zq 11 (zi_iload 1 11) (zq 12 (zi_iast 12) (zq 13 (zi_aload 0 13) (zq 16 (zi_get 4 1 16) (zq 17 (zi_iload 3 17) (zq 18 (zi_iconst (-1) 18) (zq 19 (zi_iast 19) (zq 20 (zi_aload 2 20) (zi_iload 1 21)))))))))))))))
theorem gS_Things_addRecord_0 (hw : z_Wd w) : z_S w zY_Things_addRecord 0 g_Things_addRecord_0 := (zq_S (zs_aload_n (k9 := 0) (by decide +kernel) rfl) (zq_S (zs_get hw.1 (by decide +kernel) (zf_Things_22 hw)) (zq_S (zs_istore_n (k9 := 3) (by decide +kernel) rfl (by decide)) (zq_S (zs_aload_n (k9 := 0) (by decide +kernel) rfl) (zq_S (zs_get hw.1 (by decide +kernel) (zf_Things_9 hw)) (zq_S (zs_iload_n (k9 := 3) (by decide +kernel) rfl) (zq_S (zs_iload_n (k9 := 1) (by decide +kernel) rfl) (zq_S (zs_iast hw.1 (by decide +kernel)) (zq_S (zs_aload_n (k9 := 0) (by decide +kernel) rfl) (zq_S (zs_get hw.1 (by decide +kernel) (zf_Things_15 hw)) (zq_S (zs_iload_n (k9 := 3) (by decide +kernel) rfl) (zq_S (zs_iconst (n := (-1)) (by decide +kernel) (by decide)) (zq_S (zs_iast hw.1 (by decide +kernel)) (zq_S (zs_aload_n (k9 := 2) (by decide +kernel) rfl) (zs_iload_n (k9 := 1) (by decide +kernel) rfl)))))))))))))))
def g_Things_emptyFields_51 : z_T := (zi_vret)
theorem gS_Things_emptyFields_51 (hw : z_Wd w) : z_S w zY_Things_emptyFields 51 g_Things_emptyFields_51 := (zs_vret (by decide +kernel) rfl)
def g_Things_emptyFields_44 : z_T := (zq 45 (zi_last 45) (zq 48 (zi_iinc 4 1 48) (zi_goto 3)))
theorem gS_Things_emptyFields_44 (hw : z_Wd w) : z_S w zY_Things_emptyFields 44 g_Things_emptyFields_44 := (zq_S (zs_last hw.1 (by decide +kernel)) (zq_S (zs_iinc (n := 1) (by decide +kernel) (by decide) (by decide)) (zs_goto (off := -45) (by decide +kernel) (by decide))))
def g_Things_emptyFields_43 : z_T := (zq 44 (zi_lconst 0 44) g_Things_emptyFields_44)
theorem gS_Things_emptyFields_43 (hw : z_Wd w) : z_S w zY_Things_emptyFields 43 g_Things_emptyFields_43 := (zq_S (zs_lconst (n := 0) (by decide +kernel) (by decide)) (gS_Things_emptyFields_44 hw))
def g_Things_emptyFields_33 : z_T := (zq 34 (zi_iconst 4 34) (zb 37 43 (zi_icmp_ne 43 37) (zq 40 (zi_ldc2 (-1) 40) (zq 44 (zi_goto 44) g_Things_emptyFields_44)) g_Things_emptyFields_43))
theorem gS_Things_emptyFields_33 (hw : z_Wd w) : z_S w zY_Things_emptyFields 33 g_Things_emptyFields_33 := (zq_S (zs_iconst (n := 4) (by decide +kernel) (by decide)) (zb_S (zs_icmp_ne (off := 9) (by decide +kernel) (by decide)) (zq_S (zs_ldc2 (idx := 30) (by decide +kernel) (zw_311 hw)) (zq_S (zs_goto (off := 4) (by decide +kernel) (by decide)) (gS_Things_emptyFields_44 hw))) (gS_Things_emptyFields_43 hw)))
def g_Things_emptyFields_26 : z_T := (zq 27 (zi_aload 3 27) (zq 28 (zi_iload 2 28) (zi_iload 4 30)))
theorem gS_Things_emptyFields_26 (hw : z_Wd w) : z_S w zY_Things_emptyFields 26 g_Things_emptyFields_26 := (zq_S (zs_aload_n (k9 := 3) (by decide +kernel) rfl) (zq_S (zs_iload_n (k9 := 2) (by decide +kernel) rfl) (zs_iload (by decide +kernel))))
def g_Things_emptyFields_3 : z_T := (zq 5 (zi_iload 4 5) (zq 6 (zi_aload 3 6) (zq 9 (zi_get 2 4 9) (zq 10 (zi_iload 2 10) (zq 11 (zi_iald 11) (zb 14 51 (zi_icmp_ge 51 14) (zq 15 (zi_aload 0 15) (zq 18 (zi_get 4 2 18) (zq 19 (zi_aload 0 19) (zq 20 (zi_iload 1 20) (zq 21 (zi_iload 2 21) (zi_iload 4 23)))))) g_Things_emptyFields_51))))))
theorem gS_Things_emptyFields_3 (hw : z_Wd w) : z_S w zY_Things_emptyFields 3 g_Things_emptyFields_3 := (zq_S (zs_iload (by decide +kernel)) (zq_S (zs_aload_n (k9 := 3) (by decide +kernel) rfl) (zq_S (zs_get hw.1 (by decide +kernel) (zf_Things_49 hw)) (zq_S (zs_iload_n (k9 := 2) (by decide +kernel) rfl) (zq_S (zs_iald hw.1 (by decide +kernel)) (zb_S (zs_icmp_ge (off := 40) (by decide +kernel) (by decide)) (zq_S (zs_aload_n (k9 := 0) (by decide +kernel) rfl) (zq_S (zs_get hw.1 (by decide +kernel) (zf_Things_18 hw)) (zq_S (zs_aload_n (k9 := 0) (by decide +kernel) rfl) (zq_S (zs_iload_n (k9 := 1) (by decide +kernel) rfl) (zq_S (zs_iload_n (k9 := 2) (by decide +kernel) rfl) (zs_iload (by decide +kernel))))))) (gS_Things_emptyFields_51 hw)))))))
def g_Things_emptyFields_0 : z_T := (zq 1 (zi_iconst 0 1) (zi_istore 4 3))
theorem gS_Things_emptyFields_0 (hw : z_Wd w) : z_S w zY_Things_emptyFields 0 g_Things_emptyFields_0 := (zq_S (zs_iconst (n := 0) (by decide +kernel) (by decide)) (zs_istore (by decide +kernel) (by decide)))
end ZG
end
section
section ZG
variable {w : z_W}
def g_Side_init_26 : z_T := (zq 29 (zi_put 3 1 (.object "ThingStream$Things") 29) (zi_vret))
theorem gS_Side_init_26 (hw : z_Wd w) : z_S w zY_Side_init 26 g_Side_init_26 := (zq_S (zs_put hw.1 (by decide +kernel) (zp_Side_23 hw) (fun h => by cases h)) (zs_vret (by decide +kernel) rfl))
def g_Side_init_14 : z_T := (zq 17 (zi_put 3 0 (.object "ThingStream$Shapes") 17) (zq 18 (zi_aload 0 18) (zq 21 (zi_new 4 4 [.null, .null, .null, .int 0] 21) (zq 22 (zi_dup 22) (zi_iload 1 23)))))
theorem gS_Side_init_14 (hw : z_Wd w) : z_S w zY_Side_init 14 g_Side_init_14 := (zq_S (zs_put hw.1 (by decide +kernel) (zp_Side_14 hw) (fun _ => rfl)) (zq_S (zs_aload_n (k9 := 0) (by decide +kernel) rfl) (zq_S (zs_new hw.1 (by decide +kernel) (zN_Side_20 hw)) (zq_S (zs_dup (by decide +kernel)) (zs_iload_n (k9 := 1) (by decide +kernel) rfl)))))
def g_Side_init_4 : z_T := (zq 5 (zi_aload 0 5) (zq 8 (zi_new 2 7 [.null, .null, .null, .null, .null, .null, .null] 8) (zq 9 (zi_dup 9) (zi_bipush 6 11))))
theorem gS_Side_init_4 (hw : z_Wd w) : z_S w zY_Side_init 4 g_Side_init_4 := (zq_S (zs_aload_n (k9 := 0) (by decide +kernel) rfl) (zq_S (zs_new hw.1 (by decide +kernel) (zN_Side_9 hw)) (zq_S (zs_dup (by decide +kernel)) (zs_bipush (n := 6) (by decide +kernel) (by decide)))))
def g_Side_init_0 : z_T := (zi_aload 0 1)
theorem gS_Side_init_0 (hw : z_Wd w) : z_S w zY_Side_init 0 g_Side_init_0 := (zs_aload_n (k9 := 0) (by decide +kernel) rfl)
def g_Side_slotOf_65 : z_T := (zi_iret)
theorem gS_Side_slotOf_65 (hw : z_Wd w) : z_S w zY_Side_slotOf 65 g_Side_slotOf_65 := (zs_iret (by decide +kernel) rfl)
def g_Side_slotOf_54 : z_T := (zq 55 (zi_aload 0 55) (zq 58 (zi_get 3 1 58) (zq 59 (zi_iload 1 59) (zq 60 (zi_iload 2 60) (zi_iload 4 62)))))
theorem gS_Side_slotOf_54 (hw : z_Wd w) : z_S w zY_Side_slotOf 54 g_Side_slotOf_54 := (zq_S (zs_aload_n (k9 := 0) (by decide +kernel) rfl) (zq_S (zs_get hw.1 (by decide +kernel) (zf_Side_23 hw)) (zq_S (zs_iload_n (k9 := 1) (by decide +kernel) rfl) (zq_S (zs_iload_n (k9 := 2) (by decide +kernel) rfl) (zs_iload (by decide +kernel))))))
def g_Side_slotOf_42 : z_T := (zq 44 (zi_istore 4 44) (zq 46 (zi_iload 4 46) (zq 47 (zi_iconst (-1) 47) (zb 50 54 (zi_icmp_ne 54 50) (zq 51 (zi_iconst (-1) 51) (zq 65 (zi_goto 65) g_Side_slotOf_65)) g_Side_slotOf_54))))
theorem gS_Side_slotOf_42 (hw : z_Wd w) : z_S w zY_Side_slotOf 42 g_Side_slotOf_42 := (zq_S (zs_istore (by decide +kernel) (by decide)) (zq_S (zs_iload (by decide +kernel)) (zq_S (zs_iconst (n := (-1)) (by decide +kernel) (by decide)) (zb_S (zs_icmp_ne (off := 7) (by decide +kernel) (by decide)) (zq_S (zs_iconst (n := (-1)) (by decide +kernel) (by decide)) (zq_S (zs_goto (off := 14) (by decide +kernel) (by decide)) (gS_Side_slotOf_65 hw))) (gS_Side_slotOf_54 hw)))))
def g_Side_slotOf_33 : z_T := (zq 34 (zi_aload 0 34) (zq 37 (zi_get 3 0 37) (zq 38 (zi_iload 2 38) (zi_iload 3 39))))
theorem gS_Side_slotOf_33 (hw : z_Wd w) : z_S w zY_Side_slotOf 33 g_Side_slotOf_33 := (zq_S (zs_aload_n (k9 := 0) (by decide +kernel) rfl) (zq_S (zs_get hw.1 (by decide +kernel) (zf_Side_14 hw)) (zq_S (zs_iload_n (k9 := 2) (by decide +kernel) rfl) (zs_iload_n (k9 := 3) (by decide +kernel) rfl))))
def g_Side_slotOf_31 : z_T := (zq 32 (zi_iconst (-1) 32) (zi_iret))
theorem gS_Side_slotOf_31 (hw : z_Wd w) : z_S w zY_Side_slotOf 31 g_Side_slotOf_31 := (zq_S (zs_iconst (n := (-1)) (by decide +kernel) (by decide)) (zs_iret (by decide +kernel) rfl))
def g_Side_slotOf_28 : z_T := (zb 31 33 (zi_if_ne 33 31) g_Side_slotOf_31 g_Side_slotOf_33)
theorem gS_Side_slotOf_28 (hw : z_Wd w) : z_S w zY_Side_slotOf 28 g_Side_slotOf_28 := (zb_S (zs_if_ne (off := 5) (by decide +kernel) (by decide)) (gS_Side_slotOf_31 hw) (gS_Side_slotOf_33 hw))
def g_Side_slotOf_8 : z_T := (zb 11 31 (zi_if_eq 31 11) (zq 12 (zi_aload 0 12) (zq 15 (zi_get 3 0 15) (zq 16 (zi_aload 0 16) (zq 19 (zi_get 3 1 19) (zq 22 (zi_get 4 0 22) (zq 23 (zi_iload 1 23) (zq 24 (zi_iald 24) (zi_iload 2 25)))))))) g_Side_slotOf_31)
theorem gS_Side_slotOf_8 (hw : z_Wd w) : z_S w zY_Side_slotOf 8 g_Side_slotOf_8 := (zb_S (zs_if_eq (off := 23) (by decide +kernel) (by decide)) (zq_S (zs_aload_n (k9 := 0) (by decide +kernel) rfl) (zq_S (zs_get hw.1 (by decide +kernel) (zf_Side_14 hw)) (zq_S (zs_aload_n (k9 := 0) (by decide +kernel) rfl) (zq_S (zs_get hw.1 (by decide +kernel) (zf_Side_23 hw)) (zq_S (zs_get hw.1 (by decide +kernel) (zf_Side_31 hw)) (zq_S (zs_iload_n (k9 := 1) (by decide +kernel) rfl) (zq_S (zs_iald hw.1 (by decide +kernel)) (zs_iload_n (k9 := 2) (by decide +kernel) rfl)))))))) (gS_Side_slotOf_31 hw))
def g_Side_slotOf_0 : z_T := (zq 1 (zi_aload 0 1) (zq 4 (zi_get 3 1 4) (zi_iload 1 5)))
theorem gS_Side_slotOf_0 (hw : z_Wd w) : z_S w zY_Side_slotOf 0 g_Side_slotOf_0 := (zq_S (zs_aload_n (k9 := 0) (by decide +kernel) rfl) (zq_S (zs_get hw.1 (by decide +kernel) (zf_Side_23 hw)) (zs_iload_n (k9 := 1) (by decide +kernel) rfl)))
end ZG
end
section
section ZG
variable {w : z_W}
def g_Arrays_fill_20 : z_T := (zi_vret)
theorem gS_Arrays_fill_20 (hw : z_Wd w) : z_S w zY_Arrays_fill 20 g_Arrays_fill_20 := (zs_vret (by decide +kernel) rfl)
def g_Arrays_fill_5 : z_T := (zq 6 (zi_iload 2 6) (zq 7 (zi_iload 3 7) (zb 10 20 (zi_icmp_ge 20 10) (zq 11 (zi_aload 0 11) (zq 12 (zi_iload 2 12) (zq 13 (zi_iload 1 13) (zq 14 (zi_iast 14) (zq 17 (zi_iinc 2 1 17) (zi_goto 5)))))) g_Arrays_fill_20)))
theorem gS_Arrays_fill_5 (hw : z_Wd w) : z_S w zY_Arrays_fill 5 g_Arrays_fill_5 := (zq_S (zs_iload_n (k9 := 2) (by decide +kernel) rfl) (zq_S (zs_iload_n (k9 := 3) (by decide +kernel) rfl) (zb_S (zs_icmp_ge (off := 13) (by decide +kernel) (by decide)) (zq_S (zs_aload_n (k9 := 0) (by decide +kernel) rfl) (zq_S (zs_iload_n (k9 := 2) (by decide +kernel) rfl) (zq_S (zs_iload_n (k9 := 1) (by decide +kernel) rfl) (zq_S (zs_iast hw.1 (by decide +kernel)) (zq_S (zs_iinc (n := 1) (by decide +kernel) (by decide) (by decide)) (zs_goto (off := -12) (by decide +kernel) (by decide))))))) (gS_Arrays_fill_20 hw))))
def g_Arrays_fill_0 : z_T := (zq 1 (zi_iconst 0 1) (zq 2 (zi_istore 2 2) (zq 3 (zi_aload 0 3) (zq 4 (zi_alen 4) (zi_istore 3 5)))))
theorem gS_Arrays_fill_0 (hw : z_Wd w) : z_S w zY_Arrays_fill 0 g_Arrays_fill_0 := (zq_S (zs_iconst (n := 0) (by decide +kernel) (by decide)) (zq_S (zs_istore_n (k9 := 2) (by decide +kernel) rfl (by decide)) (zq_S (zs_aload_n (k9 := 0) (by decide +kernel) rfl) (zq_S (zs_alen hw.1 (by decide +kernel)) (zs_istore_n (k9 := 3) (by decide +kernel) rfl (by decide))))))
end ZG
end
section
section ZG
variable {w : z_W}
def g_Writer_init_4 : z_T := (zq 5 (zi_aload 0 5) (zq 6 (zi_aload 1 6) (zq 9 (zi_put 5 0 (.object "ThingStream$Bytes") 9) (zq 10 (zi_aload 0 10) (zq 11 (zi_aload 2 11) (zq 14 (zi_put 5 1 (.object "ThingStream$Side") 14) (zq 15 (zi_aload 0 15) (zq 17 (zi_bipush 24 17) (zq 19 (zi_newa 0 4 (fun n => (n, .inl fun _ => 0)) 19) (zq 22 (zi_put 5 2 (.array .int) 22) (zq 23 (zi_aload 0 23) (zq 25 (zi_bipush 6 25) (zq 27 (zi_newa 0 4 (fun n => (n, .inl fun _ => 0)) 27) (zq 30 (zi_put 5 3 (.array .int) 30) (zi_vret)))))))))))))))
theorem gS_Writer_init_4 (hw : z_Wd w) : z_S w zY_Writer_init 4 g_Writer_init_4 := (zq_S (zs_aload_n (k9 := 0) (by decide +kernel) rfl) (zq_S (zs_aload_n (k9 := 1) (by decide +kernel) rfl) (zq_S (zs_put hw.1 (by decide +kernel) (zp_Writer_9 hw) (fun _ => rfl)) (zq_S (zs_aload_n (k9 := 0) (by decide +kernel) rfl) (zq_S (zs_aload_n (k9 := 2) (by decide +kernel) rfl) (zq_S (zs_put hw.1 (by decide +kernel) (zp_Writer_15 hw) (fun _ => rfl)) (zq_S (zs_aload_n (k9 := 0) (by decide +kernel) rfl) (zq_S (zs_bipush (n := 24) (by decide +kernel) (by decide)) (zq_S (zs_newi hw.1 (by decide +kernel) (zw_66 hw)) (zq_S (zs_put hw.1 (by decide +kernel) (zp_Writer_19 hw) (fun _ => rfl)) (zq_S (zs_aload_n (k9 := 0) (by decide +kernel) rfl) (zq_S (zs_bipush (n := 6) (by decide +kernel) (by decide)) (zq_S (zs_newi hw.1 (by decide +kernel) (zw_66 hw)) (zq_S (zs_put hw.1 (by decide +kernel) (zp_Writer_23 hw) (fun _ => rfl)) (zs_vret (by decide +kernel) rfl)))))))))))))))
def g_Writer_init_0 : z_T := (zi_aload 0 1)
theorem gS_Writer_init_0 (hw : z_Wd w) : z_S w zY_Writer_init 0 g_Writer_init_0 := (zs_aload_n (k9 := 0) (by decide +kernel) rfl)
def g_Writer_begin_48 : z_T := (zi_vret)
theorem gS_Writer_begin_48 (hw : z_Wd w) : z_S w zY_Writer_begin 48 g_Writer_begin_48 := (zs_vret (by decide +kernel) rfl)
def g_Writer_begin_38 : z_T := (zq 39 (zi_aload 0 39) (zq 42 (zi_get 5 0 42) (zi_sipush 237 45)))
theorem gS_Writer_begin_38 (hw : z_Wd w) : z_S w zY_Writer_begin 38 g_Writer_begin_38 := (zq_S (zs_aload_n (k9 := 0) (by decide +kernel) rfl) (zq_S (zs_get hw.1 (by decide +kernel) (zf_Writer_9 hw)) (zs_sipush (n := 237) (by decide +kernel) (by decide))))
def g_Writer_begin_28 : z_T := (zq 29 (zi_aload 0 29) (zq 32 (zi_get 5 0 32) (zi_sipush 172 35)))
theorem gS_Writer_begin_28 (hw : z_Wd w) : z_S w zY_Writer_begin 28 g_Writer_begin_28 := (zq_S (zs_aload_n (k9 := 0) (by decide +kernel) rfl) (zq_S (zs_get hw.1 (by decide +kernel) (zf_Writer_9 hw)) (zs_sipush (n := 172) (by decide +kernel) (by decide))))
def g_Writer_begin_16 : z_T := (zq 17 (zi_aload 0 17) (zq 18 (zi_iconst 0 18) (zq 21 (zi_put 5 4 (.int) 21) (zq 22 (zi_aload 0 22) (zi_get 5 0 25)))))
theorem gS_Writer_begin_16 (hw : z_Wd w) : z_S w zY_Writer_begin 16 g_Writer_begin_16 := (zq_S (zs_aload_n (k9 := 0) (by decide +kernel) rfl) (zq_S (zs_iconst (n := 0) (by decide +kernel) (by decide)) (zq_S (zs_put hw.1 (by decide +kernel) (zp_Writer_32 hw) (fun h => by cases h)) (zq_S (zs_aload_n (k9 := 0) (by decide +kernel) rfl) (zs_get hw.1 (by decide +kernel) (zf_Writer_9 hw))))))
def g_Writer_begin_8 : z_T := (zq 9 (zi_aload 0 9) (zq 12 (zi_get 5 3 12) (zi_iconst (-1) 13)))
theorem gS_Writer_begin_8 (hw : z_Wd w) : z_S w zY_Writer_begin 8 g_Writer_begin_8 := (zq_S (zs_aload_n (k9 := 0) (by decide +kernel) rfl) (zq_S (zs_get hw.1 (by decide +kernel) (zf_Writer_23 hw)) (zs_iconst (n := (-1)) (by decide +kernel) (by decide))))
def g_Writer_begin_0 : z_T := (zq 1 (zi_aload 0 1) (zq 4 (zi_get 5 2 4) (zi_iconst (-1) 5)))
theorem gS_Writer_begin_0 (hw : z_Wd w) : z_S w zY_Writer_begin 0 g_Writer_begin_0 := (zq_S (zs_aload_n (k9 := 0) (by decide +kernel) rfl) (zq_S (zs_get hw.1 (by decide +kernel) (zf_Writer_19 hw)) (zs_iconst (n := (-1)) (by decide +kernel) (by decide))))
def g_Writer_writeValue_84 : z_T := (zi_vret)
theorem gS_Writer_writeValue_84 (hw : z_Wd w) : z_S w zY_Writer_writeValue 84 g_Writer_writeValue_84 := (zs_vret (by decide +kernel) rfl)
def g_Writer_writeValue_78 : z_T := (zq 79 (zi_aload 0 79) (zq 80 (zi_iload 1 80) (zi_iload 2 81)))
theorem gS_Writer_writeValue_78 (hw : z_Wd w) : z_S w zY_Writer_writeValue 78 g_Writer_writeValue_78 := (zq_S (zs_aload_n (k9 := 0) (by decide +kernel) rfl) (zq_S (zs_iload_n (k9 := 1) (by decide +kernel) rfl) (zs_iload_n (k9 := 2) (by decide +kernel) rfl)))
def g_Writer_writeValue_75 : z_T := (zq 84 (zi_goto 84) g_Writer_writeValue_84)
theorem gS_Writer_writeValue_75 (hw : z_Wd w) : z_S w zY_Writer_writeValue 75 g_Writer_writeValue_75 := (zq_S (zs_goto (off := 9) (by decide +kernel) (by decide)) (gS_Writer_writeValue_84 hw))
def g_Writer_writeValue_66 : z_T := (zb 69 78 (zi_if_eq 78 69) (zq 70 (zi_aload 0 70) (zq 71 (zi_iload 1 71) (zi_iload 2 72))) g_Writer_writeValue_78)
theorem gS_Writer_writeValue_66 (hw : z_Wd w) : z_S w zY_Writer_writeValue 66 g_Writer_writeValue_66 := (zb_S (zs_if_eq (off := 12) (by decide +kernel) (by decide)) (zq_S (zs_aload_n (k9 := 0) (by decide +kernel) rfl) (zq_S (zs_iload_n (k9 := 1) (by decide +kernel) rfl) (zs_iload_n (k9 := 2) (by decide +kernel) rfl))) (gS_Writer_writeValue_78 hw))
def g_Writer_writeValue_55 : z_T := (zq 56 (zi_aload 0 56) (zq 59 (zi_get 5 1 59) (zq 62 (zi_get 3 1 62) (zi_iload 1 63))))
theorem gS_Writer_writeValue_55 (hw : z_Wd w) : z_S w zY_Writer_writeValue 55 g_Writer_writeValue_55 := (zq_S (zs_aload_n (k9 := 0) (by decide +kernel) rfl) (zq_S (zs_get hw.1 (by decide +kernel) (zf_Writer_15 hw)) (zq_S (zs_get hw.1 (by decide +kernel) (zf_Writer_45 hw)) (zs_iload_n (k9 := 1) (by decide +kernel) rfl))))
def g_Writer_writeValue_52 : z_T := (zq 84 (zi_goto 84) g_Writer_writeValue_84)
theorem gS_Writer_writeValue_52 (hw : z_Wd w) : z_S w zY_Writer_writeValue 52 g_Writer_writeValue_52 := (zq_S (zs_goto (off := 32) (by decide +kernel) (by decide)) (gS_Writer_writeValue_84 hw))
def g_Writer_writeValue_32 : z_T := (zq 33 (zi_aload 0 33) (zq 36 (zi_get 5 2 36) (zq 37 (zi_iload 1 37) (zq 38 (zi_iald 38) (zq 39 (zi_iconst (-1) 39) (zb 42 55 (zi_icmp_eq 55 42) (zq 43 (zi_aload 0 43) (zq 44 (zi_aload 0 44) (zq 47 (zi_get 5 2 47) (zq 48 (zi_iload 1 48) (zi_iald 49))))) g_Writer_writeValue_55))))))
theorem gS_Writer_writeValue_32 (hw : z_Wd w) : z_S w zY_Writer_writeValue 32 g_Writer_writeValue_32 := (zq_S (zs_aload_n (k9 := 0) (by decide +kernel) rfl) (zq_S (zs_get hw.1 (by decide +kernel) (zf_Writer_19 hw)) (zq_S (zs_iload_n (k9 := 1) (by decide +kernel) rfl) (zq_S (zs_iald hw.1 (by decide +kernel)) (zq_S (zs_iconst (n := (-1)) (by decide +kernel) (by decide)) (zb_S (zs_icmp_eq (off := 16) (by decide +kernel) (by decide)) (zq_S (zs_aload_n (k9 := 0) (by decide +kernel) rfl) (zq_S (zs_aload_n (k9 := 0) (by decide +kernel) rfl) (zq_S (zs_get hw.1 (by decide +kernel) (zf_Writer_19 hw)) (zq_S (zs_iload_n (k9 := 1) (by decide +kernel) rfl) (zs_iald hw.1 (by decide +kernel)))))) (gS_Writer_writeValue_55 hw)))))))
def g_Writer_writeValue_29 : z_T := (zq 84 (zi_goto 84) g_Writer_writeValue_84)
theorem gS_Writer_writeValue_29 (hw : z_Wd w) : z_S w zY_Writer_writeValue 29 g_Writer_writeValue_29 := (zq_S (zs_goto (off := 55) (by decide +kernel) (by decide)) (gS_Writer_writeValue_84 hw))
def g_Writer_writeValue_20 : z_T := (zq 21 (zi_aload 0 21) (zq 24 (zi_get 5 0 24) (zi_bipush 112 26)))
theorem gS_Writer_writeValue_20 (hw : z_Wd w) : z_S w zY_Writer_writeValue 20 g_Writer_writeValue_20 := (zq_S (zs_aload_n (k9 := 0) (by decide +kernel) rfl) (zq_S (zs_get hw.1 (by decide +kernel) (zf_Writer_9 hw)) (zs_bipush (n := 112) (by decide +kernel) (by decide))))
def g_Writer_writeValue_11 : z_T := (zq 14 (zi_if_eq 20 14) (zq 15 (zi_iload 2 15) (zq 17 (zi_bipush 25 17) (zq 32 (zi_icmp_le 32 20) g_Writer_writeValue_32))))
theorem gS_Writer_writeValue_11 (hw : z_Wd w) : z_S w zY_Writer_writeValue 11 g_Writer_writeValue_11 := (zq_S (zs_if_eq (off := 9) (by decide +kernel) (by decide)) (zq_S (zs_iload_n (k9 := 2) (by decide +kernel) rfl) (zq_S (zs_bipush (n := 25) (by decide +kernel) (by decide)) (zq_S (zs_icmp_le (off := 15) (by decide +kernel) (by decide)) (gS_Writer_writeValue_32 hw)))))
def g_Writer_writeValue_0 : z_T := (zq 1 (zi_aload 0 1) (zq 4 (zi_get 5 1 4) (zq 7 (zi_get 3 1 7) (zi_iload 1 8))))
theorem gS_Writer_writeValue_0 (hw : z_Wd w) : z_S w zY_Writer_writeValue 0 g_Writer_writeValue_0 := (zq_S (zs_aload_n (k9 := 0) (by decide +kernel) rfl) (zq_S (zs_get hw.1 (by decide +kernel) (zf_Writer_15 hw)) (zq_S (zs_get hw.1 (by decide +kernel) (zf_Writer_45 hw)) (zs_iload_n (k9 := 1) (by decide +kernel) rfl))))
def g_Writer_writeRow_99 : z_T := (zi_vret)
theorem gS_Writer_writeRow_99 (hw : z_Wd w) : z_S w zY_Writer_writeRow 99 g_Writer_writeRow_99 := (zs_vret (by decide +kernel) rfl)
def g_Writer_writeRow_93 : z_T := (zq 96 (zi_iinc 4 1 96) (zi_goto 53))
theorem gS_Writer_writeRow_93 (hw : z_Wd w) : z_S w zY_Writer_writeRow 93 g_Writer_writeRow_93 := (zq_S (zs_iinc (n := 1) (by decide +kernel) (by decide) (by decide)) (zs_goto (off := -43) (by decide +kernel) (by decide)))
def g_Writer_writeRow_53 : z_T := (zq 55 (zi_iload 4 55) (zq 56 (zi_aload 0 56) (zq 59 (zi_get 5 1 59) (zq 62 (zi_get 3 1 62) (zq 65 (zi_get 4 1 65) (zq 66 (zi_iload 1 66) (zq 67 (zi_iald 67) (zb 70 99 (zi_icmp_ge 99 70) (zq 71 (zi_aload 0 71) (zq 72 (zi_aload 0 72) (zq 75 (zi_get 5 1 75) (zq 78 (zi_get 3 1 78) (zq 81 (zi_get 4 2 81) (zq 82 (zi_iload 3 82) (zq 84 (zi_iload 4 84) (zq 85 (zi_iadd 85) (zq 86 (zi_lald 86) (zq 87 (zi_l2i 87) (zq 88 (zi_iload 2 88) (zq 89 (zi_iconst 1 89) (zi_iadd 90))))))))))))) g_Writer_writeRow_99))))))))
theorem gS_Writer_writeRow_53 (hw : z_Wd w) : z_S w zY_Writer_writeRow 53 g_Writer_writeRow_53 := (zq_S (zs_iload (by decide +kernel)) (zq_S (zs_aload_n (k9 := 0) (by decide +kernel) rfl) (zq_S (zs_get hw.1 (by decide +kernel) (zf_Writer_15 hw)) (zq_S (zs_get hw.1 (by decide +kernel) (zf_Writer_45 hw)) (zq_S (zs_get hw.1 (by decide +kernel) (zf_Writer_70 hw)) (zq_S (zs_iload_n (k9 := 1) (by decide +kernel) rfl) (zq_S (zs_iald hw.1 (by decide +kernel)) (zb_S (zs_icmp_ge (off := 32) (by decide +kernel) (by decide)) (zq_S (zs_aload_n (k9 := 0) (by decide +kernel) rfl) (zq_S (zs_aload_n (k9 := 0) (by decide +kernel) rfl) (zq_S (zs_get hw.1 (by decide +kernel) (zf_Writer_15 hw)) (zq_S (zs_get hw.1 (by decide +kernel) (zf_Writer_45 hw)) (zq_S (zs_get hw.1 (by decide +kernel) (zf_Writer_81 hw)) (zq_S (zs_iload_n (k9 := 3) (by decide +kernel) rfl) (zq_S (zs_iload (by decide +kernel)) (zq_S (zs_iadd (by decide +kernel)) (zq_S (zs_lald hw.1 (by decide +kernel)) (zq_S (zs_l2i (by decide +kernel)) (zq_S (zs_iload_n (k9 := 2) (by decide +kernel) rfl) (zq_S (zs_iconst (n := 1) (by decide +kernel) (by decide)) (zs_iadd (by decide +kernel)))))))))))))) (gS_Writer_writeRow_99 hw)))))))))
def g_Writer_writeRow_49 : z_T := (zq 50 (zi_istore 3 50) (zq 51 (zi_iconst 0 51) (zi_istore 4 53)))
theorem gS_Writer_writeRow_49 (hw : z_Wd w) : z_S w zY_Writer_writeRow 49 g_Writer_writeRow_49 := (zq_S (zs_istore_n (k9 := 3) (by decide +kernel) rfl (by decide)) (zq_S (zs_iconst (n := 0) (by decide +kernel) (by decide)) (zs_istore (by decide +kernel) (by decide))))
def g_Writer_writeRow_37 : z_T := (zq 38 (zi_iast 38) (zq 39 (zi_aload 0 39) (zq 42 (zi_get 5 1 42) (zq 45 (zi_get 3 1 45) (zi_iload 1 46)))))
theorem gS_Writer_writeRow_37 (hw : z_Wd w) : z_S w zY_Writer_writeRow 37 g_Writer_writeRow_37 := (zq_S (zs_iast hw.1 (by decide +kernel)) (zq_S (zs_aload_n (k9 := 0) (by decide +kernel) rfl) (zq_S (zs_get hw.1 (by decide +kernel) (zf_Writer_15 hw)) (zq_S (zs_get hw.1 (by decide +kernel) (zf_Writer_45 hw)) (zs_iload_n (k9 := 1) (by decide +kernel) rfl)))))
def g_Writer_writeRow_28 : z_T := (zq 29 (zi_aload 0 29) (zq 32 (zi_get 5 2 32) (zq 33 (zi_iload 1 33) (zi_aload 0 34))))
theorem gS_Writer_writeRow_28 (hw : z_Wd w) : z_S w zY_Writer_writeRow 28 g_Writer_writeRow_28 := (zq_S (zs_aload_n (k9 := 0) (by decide +kernel) rfl) (zq_S (zs_get hw.1 (by decide +kernel) (zf_Writer_19 hw)) (zq_S (zs_iload_n (k9 := 1) (by decide +kernel) rfl) (zs_aload_n (k9 := 0) (by decide +kernel) rfl))))
def g_Writer_writeRow_9 : z_T := (zq 10 (zi_aload 0 10) (zq 13 (zi_get 5 0 13) (zq 14 (zi_aload 0 14) (zq 17 (zi_get 5 1 17) (zq 20 (zi_get 3 1 20) (zq 23 (zi_get 4 1 23) (zq 24 (zi_iload 1 24) (zi_iald 25))))))))
theorem gS_Writer_writeRow_9 (hw : z_Wd w) : z_S w zY_Writer_writeRow 9 g_Writer_writeRow_9 := (zq_S (zs_aload_n (k9 := 0) (by decide +kernel) rfl) (zq_S (zs_get hw.1 (by decide +kernel) (zf_Writer_9 hw)) (zq_S (zs_aload_n (k9 := 0) (by decide +kernel) rfl) (zq_S (zs_get hw.1 (by decide +kernel) (zf_Writer_15 hw)) (zq_S (zs_get hw.1 (by decide +kernel) (zf_Writer_45 hw)) (zq_S (zs_get hw.1 (by decide +kernel) (zf_Writer_70 hw)) (zq_S (zs_iload_n (k9 := 1) (by decide +kernel) rfl) (zs_iald hw.1 (by decide +kernel)))))))))
def g_Writer_writeRow_0 : z_T := (zq 1 (zi_aload 0 1) (zq 4 (zi_get 5 0 4) (zi_bipush 117 6)))
theorem gS_Writer_writeRow_0 (hw : z_Wd w) : z_S w zY_Writer_writeRow 0 g_Writer_writeRow_0 := (zq_S (zs_aload_n (k9 := 0) (by decide +kernel) rfl) (zq_S (zs_get hw.1 (by decide +kernel) (zf_Writer_9 hw)) (zs_bipush (n := 117) (by decide +kernel) (by decide))))
def g_Writer_writeRecord_82 : z_T := (zi_vret)
theorem gS_Writer_writeRecord_82 (hw : z_Wd w) : z_S w zY_Writer_writeRecord 82 g_Writer_writeRecord_82 := (zs_vret (by decide +kernel) rfl)
def g_Writer_writeRecord_76 : z_T := (zq 79 (zi_iinc 4 (-1) 79) (zi_goto 52))
theorem gS_Writer_writeRecord_76 (hw : z_Wd w) : z_S w zY_Writer_writeRecord 76 g_Writer_writeRecord_76 := (zq_S (zs_iinc (n := (-1)) (by decide +kernel) (by decide) (by decide)) (zs_goto (off := -27) (by decide +kernel) (by decide)))
def g_Writer_writeRecord_72 : z_T := (zi_iload 2 73)
theorem gS_Writer_writeRecord_72 (hw : z_Wd w) : z_S w zY_Writer_writeRecord 72 g_Writer_writeRecord_72 := (zs_iload_n (k9 := 2) (by decide +kernel) rfl)
def g_Writer_writeRecord_52 : z_T := (zq 54 (zi_iload 4 54) (zb 57 82 (zi_if_lt 82 57) (zq 58 (zi_aload 0 58) (zq 59 (zi_iload 1 59) (zq 60 (zi_aload 0 60) (zq 63 (zi_get 5 1 63) (zq 66 (zi_get 3 0 66) (zq 67 (zi_iload 3 67) (zi_iload 4 69))))))) g_Writer_writeRecord_82))
theorem gS_Writer_writeRecord_52 (hw : z_Wd w) : z_S w zY_Writer_writeRecord 52 g_Writer_writeRecord_52 := (zq_S (zs_iload (by decide +kernel)) (zb_S (zs_if_lt (off := 28) (by decide +kernel) (by decide)) (zq_S (zs_aload_n (k9 := 0) (by decide +kernel) rfl) (zq_S (zs_iload_n (k9 := 1) (by decide +kernel) rfl) (zq_S (zs_aload_n (k9 := 0) (by decide +kernel) rfl) (zq_S (zs_get hw.1 (by decide +kernel) (zf_Writer_15 hw)) (zq_S (zs_get hw.1 (by decide +kernel) (zf_Writer_94 hw)) (zq_S (zs_iload_n (k9 := 3) (by decide +kernel) rfl) (zs_iload (by decide +kernel)))))))) (gS_Writer_writeRecord_82 hw)))
def g_Writer_writeRecord_48 : z_T := (zq 49 (zi_iconst 1 49) (zq 50 (zi_isub 50) (zi_istore 4 52)))
theorem gS_Writer_writeRecord_48 (hw : z_Wd w) : z_S w zY_Writer_writeRecord 48 g_Writer_writeRecord_48 := (zq_S (zs_iconst (n := 1) (by decide +kernel) (by decide)) (zq_S (zs_isub (by decide +kernel)) (zs_istore (by decide +kernel) (by decide))))
def g_Writer_writeRecord_36 : z_T := (zq 37 (zi_iast 37) (zq 38 (zi_aload 0 38) (zq 41 (zi_get 5 1 41) (zq 44 (zi_get 3 0 44) (zi_iload 3 45)))))
theorem gS_Writer_writeRecord_36 (hw : z_Wd w) : z_S w zY_Writer_writeRecord 36 g_Writer_writeRecord_36 := (zq_S (zs_iast hw.1 (by decide +kernel)) (zq_S (zs_aload_n (k9 := 0) (by decide +kernel) rfl) (zq_S (zs_get hw.1 (by decide +kernel) (zf_Writer_15 hw)) (zq_S (zs_get hw.1 (by decide +kernel) (zf_Writer_94 hw)) (zs_iload_n (k9 := 3) (by decide +kernel) rfl)))))
def g_Writer_writeRecord_27 : z_T := (zq 28 (zi_aload 0 28) (zq 31 (zi_get 5 2 31) (zq 32 (zi_iload 1 32) (zi_aload 0 33))))
theorem gS_Writer_writeRecord_27 (hw : z_Wd w) : z_S w zY_Writer_writeRecord 27 g_Writer_writeRecord_27 := (zq_S (zs_aload_n (k9 := 0) (by decide +kernel) rfl) (zq_S (zs_get hw.1 (by decide +kernel) (zf_Writer_19 hw)) (zq_S (zs_iload_n (k9 := 1) (by decide +kernel) rfl) (zs_aload_n (k9 := 0) (by decide +kernel) rfl))))
def g_Writer_writeRecord_22 : z_T := (zq 23 (zi_aload 0 23) (zi_iload 3 24))
theorem gS_Writer_writeRecord_22 (hw : z_Wd w) : z_S w zY_Writer_writeRecord 22 g_Writer_writeRecord_22 := (zq_S (zs_aload_n (k9 := 0) (by decide +kernel) rfl) (zs_iload_n (k9 := 3) (by decide +kernel) rfl))
def g_Writer_writeRecord_0 : z_T := (zq 1 (zi_aload 0 1) (zq 4 (zi_get 5 1 4) (zq 7 (zi_get 3 1 7) (zq 10 (zi_get 4 0 10) (zq 11 (zi_iload 1 11) (zq 12 (zi_iald 12) (zq 13 (zi_istore 3 13) (zq 14 (zi_aload 0 14) (zq 17 (zi_get 5 0 17) (zi_bipush 115 19))))))))))
theorem gS_Writer_writeRecord_0 (hw : z_Wd w) : z_S w zY_Writer_writeRecord 0 g_Writer_writeRecord_0 := (zq_S (zs_aload_n (k9 := 0) (by decide +kernel) rfl) (zq_S (zs_get hw.1 (by decide +kernel) (zf_Writer_15 hw)) (zq_S (zs_get hw.1 (by decide +kernel) (zf_Writer_45 hw)) (zq_S (zs_get hw.1 (by decide +kernel) (zf_Writer_88 hw)) (zq_S (zs_iload_n (k9 := 1) (by decide +kernel) rfl) (zq_S (zs_iald hw.1 (by decide +kernel)) (zq_S (zs_istore_n (k9 := 3) (by decide +kernel) rfl (by decide)) (zq_S (zs_aload_n (k9 := 0) (by decide +kernel) rfl) (zq_S (zs_get hw.1 (by decide +kernel) (zf_Writer_9 hw)) (zs_bipush (n := 115) (by decide +kernel) (by decide)))))))))))
def g_Writer_writeFields_98 : z_T := (zi_vret)
theorem gS_Writer_writeFields_98 (hw : z_Wd w) : z_S w zY_Writer_writeFields 98 g_Writer_writeFields_98 := (zs_vret (by decide +kernel) rfl)
def g_Writer_writeFields_92 : z_T := (zq 95 (zi_iinc 4 1 95) (zi_goto 3))
theorem gS_Writer_writeFields_92 (hw : z_Wd w) : z_S w zY_Writer_writeFields 92 g_Writer_writeFields_92 := (zq_S (zs_iinc (n := 1) (by decide +kernel) (by decide) (by decide)) (zs_goto (off := -92) (by decide +kernel) (by decide)))
def g_Writer_writeFields_81 : z_T := (zq 82 (zi_aload 0 82) (zq 84 (zi_lload 5 84) (zi_iload 7 86)))
theorem gS_Writer_writeFields_81 (hw : z_Wd w) : z_S w zY_Writer_writeFields 81 g_Writer_writeFields_81 := (zq_S (zs_aload_n (k9 := 0) (by decide +kernel) rfl) (zq_S (zs_lload (by decide +kernel)) (zs_iload (by decide +kernel))))
def g_Writer_writeFields_78 : z_T := (zq 92 (zi_goto 92) g_Writer_writeFields_92)
theorem gS_Writer_writeFields_78 (hw : z_Wd w) : z_S w zY_Writer_writeFields 78 g_Writer_writeFields_78 := (zq_S (zs_goto (off := 14) (by decide +kernel) (by decide)) (gS_Writer_writeFields_92 hw))
def g_Writer_writeFields_60 : z_T := (zq 62 (zi_istore 7 62) (zq 64 (zi_iload 7 64) (zq 65 (zi_iconst 4 65) (zb 68 81 (zi_icmp_ne 81 68) (zq 69 (zi_aload 0 69) (zq 71 (zi_lload 5 71) (zq 72 (zi_l2i 72) (zq 73 (zi_iload 3 73) (zq 74 (zi_iconst 1 74) (zi_iadd 75)))))) g_Writer_writeFields_81))))
theorem gS_Writer_writeFields_60 (hw : z_Wd w) : z_S w zY_Writer_writeFields 60 g_Writer_writeFields_60 := (zq_S (zs_istore (by decide +kernel) (by decide)) (zq_S (zs_iload (by decide +kernel)) (zq_S (zs_iconst (n := 4) (by decide +kernel) (by decide)) (zb_S (zs_icmp_ne (off := 16) (by decide +kernel) (by decide)) (zq_S (zs_aload_n (k9 := 0) (by decide +kernel) rfl) (zq_S (zs_lload (by decide +kernel)) (zq_S (zs_l2i (by decide +kernel)) (zq_S (zs_iload_n (k9 := 3) (by decide +kernel) rfl) (zq_S (zs_iconst (n := 1) (by decide +kernel) (by decide)) (zs_iadd (by decide +kernel))))))) (gS_Writer_writeFields_81 hw)))))
def g_Writer_writeFields_44 : z_T := (zq 45 (zi_lald 45) (zq 47 (zi_lstore 5 47) (zq 48 (zi_aload 0 48) (zq 51 (zi_get 5 1 51) (zq 54 (zi_get 3 0 54) (zq 55 (zi_iload 2 55) (zi_iload 4 57)))))))
theorem gS_Writer_writeFields_44 (hw : z_Wd w) : z_S w zY_Writer_writeFields 44 g_Writer_writeFields_44 := (zq_S (zs_lald hw.1 (by decide +kernel)) (zq_S (zs_lstore (by decide +kernel) (by decide)) (zq_S (zs_aload_n (k9 := 0) (by decide +kernel) rfl) (zq_S (zs_get hw.1 (by decide +kernel) (zf_Writer_15 hw)) (zq_S (zs_get hw.1 (by decide +kernel) (zf_Writer_94 hw)) (zq_S (zs_iload_n (k9 := 2) (by decide +kernel) rfl) (zs_iload (by decide +kernel))))))))
def g_Writer_writeFields_3 : z_T := (zq 5 (zi_iload 4 5) (zq 6 (zi_aload 0 6) (zq 9 (zi_get 5 1 9) (zq 12 (zi_get 3 0 12) (zq 15 (zi_get 2 4 15) (zq 16 (zi_iload 2 16) (zq 17 (zi_iald 17) (zb 20 98 (zi_icmp_ge 98 20) (zq 21 (zi_aload 0 21) (zq 24 (zi_get 5 1 24) (zq 27 (zi_get 3 1 27) (zq 30 (zi_get 4 2 30) (zq 31 (zi_aload 0 31) (zq 34 (zi_get 5 1 34) (zq 37 (zi_get 3 1 37) (zq 38 (zi_iload 1 38) (zq 39 (zi_iload 2 39) (zi_iload 4 41)))))))))) g_Writer_writeFields_98))))))))
theorem gS_Writer_writeFields_3 (hw : z_Wd w) : z_S w zY_Writer_writeFields 3 g_Writer_writeFields_3 := (zq_S (zs_iload (by decide +kernel)) (zq_S (zs_aload_n (k9 := 0) (by decide +kernel) rfl) (zq_S (zs_get hw.1 (by decide +kernel) (zf_Writer_15 hw)) (zq_S (zs_get hw.1 (by decide +kernel) (zf_Writer_94 hw)) (zq_S (zs_get hw.1 (by decide +kernel) (zf_Writer_110 hw)) (zq_S (zs_iload_n (k9 := 2) (by decide +kernel) rfl) (zq_S (zs_iald hw.1 (by decide +kernel)) (zb_S (zs_icmp_ge (off := 81) (by decide +kernel) (by decide)) (zq_S (zs_aload_n (k9 := 0) (by decide +kernel) rfl) (zq_S (zs_get hw.1 (by decide +kernel) (zf_Writer_15 hw)) (zq_S (zs_get hw.1 (by decide +kernel) (zf_Writer_45 hw)) (zq_S (zs_get hw.1 (by decide +kernel) (zf_Writer_81 hw)) (zq_S (zs_aload_n (k9 := 0) (by decide +kernel) rfl) (zq_S (zs_get hw.1 (by decide +kernel) (zf_Writer_15 hw)) (zq_S (zs_get hw.1 (by decide +kernel) (zf_Writer_45 hw)) (zq_S (zs_iload_n (k9 := 1) (by decide +kernel) rfl) (zq_S (zs_iload_n (k9 := 2) (by decide +kernel) rfl) (zs_iload (by decide +kernel))))))))))) (gS_Writer_writeFields_98 hw)))))))))
def g_Writer_writeFields_0 : z_T := (zq 1 (zi_iconst 0 1) (zi_istore 4 3))
theorem gS_Writer_writeFields_0 (hw : z_Wd w) : z_S w zY_Writer_writeFields 0 g_Writer_writeFields_0 := (zq_S (zs_iconst (n := 0) (by decide +kernel) (by decide)) (zs_istore (by decide +kernel) (by decide)))
def g_Writer_writeDescription_75 : z_T := (zi_vret)
theorem gS_Writer_writeDescription_75 (hw : z_Wd w) : z_S w zY_Writer_writeDescription 75 g_Writer_writeDescription_75 := (zs_vret (by decide +kernel) rfl)
def g_Writer_writeDescription_65 : z_T := (zq 66 (zi_aload 0 66) (zq 67 (zi_aload 0 67) (zq 70 (zi_get 5 3 70) (zq 71 (zi_iload 2 71) (zi_iald 72)))))
theorem gS_Writer_writeDescription_65 (hw : z_Wd w) : z_S w zY_Writer_writeDescription 65 g_Writer_writeDescription_65 := (zq_S (zs_aload_n (k9 := 0) (by decide +kernel) rfl) (zq_S (zs_aload_n (k9 := 0) (by decide +kernel) rfl) (zq_S (zs_get hw.1 (by decide +kernel) (zf_Writer_23 hw)) (zq_S (zs_iload_n (k9 := 2) (by decide +kernel) rfl) (zs_iald hw.1 (by decide +kernel))))))
def g_Writer_writeDescription_62 : z_T := (zq 75 (zi_goto 75) g_Writer_writeDescription_75)
theorem gS_Writer_writeDescription_62 (hw : z_Wd w) : z_S w zY_Writer_writeDescription 62 g_Writer_writeDescription_62 := (zq_S (zs_goto (off := 13) (by decide +kernel) (by decide)) (gS_Writer_writeDescription_75 hw))
def g_Writer_writeDescription_48 : z_T := (zq 49 (zi_iload 2 49) (zq 50 (zi_iconst (-1) 50) (zb 53 65 (zi_icmp_ne 65 53) (zq 54 (zi_aload 0 54) (zq 57 (zi_get 5 0 57) (zi_bipush 112 59))) g_Writer_writeDescription_65)))
theorem gS_Writer_writeDescription_48 (hw : z_Wd w) : z_S w zY_Writer_writeDescription 48 g_Writer_writeDescription_48 := (zq_S (zs_iload_n (k9 := 2) (by decide +kernel) rfl) (zq_S (zs_iconst (n := (-1)) (by decide +kernel) (by decide)) (zb_S (zs_icmp_ne (off := 15) (by decide +kernel) (by decide)) (zq_S (zs_aload_n (k9 := 0) (by decide +kernel) rfl) (zq_S (zs_get hw.1 (by decide +kernel) (zf_Writer_9 hw)) (zs_bipush (n := 112) (by decide +kernel) (by decide)))) (gS_Writer_writeDescription_65 hw))))
def g_Writer_writeDescription_41 : z_T := (zq 42 (zi_istore 2 42) (zq 45 (zi_iinc 3 1 45) (zi_goto 4)))
theorem gS_Writer_writeDescription_41 (hw : z_Wd w) : z_S w zY_Writer_writeDescription 41 g_Writer_writeDescription_41 := (zq_S (zs_istore_n (k9 := 2) (by decide +kernel) rfl (by decide)) (zq_S (zs_iinc (n := 1) (by decide +kernel) (by decide) (by decide)) (zs_goto (off := -41) (by decide +kernel) (by decide))))
def g_Writer_writeDescription_30 : z_T := (zq 31 (zi_aload 0 31) (zq 34 (zi_get 5 1 34) (zq 37 (zi_get 3 0 37) (zi_iload 2 38))))
theorem gS_Writer_writeDescription_30 (hw : z_Wd w) : z_S w zY_Writer_writeDescription 30 g_Writer_writeDescription_30 := (zq_S (zs_aload_n (k9 := 0) (by decide +kernel) rfl) (zq_S (zs_get hw.1 (by decide +kernel) (zf_Writer_15 hw)) (zq_S (zs_get hw.1 (by decide +kernel) (zf_Writer_94 hw)) (zs_iload_n (k9 := 2) (by decide +kernel) rfl))))
def g_Writer_writeDescription_4 : z_T := (zq 5 (zi_iload 3 5) (zq 7 (zi_bipush 6 7) (zq 10 (zi_icmp_ge 48 10) (zq 11 (zi_iload 2 11) (zq 12 (zi_iconst (-1) 12) (zq 15 (zi_icmp_eq 48 15) (zq 16 (zi_aload 0 16) (zq 19 (zi_get 5 3 19) (zq 20 (zi_iload 2 20) (zq 21 (zi_iald 21) (zq 22 (zi_iconst (-1) 22) (zq 25 (zi_icmp_ne 48 25) (zq 26 (zi_aload 0 26) (zi_iload 2 27))))))))))))))
theorem gS_Writer_writeDescription_4 (hw : z_Wd w) : z_S w zY_Writer_writeDescription 4 g_Writer_writeDescription_4 := (zq_S (zs_iload_n (k9 := 3) (by decide +kernel) rfl) (zq_S (zs_bipush (n := 6) (by decide +kernel) (by decide)) (zq_S (zs_icmp_ge (off := 41) (by decide +kernel) (by decide)) (zq_S (zs_iload_n (k9 := 2) (by decide +kernel) rfl) (zq_S (zs_iconst (n := (-1)) (by decide +kernel) (by decide)) (zq_S (zs_icmp_eq (off := 36) (by decide +kernel) (by decide)) (zq_S (zs_aload_n (k9 := 0) (by decide +kernel) rfl) (zq_S (zs_get hw.1 (by decide +kernel) (zf_Writer_23 hw)) (zq_S (zs_iload_n (k9 := 2) (by decide +kernel) rfl) (zq_S (zs_iald hw.1 (by decide +kernel)) (zq_S (zs_iconst (n := (-1)) (by decide +kernel) (by decide)) (zq_S (zs_icmp_ne (off := 26) (by decide +kernel) (by decide)) (zq_S (zs_aload_n (k9 := 0) (by decide +kernel) rfl) (zs_iload_n (k9 := 2) (by decide +kernel) rfl))))))))))))))
def g_Writer_writeDescription_0 : z_T := (zq 1 (zi_iload 1 1) (zq 2 (zi_istore 2 2) (zq 3 (zi_iconst 0 3) (zi_istore 3 4))))
theorem gS_Writer_writeDescription_0 (hw : z_Wd w) : z_S w zY_Writer_writeDescription 0 g_Writer_writeDescription_0 := (zq_S (zs_iload_n (k9 := 1) (by decide +kernel) rfl) (zq_S (zs_istore_n (k9 := 2) (by decide +kernel) rfl (by decide)) (zq_S (zs_iconst (n := 0) (by decide +kernel) (by decide)) (zs_istore_n (k9 := 3) (by decide +kernel) rfl (by decide)))))
def g_Writer_writeNewDescription_125 : z_T := (zq 126 (zi_iast 126) (zi_vret))
theorem gS_Writer_writeNewDescription_125 (hw : z_Wd w) : z_S w zY_Writer_writeNewDescription 125 g_Writer_writeNewDescription_125 := (zq_S (zs_iast hw.1 (by decide +kernel)) (zs_vret (by decide +kernel) rfl))
def g_Writer_writeNewDescription_116 : z_T := (zq 117 (zi_aload 0 117) (zq 120 (zi_get 5 3 120) (zq 121 (zi_iload 1 121) (zi_aload 0 122))))
theorem gS_Writer_writeNewDescription_116 (hw : z_Wd w) : z_S w zY_Writer_writeNewDescription 116 g_Writer_writeNewDescription_116 := (zq_S (zs_aload_n (k9 := 0) (by decide +kernel) rfl) (zq_S (zs_get hw.1 (by decide +kernel) (zf_Writer_23 hw)) (zq_S (zs_iload_n (k9 := 1) (by decide +kernel) rfl) (zs_aload_n (k9 := 0) (by decide +kernel) rfl))))
def g_Writer_writeNewDescription_110 : z_T := (zq 113 (zi_iinc 2 1 113) (zi_goto 56))
theorem gS_Writer_writeNewDescription_110 (hw : z_Wd w) : z_S w zY_Writer_writeNewDescription 110 g_Writer_writeNewDescription_110 := (zq_S (zs_iinc (n := 1) (by decide +kernel) (by decide) (by decide)) (zs_goto (off := -57) (by decide +kernel) (by decide)))
def g_Writer_writeNewDescription_91 : z_T := (zq 92 (zi_aload 0 92) (zq 95 (zi_get 5 0 95) (zq 96 (zi_aload 0 96) (zq 99 (zi_get 5 1 99) (zq 102 (zi_get 3 0 102) (zq 103 (zi_iload 1 103) (zi_iload 2 104)))))))
theorem gS_Writer_writeNewDescription_91 (hw : z_Wd w) : z_S w zY_Writer_writeNewDescription 91 g_Writer_writeNewDescription_91 := (zq_S (zs_aload_n (k9 := 0) (by decide +kernel) rfl) (zq_S (zs_get hw.1 (by decide +kernel) (zf_Writer_9 hw)) (zq_S (zs_aload_n (k9 := 0) (by decide +kernel) rfl) (zq_S (zs_get hw.1 (by decide +kernel) (zf_Writer_15 hw)) (zq_S (zs_get hw.1 (by decide +kernel) (zf_Writer_94 hw)) (zq_S (zs_iload_n (k9 := 1) (by decide +kernel) rfl) (zs_iload_n (k9 := 2) (by decide +kernel) rfl)))))))
def g_Writer_writeNewDescription_56 : z_T := (zq 57 (zi_iload 2 57) (zq 58 (zi_aload 0 58) (zq 61 (zi_get 5 1 61) (zq 64 (zi_get 3 0 64) (zq 67 (zi_get 2 4 67) (zq 68 (zi_iload 1 68) (zq 69 (zi_iald 69) (zb 72 116 (zi_icmp_ge 116 72) (zq 73 (zi_aload 0 73) (zq 76 (zi_get 5 0 76) (zq 77 (zi_aload 0 77) (zq 80 (zi_get 5 1 80) (zq 83 (zi_get 3 0 83) (zq 84 (zi_iload 1 84) (zi_iload 2 85))))))) g_Writer_writeNewDescription_116))))))))
theorem gS_Writer_writeNewDescription_56 (hw : z_Wd w) : z_S w zY_Writer_writeNewDescription 56 g_Writer_writeNewDescription_56 := (zq_S (zs_iload_n (k9 := 2) (by decide +kernel) rfl) (zq_S (zs_aload_n (k9 := 0) (by decide +kernel) rfl) (zq_S (zs_get hw.1 (by decide +kernel) (zf_Writer_15 hw)) (zq_S (zs_get hw.1 (by decide +kernel) (zf_Writer_94 hw)) (zq_S (zs_get hw.1 (by decide +kernel) (zf_Writer_110 hw)) (zq_S (zs_iload_n (k9 := 1) (by decide +kernel) rfl) (zq_S (zs_iald hw.1 (by decide +kernel)) (zb_S (zs_icmp_ge (off := 47) (by decide +kernel) (by decide)) (zq_S (zs_aload_n (k9 := 0) (by decide +kernel) rfl) (zq_S (zs_get hw.1 (by decide +kernel) (zf_Writer_9 hw)) (zq_S (zs_aload_n (k9 := 0) (by decide +kernel) rfl) (zq_S (zs_get hw.1 (by decide +kernel) (zf_Writer_15 hw)) (zq_S (zs_get hw.1 (by decide +kernel) (zf_Writer_94 hw)) (zq_S (zs_iload_n (k9 := 1) (by decide +kernel) rfl) (zs_iload_n (k9 := 2) (by decide +kernel) rfl))))))) (gS_Writer_writeNewDescription_116 hw)))))))))
def g_Writer_writeNewDescription_54 : z_T := (zq 55 (zi_iconst 0 55) (zi_istore 2 56))
theorem gS_Writer_writeNewDescription_54 (hw : z_Wd w) : z_S w zY_Writer_writeNewDescription 54 g_Writer_writeNewDescription_54 := (zq_S (zs_iconst (n := 0) (by decide +kernel) (by decide)) (zs_istore_n (k9 := 2) (by decide +kernel) rfl (by decide)))
def g_Writer_writeNewDescription_35 : z_T := (zq 36 (zi_aload 0 36) (zq 39 (zi_get 5 0 39) (zq 40 (zi_aload 0 40) (zq 43 (zi_get 5 1 43) (zq 46 (zi_get 3 0 46) (zq 49 (zi_get 2 4 49) (zq 50 (zi_iload 1 50) (zi_iald 51))))))))
theorem gS_Writer_writeNewDescription_35 (hw : z_Wd w) : z_S w zY_Writer_writeNewDescription 35 g_Writer_writeNewDescription_35 := (zq_S (zs_aload_n (k9 := 0) (by decide +kernel) rfl) (zq_S (zs_get hw.1 (by decide +kernel) (zf_Writer_9 hw)) (zq_S (zs_aload_n (k9 := 0) (by decide +kernel) rfl) (zq_S (zs_get hw.1 (by decide +kernel) (zf_Writer_15 hw)) (zq_S (zs_get hw.1 (by decide +kernel) (zf_Writer_94 hw)) (zq_S (zs_get hw.1 (by decide +kernel) (zf_Writer_110 hw)) (zq_S (zs_iload_n (k9 := 1) (by decide +kernel) rfl) (zs_iald hw.1 (by decide +kernel)))))))))
def g_Writer_writeNewDescription_17 : z_T := (zq 18 (zi_aload 0 18) (zq 19 (zi_aload 0 19) (zq 22 (zi_get 5 1 22) (zq 25 (zi_get 3 0 25) (zq 28 (zi_get 2 3 28) (zq 29 (zi_iload 1 29) (zq 30 (zi_iald 30) (zq 31 (zi_i2l 31) (zi_iconst 4 32)))))))))
theorem gS_Writer_writeNewDescription_17 (hw : z_Wd w) : z_S w zY_Writer_writeNewDescription 17 g_Writer_writeNewDescription_17 := (zq_S (zs_aload_n (k9 := 0) (by decide +kernel) rfl) (zq_S (zs_aload_n (k9 := 0) (by decide +kernel) rfl) (zq_S (zs_get hw.1 (by decide +kernel) (zf_Writer_15 hw)) (zq_S (zs_get hw.1 (by decide +kernel) (zf_Writer_94 hw)) (zq_S (zs_get hw.1 (by decide +kernel) (zf_Writer_133 hw)) (zq_S (zs_iload_n (k9 := 1) (by decide +kernel) rfl) (zq_S (zs_iald hw.1 (by decide +kernel)) (zq_S (zs_i2l (by decide +kernel)) (zs_iconst (n := 4) (by decide +kernel) (by decide))))))))))
def g_Writer_writeNewDescription_9 : z_T := (zq 10 (zi_aload 0 10) (zq 13 (zi_get 5 0 13) (zi_iload 1 14)))
theorem gS_Writer_writeNewDescription_9 (hw : z_Wd w) : z_S w zY_Writer_writeNewDescription 9 g_Writer_writeNewDescription_9 := (zq_S (zs_aload_n (k9 := 0) (by decide +kernel) rfl) (zq_S (zs_get hw.1 (by decide +kernel) (zf_Writer_9 hw)) (zs_iload_n (k9 := 1) (by decide +kernel) rfl)))
def g_Writer_writeNewDescription_0 : z_T := (zq 1 (zi_aload 0 1) (zq 4 (zi_get 5 0 4) (zi_bipush 114 6)))
theorem gS_Writer_writeNewDescription_0 (hw : z_Wd w) : z_S w zY_Writer_writeNewDescription 0 g_Writer_writeNewDescription_0 := (zq_S (zs_aload_n (k9 := 0) (by decide +kernel) rfl) (zq_S (zs_get hw.1 (by decide +kernel) (zf_Writer_9 hw)) (zs_bipush (n := 114) (by decide +kernel) (by decide))))
def g_Writer_writeHandle_16 : z_T := (zi_vret)
theorem gS_Writer_writeHandle_16 (hw : z_Wd w) : z_S w zY_Writer_writeHandle 16 g_Writer_writeHandle_16 := (zs_vret (by decide +kernel) rfl)
def g_Writer_writeHandle_9 : z_T := (zq 10 (zi_aload 0 10) (zq 11 (zi_iload 1 11) (zq 12 (zi_i2l 12) (zi_iconst 2 13))))
theorem gS_Writer_writeHandle_9 (hw : z_Wd w) : z_S w zY_Writer_writeHandle 9 g_Writer_writeHandle_9 := (zq_S (zs_aload_n (k9 := 0) (by decide +kernel) rfl) (zq_S (zs_iload_n (k9 := 1) (by decide +kernel) rfl) (zq_S (zs_i2l (by decide +kernel)) (zs_iconst (n := 2) (by decide +kernel) (by decide)))))
def g_Writer_writeHandle_0 : z_T := (zq 1 (zi_aload 0 1) (zq 4 (zi_get 5 0 4) (zi_bipush 113 6)))
theorem gS_Writer_writeHandle_0 (hw : z_Wd w) : z_S w zY_Writer_writeHandle 0 g_Writer_writeHandle_0 := (zq_S (zs_aload_n (k9 := 0) (by decide +kernel) rfl) (zq_S (zs_get hw.1 (by decide +kernel) (zf_Writer_9 hw)) (zs_bipush (n := 113) (by decide +kernel) (by decide))))
def g_Writer_writeNumber_31 : z_T := (zi_vret)
theorem gS_Writer_writeNumber_31 (hw : z_Wd w) : z_S w zY_Writer_writeNumber 31 g_Writer_writeNumber_31 := (zs_vret (by decide +kernel) rfl)
def g_Writer_writeNumber_25 : z_T := (zq 28 (zi_iinc 4 (-1) 28) (zi_goto 5))
theorem gS_Writer_writeNumber_25 (hw : z_Wd w) : z_S w zY_Writer_writeNumber 25 g_Writer_writeNumber_25 := (zq_S (zs_iinc (n := (-1)) (by decide +kernel) (by decide) (by decide)) (zs_goto (off := -23) (by decide +kernel) (by decide)))
def g_Writer_writeNumber_5 : z_T := (zq 7 (zi_iload 4 7) (zb 10 31 (zi_if_lt 31 10) (zq 11 (zi_aload 0 11) (zq 14 (zi_get 5 0 14) (zq 15 (zi_lload 1 15) (zq 17 (zi_bipush 8 17) (zq 19 (zi_iload 4 19) (zq 20 (zi_imul 20) (zq 21 (zi_lshr 21) (zi_l2i 22)))))))) g_Writer_writeNumber_31))
theorem gS_Writer_writeNumber_5 (hw : z_Wd w) : z_S w zY_Writer_writeNumber 5 g_Writer_writeNumber_5 := (zq_S (zs_iload (by decide +kernel)) (zb_S (zs_if_lt (off := 24) (by decide +kernel) (by decide)) (zq_S (zs_aload_n (k9 := 0) (by decide +kernel) rfl) (zq_S (zs_get hw.1 (by decide +kernel) (zf_Writer_9 hw)) (zq_S (zs_lload_n (k9 := 1) (by decide +kernel) rfl) (zq_S (zs_bipush (n := 8) (by decide +kernel) (by decide)) (zq_S (zs_iload (by decide +kernel)) (zq_S (zs_imul (by decide +kernel)) (zq_S (zs_lshr (by decide +kernel)) (zs_l2i (by decide +kernel))))))))) (gS_Writer_writeNumber_31 hw)))
def g_Writer_writeNumber_0 : z_T := (zq 1 (zi_iload 3 1) (zq 2 (zi_iconst 1 2) (zq 3 (zi_isub 3) (zi_istore 4 5))))
theorem gS_Writer_writeNumber_0 (hw : z_Wd w) : z_S w zY_Writer_writeNumber 0 g_Writer_writeNumber_0 := (zq_S (zs_iload_n (k9 := 3) (by decide +kernel) rfl) (zq_S (zs_iconst (n := 1) (by decide +kernel) (by decide)) (zq_S (zs_isub (by decide +kernel)) (zs_istore (by decide +kernel) (by decide)))))
def g_Writer_nextHandle_0 : z_T := (zq 1 (zi_aload 0 1) (zq 2 (zi_dup 2) (zq 5 (zi_get 5 4 5) (zq 6 (zi_iconst 1 6) (zq 7 (zi_iadd 7) (zq 10 (zi_put 5 4 (.int) 10) (zq 11 (zi_aload 0 11) (zq 14 (zi_get 5 4 14) (zq 15 (zi_iconst 1 15) (zq 16 (zi_isub 16) (zi_iret)))))))))))
theorem gS_Writer_nextHandle_0 (hw : z_Wd w) : z_S w zY_Writer_nextHandle 0 g_Writer_nextHandle_0 := (zq_S (zs_aload_n (k9 := 0) (by decide +kernel) rfl) (zq_S (zs_dup (by decide +kernel)) (zq_S (zs_get hw.1 (by decide +kernel) (zf_Writer_32 hw)) (zq_S (zs_iconst (n := 1) (by decide +kernel) (by decide)) (zq_S (zs_iadd (by decide +kernel)) (zq_S (zs_put hw.1 (by decide +kernel) (zp_Writer_32 hw) (fun h => by cases h)) (zq_S (zs_aload_n (k9 := 0) (by decide +kernel) rfl) (zq_S (zs_get hw.1 (by decide +kernel) (zf_Writer_32 hw)) (zq_S (zs_iconst (n := 1) (by decide +kernel) (by decide)) (zq_S (zs_isub (by decide +kernel)) (zs_iret (by decide +kernel) rfl)))))))))))
end ZG
end
section
section ZG
variable {w : z_W}
def g_Reader_init_69 : z_T := (zq 72 (zi_put 1 6 (.object "ThingStream$Things") 72) (zq 73 (zi_aload 0 73) (zq 74 (zi_iconst (-1) 74) (zq 77 (zi_put 1 10 (.int) 77) (zi_vret)))))
theorem gS_Reader_init_69 (hw : z_Wd w) : z_S w zY_Reader_init 69 g_Reader_init_69 := (zq_S (zs_put hw.1 (by decide +kernel) (zp_Reader_49 hw) (fun h => by cases h)) (zq_S (zs_aload_n (k9 := 0) (by decide +kernel) rfl) (zq_S (zs_iconst (n := (-1)) (by decide +kernel) (by decide)) (zq_S (zs_put hw.1 (by decide +kernel) (zp_Reader_53 hw) (fun h => by cases h)) (zs_vret (by decide +kernel) rfl)))))
def g_Reader_init_38 : z_T := (zq 41 (zi_put 1 3 (.object "ThingStream$Shapes") 41) (zq 42 (zi_aload 0 42) (zq 45 (zi_sipush 182 45) (zq 47 (zi_newa 0 4 (fun n => (n, .inl fun _ => 0)) 47) (zq 50 (zi_put 1 4 (.array .int) 50) (zq 51 (zi_aload 0 51) (zq 54 (zi_sipush 182 54) (zq 56 (zi_newa 0 4 (fun n => (n, .inl fun _ => 0)) 56) (zq 59 (zi_put 1 5 (.array .int) 59) (zq 60 (zi_aload 0 60) (zq 63 (zi_new 4 4 [.null, .null, .null, .int 0] 63) (zq 64 (zi_dup 64) (zi_bipush 40 66)))))))))))))
theorem gS_Reader_init_38 (hw : z_Wd w) : z_S w zY_Reader_init 38 g_Reader_init_38 := (zq_S (zs_put hw.1 (by decide +kernel) (zp_Reader_36 hw) (fun _ => rfl)) (zq_S (zs_aload_n (k9 := 0) (by decide +kernel) rfl) (zq_S (zs_sipush (n := 182) (by decide +kernel) (by decide)) (zq_S (zs_newi hw.1 (by decide +kernel) (zw_66 hw)) (zq_S (zs_put hw.1 (by decide +kernel) (zp_Reader_40 hw) (fun _ => rfl)) (zq_S (zs_aload_n (k9 := 0) (by decide +kernel) rfl) (zq_S (zs_sipush (n := 182) (by decide +kernel) (by decide)) (zq_S (zs_newi hw.1 (by decide +kernel) (zw_66 hw)) (zq_S (zs_put hw.1 (by decide +kernel) (zp_Reader_43 hw) (fun _ => rfl)) (zq_S (zs_aload_n (k9 := 0) (by decide +kernel) rfl) (zq_S (zs_new hw.1 (by decide +kernel) (zN_Reader_46 hw)) (zq_S (zs_dup (by decide +kernel)) (zs_bipush (n := 40) (by decide +kernel) (by decide))))))))))))))
def g_Reader_init_24 : z_T := (zq 27 (zi_put 1 2 (.array .int) 27) (zq 28 (zi_aload 0 28) (zq 31 (zi_new 2 7 [.null, .null, .null, .null, .null, .null, .null] 31) (zq 32 (zi_dup 32) (zi_sipush 142 35)))))
theorem gS_Reader_init_24 (hw : z_Wd w) : z_S w zY_Reader_init 24 g_Reader_init_24 := (zq_S (zs_put hw.1 (by decide +kernel) (zp_Reader_28 hw) (fun _ => rfl)) (zq_S (zs_aload_n (k9 := 0) (by decide +kernel) rfl) (zq_S (zs_new hw.1 (by decide +kernel) (zN_Reader_31 hw)) (zq_S (zs_dup (by decide +kernel)) (zs_sipush (n := 142) (by decide +kernel) (by decide))))))
def g_Reader_init_4 : z_T := (zq 5 (zi_aload 0 5) (zq 6 (zi_aload 1 6) (zq 9 (zi_put 1 0 (.object "ThingStream$Bytes") 9) (zq 10 (zi_aload 0 10) (zq 11 (zi_aload 2 11) (zq 14 (zi_put 1 1 (.object "ThingStream$Side") 14) (zi_aload 0 15)))))))
theorem gS_Reader_init_4 (hw : z_Wd w) : z_S w zY_Reader_init 4 g_Reader_init_4 := (zq_S (zs_aload_n (k9 := 0) (by decide +kernel) rfl) (zq_S (zs_aload_n (k9 := 1) (by decide +kernel) rfl) (zq_S (zs_put hw.1 (by decide +kernel) (zp_Reader_9 hw) (fun _ => rfl)) (zq_S (zs_aload_n (k9 := 0) (by decide +kernel) rfl) (zq_S (zs_aload_n (k9 := 2) (by decide +kernel) rfl) (zq_S (zs_put hw.1 (by decide +kernel) (zp_Reader_15 hw) (fun _ => rfl)) (zs_aload_n (k9 := 0) (by decide +kernel) rfl)))))))
def g_Reader_init_0 : z_T := (zi_aload 0 1)
theorem gS_Reader_init_0 (hw : z_Wd w) : z_S w zY_Reader_init 0 g_Reader_init_0 := (zs_aload_n (k9 := 0) (by decide +kernel) rfl)
def g_Reader_changeLimit_28 : z_T := (zq 29 (zi_aload 0 29) (zq 32 (zi_get 1 2 32) (zq 33 (zi_iload 1 33) (zq 34 (zi_iload 2 34) (zq 35 (zi_iast 35) (zq 36 (zi_iconst 1 36) (zi_zret)))))))
theorem gS_Reader_changeLimit_28 (hw : z_Wd w) : z_S w zY_Reader_changeLimit 28 g_Reader_changeLimit_28 := (zq_S (zs_aload_n (k9 := 0) (by decide +kernel) rfl) (zq_S (zs_get hw.1 (by decide +kernel) (zf_Reader_28 hw)) (zq_S (zs_iload_n (k9 := 1) (by decide +kernel) rfl) (zq_S (zs_iload_n (k9 := 2) (by decide +kernel) rfl) (zq_S (zs_iast hw.1 (by decide +kernel)) (zq_S (zs_iconst (n := 1) (by decide +kernel) (by decide)) (zs_zret (by decide +kernel) rfl)))))))
def g_Reader_changeLimit_26 : z_T := (zq 27 (zi_iconst 0 27) (zi_zret))
theorem gS_Reader_changeLimit_26 (hw : z_Wd w) : z_S w zY_Reader_changeLimit 26 g_Reader_changeLimit_26 := (zq_S (zs_iconst (n := 0) (by decide +kernel) (by decide)) (zs_zret (by decide +kernel) rfl))
def g_Reader_changeLimit_21 : z_T := (zq 22 (zi_iload 1 22) (zq 23 (zi_iald 23) (zb 26 28 (zi_icmp_le 28 26) g_Reader_changeLimit_26 g_Reader_changeLimit_28)))
theorem gS_Reader_changeLimit_21 (hw : z_Wd w) : z_S w zY_Reader_changeLimit 21 g_Reader_changeLimit_21 := (zq_S (zs_iload_n (k9 := 1) (by decide +kernel) rfl) (zq_S (zs_iald hw.1 (by decide +kernel)) (zb_S (zs_icmp_le (off := 5) (by decide +kernel) (by decide)) (gS_Reader_changeLimit_26 hw) (gS_Reader_changeLimit_28 hw))))
def g_Reader_changeLimit_0 : z_T := (zq 1 (zi_iload 1 1) (zb 4 26 (zi_if_lt 26 4) (zq 5 (zi_iload 1 5) (zq 6 (zi_aload 0 6) (zq 9 (zi_get 1 2 9) (zq 10 (zi_alen 10) (zb 13 26 (zi_icmp_ge 26 13) (zq 14 (zi_iload 2 14) (zb 17 26 (zi_if_lt 26 17) (zi_iload 2 18) g_Reader_changeLimit_26)) g_Reader_changeLimit_26))))) g_Reader_changeLimit_26))
theorem gS_Reader_changeLimit_0 (hw : z_Wd w) : z_S w zY_Reader_changeLimit 0 g_Reader_changeLimit_0 := (zq_S (zs_iload_n (k9 := 1) (by decide +kernel) rfl) (zb_S (zs_if_lt (off := 25) (by decide +kernel) (by decide)) (zq_S (zs_iload_n (k9 := 1) (by decide +kernel) rfl) (zq_S (zs_aload_n (k9 := 0) (by decide +kernel) rfl) (zq_S (zs_get hw.1 (by decide +kernel) (zf_Reader_28 hw)) (zq_S (zs_alen hw.1 (by decide +kernel)) (zb_S (zs_icmp_ge (off := 16) (by decide +kernel) (by decide)) (zq_S (zs_iload_n (k9 := 2) (by decide +kernel) rfl) (zb_S (zs_if_lt (off := 12) (by decide +kernel) (by decide)) (zs_iload_n (k9 := 2) (by decide +kernel) rfl) (gS_Reader_changeLimit_26 hw))) (gS_Reader_changeLimit_26 hw)))))) (gS_Reader_changeLimit_26 hw)))
def g_Reader_begin_78 : z_T := (zi_vret)
theorem gS_Reader_begin_78 (hw : z_Wd w) : z_S w zY_Reader_begin 78 g_Reader_begin_78 := (zs_vret (by decide +kernel) rfl)
def g_Reader_begin_67 : z_T := (zq 70 (zi_sipush 237 70) (zb 73 78 (zi_icmp_eq 78 73) (zq 74 (zi_aload 0 74) (zi_iconst 1 75)) g_Reader_begin_78))
theorem gS_Reader_begin_67 (hw : z_Wd w) : z_S w zY_Reader_begin 67 g_Reader_begin_67 := (zq_S (zs_sipush (n := 237) (by decide +kernel) (by decide)) (zb_S (zs_icmp_eq (off := 8) (by decide +kernel) (by decide)) (zq_S (zs_aload_n (k9 := 0) (by decide +kernel) rfl) (zs_iconst (n := 1) (by decide +kernel) (by decide))) (gS_Reader_begin_78 hw)))
def g_Reader_begin_63 : z_T := (zi_aload 0 64)
theorem gS_Reader_begin_63 (hw : z_Wd w) : z_S w zY_Reader_begin 63 g_Reader_begin_63 := (zs_aload_n (k9 := 0) (by decide +kernel) rfl)
def g_Reader_begin_52 : z_T := (zq 55 (zi_sipush 172 55) (zb 58 63 (zi_icmp_eq 63 58) (zq 59 (zi_aload 0 59) (zi_iconst 0 60)) g_Reader_begin_63))
theorem gS_Reader_begin_52 (hw : z_Wd w) : z_S w zY_Reader_begin 52 g_Reader_begin_52 := (zq_S (zs_sipush (n := 172) (by decide +kernel) (by decide)) (zb_S (zs_icmp_eq (off := 8) (by decide +kernel) (by decide)) (zq_S (zs_aload_n (k9 := 0) (by decide +kernel) rfl) (zs_iconst (n := 0) (by decide +kernel) (by decide))) (gS_Reader_begin_63 hw)))
def g_Reader_begin_48 : z_T := (zi_aload 0 49)
theorem gS_Reader_begin_48 (hw : z_Wd w) : z_S w zY_Reader_begin 48 g_Reader_begin_48 := (zs_aload_n (k9 := 0) (by decide +kernel) rfl)
def g_Reader_begin_27 : z_T := (zq 28 (zi_aload 0 28) (zq 31 (zi_get 1 0 31) (zq 34 (zi_get 0 1 34) (zq 35 (zi_aload 0 35) (zq 38 (zi_get 1 2 38) (zq 39 (zi_iconst 0 39) (zq 40 (zi_iald 40) (zb 43 48 (zi_icmp_le 48 43) (zq 44 (zi_aload 0 44) (zi_iconst 0 45)) g_Reader_begin_48))))))))
theorem gS_Reader_begin_27 (hw : z_Wd w) : z_S w zY_Reader_begin 27 g_Reader_begin_27 := (zq_S (zs_aload_n (k9 := 0) (by decide +kernel) rfl) (zq_S (zs_get hw.1 (by decide +kernel) (zf_Reader_9 hw)) (zq_S (zs_get hw.1 (by decide +kernel) (zf_Reader_69 hw)) (zq_S (zs_aload_n (k9 := 0) (by decide +kernel) rfl) (zq_S (zs_get hw.1 (by decide +kernel) (zf_Reader_28 hw)) (zq_S (zs_iconst (n := 0) (by decide +kernel) (by decide)) (zq_S (zs_iald hw.1 (by decide +kernel)) (zb_S (zs_icmp_le (off := 8) (by decide +kernel) (by decide)) (zq_S (zs_aload_n (k9 := 0) (by decide +kernel) rfl) (zs_iconst (n := 0) (by decide +kernel) (by decide))) (gS_Reader_begin_48 hw)))))))))
def g_Reader_begin_0 : z_T := (zq 1 (zi_aload 0 1) (zq 2 (zi_iconst (-1) 2) (zq 5 (zi_put 1 10 (.int) 5) (zq 6 (zi_aload 0 6) (zq 7 (zi_iconst 0 7) (zq 10 (zi_put 1 9 (.int) 10) (zq 11 (zi_aload 0 11) (zq 12 (zi_iconst 0 12) (zq 15 (zi_put 1 7 (.int) 15) (zq 16 (zi_aload 0 16) (zq 17 (zi_iconst 0 17) (zq 20 (zi_put 1 8 (.int) 20) (zq 21 (zi_aload 0 21) (zi_get 1 6 24))))))))))))))
theorem gS_Reader_begin_0 (hw : z_Wd w) : z_S w zY_Reader_begin 0 g_Reader_begin_0 := (zq_S (zs_aload_n (k9 := 0) (by decide +kernel) rfl) (zq_S (zs_iconst (n := (-1)) (by decide +kernel) (by decide)) (zq_S (zs_put hw.1 (by decide +kernel) (zp_Reader_53 hw) (fun h => by cases h)) (zq_S (zs_aload_n (k9 := 0) (by decide +kernel) rfl) (zq_S (zs_iconst (n := 0) (by decide +kernel) (by decide)) (zq_S (zs_put hw.1 (by decide +kernel) (zp_Reader_57 hw) (fun h => by cases h)) (zq_S (zs_aload_n (k9 := 0) (by decide +kernel) rfl) (zq_S (zs_iconst (n := 0) (by decide +kernel) (by decide)) (zq_S (zs_put hw.1 (by decide +kernel) (zp_Reader_60 hw) (fun h => by cases h)) (zq_S (zs_aload_n (k9 := 0) (by decide +kernel) rfl) (zq_S (zs_iconst (n := 0) (by decide +kernel) (by decide)) (zq_S (zs_put hw.1 (by decide +kernel) (zp_Reader_63 hw) (fun h => by cases h)) (zq_S (zs_aload_n (k9 := 0) (by decide +kernel) rfl) (zs_get hw.1 (by decide +kernel) (zf_Reader_49 hw)))))))))))))))
def g_Reader_finish_22 : z_T := (zq 23 (zi_aload 0 23) (zq 26 (zi_get 1 1 26) (zq 29 (zi_get 3 1 29) (zq 30 (zi_astore 1 30) (zq 31 (zi_aload 0 31) (zq 34 (zi_get 1 1 34) (zq 35 (zi_aload 0 35) (zq 38 (zi_get 1 6 38) (zq 41 (zi_put 3 1 (.object "ThingStream$Things") 41) (zq 42 (zi_aload 0 42) (zq 43 (zi_aload 1 43) (zq 46 (zi_put 1 6 (.object "ThingStream$Things") 46) (zi_vret)))))))))))))
theorem gS_Reader_finish_22 (hw : z_Wd w) : z_S w zY_Reader_finish 22 g_Reader_finish_22 := (zq_S (zs_aload_n (k9 := 0) (by decide +kernel) rfl) (zq_S (zs_get hw.1 (by decide +kernel) (zf_Reader_15 hw)) (zq_S (zs_get hw.1 (by decide +kernel) (zf_Reader_84 hw)) (zq_S (zs_astore_n (k9 := 1) (by decide +kernel) rfl (by decide)) (zq_S (zs_aload_n (k9 := 0) (by decide +kernel) rfl) (zq_S (zs_get hw.1 (by decide +kernel) (zf_Reader_15 hw)) (zq_S (zs_aload_n (k9 := 0) (by decide +kernel) rfl) (zq_S (zs_get hw.1 (by decide +kernel) (zf_Reader_49 hw)) (zq_S (zs_put hw.1 (by decide +kernel) (zp_Reader_84 hw) (fun h => by cases h)) (zq_S (zs_aload_n (k9 := 0) (by decide +kernel) rfl) (zq_S (zs_aload_n (k9 := 1) (by decide +kernel) rfl) (zq_S (zs_put hw.1 (by decide +kernel) (zp_Reader_49 hw) (fun h => by cases h)) (zs_vret (by decide +kernel) rfl)))))))))))))
def g_Reader_finish_0 : z_T := (zq 1 (zi_aload 0 1) (zq 4 (zi_get 1 9 4) (zq 5 (zi_aload 0 5) (zq 8 (zi_get 1 0 8) (zq 11 (zi_get 0 1 11) (zb 14 22 (zi_icmp_ge 22 14) (zq 15 (zi_aload 0 15) (zq 16 (zi_aload 0 16) (zi_get 1 9 19))) g_Reader_finish_22))))))
theorem gS_Reader_finish_0 (hw : z_Wd w) : z_S w zY_Reader_finish 0 g_Reader_finish_0 := (zq_S (zs_aload_n (k9 := 0) (by decide +kernel) rfl) (zq_S (zs_get hw.1 (by decide +kernel) (zf_Reader_57 hw)) (zq_S (zs_aload_n (k9 := 0) (by decide +kernel) rfl) (zq_S (zs_get hw.1 (by decide +kernel) (zf_Reader_9 hw)) (zq_S (zs_get hw.1 (by decide +kernel) (zf_Reader_69 hw)) (zb_S (zs_icmp_ge (off := 11) (by decide +kernel) (by decide)) (zq_S (zs_aload_n (k9 := 0) (by decide +kernel) rfl) (zq_S (zs_aload_n (k9 := 0) (by decide +kernel) rfl) (zs_get hw.1 (by decide +kernel) (zf_Reader_57 hw)))) (gS_Reader_finish_22 hw)))))))
def g_Reader_readValue_84 : z_T := (zq 85 (zi_iconst (-1) 85) (zi_iret))
theorem gS_Reader_readValue_84 (hw : z_Wd w) : z_S w zY_Reader_readValue 84 g_Reader_readValue_84 := (zq_S (zs_iconst (n := (-1)) (by decide +kernel) (by decide)) (zs_iret (by decide +kernel) rfl))
def g_Reader_readValue_79 : z_T := (zq 80 (zi_aload 0 80) (zi_iload 2 81))
theorem gS_Reader_readValue_79 (hw : z_Wd w) : z_S w zY_Reader_readValue 79 g_Reader_readValue_79 := (zq_S (zs_aload_n (k9 := 0) (by decide +kernel) rfl) (zs_iload_n (k9 := 2) (by decide +kernel) rfl))
def g_Reader_readValue_78 : z_T := (zi_iret)
theorem gS_Reader_readValue_78 (hw : z_Wd w) : z_S w zY_Reader_readValue 78 g_Reader_readValue_78 := (zs_iret (by decide +kernel) rfl)
def g_Reader_readValue_73 : z_T := (zq 74 (zi_aload 0 74) (zi_iload 1 75))
theorem gS_Reader_readValue_73 (hw : z_Wd w) : z_S w zY_Reader_readValue 73 g_Reader_readValue_73 := (zq_S (zs_aload_n (k9 := 0) (by decide +kernel) rfl) (zs_iload_n (k9 := 1) (by decide +kernel) rfl))
def g_Reader_readValue_67 : z_T := (zq 68 (zi_aload 0 68) (zq 69 (zi_iload 2 69) (zi_iload 1 70)))
theorem gS_Reader_readValue_67 (hw : z_Wd w) : z_S w zY_Reader_readValue 67 g_Reader_readValue_67 := (zq_S (zs_aload_n (k9 := 0) (by decide +kernel) rfl) (zq_S (zs_iload_n (k9 := 2) (by decide +kernel) rfl) (zs_iload_n (k9 := 1) (by decide +kernel) rfl)))
def g_Reader_readValue_66 : z_T := (zi_iret)
theorem gS_Reader_readValue_66 (hw : z_Wd w) : z_S w zY_Reader_readValue 66 g_Reader_readValue_66 := (zs_iret (by decide +kernel) rfl)
def g_Reader_readValue_61 : z_T := (zq 62 (zi_aload 0 62) (zi_iload 1 63))
theorem gS_Reader_readValue_61 (hw : z_Wd w) : z_S w zY_Reader_readValue 61 g_Reader_readValue_61 := (zq_S (zs_aload_n (k9 := 0) (by decide +kernel) rfl) (zs_iload_n (k9 := 1) (by decide +kernel) rfl))
def g_Reader_readValue_55 : z_T := (zq 56 (zi_aload 0 56) (zq 57 (zi_iload 2 57) (zi_iload 1 58)))
theorem gS_Reader_readValue_55 (hw : z_Wd w) : z_S w zY_Reader_readValue 55 g_Reader_readValue_55 := (zq_S (zs_aload_n (k9 := 0) (by decide +kernel) rfl) (zq_S (zs_iload_n (k9 := 2) (by decide +kernel) rfl) (zs_iload_n (k9 := 1) (by decide +kernel) rfl)))
def g_Reader_readValue_54 : z_T := (zi_iret)
theorem gS_Reader_readValue_54 (hw : z_Wd w) : z_S w zY_Reader_readValue 54 g_Reader_readValue_54 := (zs_iret (by decide +kernel) rfl)
def g_Reader_readValue_50 : z_T := (zi_aload 0 51)
theorem gS_Reader_readValue_50 (hw : z_Wd w) : z_S w zY_Reader_readValue 50 g_Reader_readValue_50 := (zs_aload_n (k9 := 0) (by decide +kernel) rfl)
def g_Reader_readValue_48 : z_T := (zq 49 (zi_iconst (-1) 49) (zi_iret))
theorem gS_Reader_readValue_48 (hw : z_Wd w) : z_S w zY_Reader_readValue 48 g_Reader_readValue_48 := (zq_S (zs_iconst (n := (-1)) (by decide +kernel) (by decide)) (zs_iret (by decide +kernel) rfl))
def g_Reader_readValue_0 : z_T := (zq 1 (zi_aload 0 1) (zq 4 (zi_get 1 9 4) (zq 5 (zi_istore 2 5) (zi_aload 0 6))))
theorem gS_Reader_readValue_0 (hw : z_Wd w) : z_S w zY_Reader_readValue 0 g_Reader_readValue_0 := (zq_S (zs_aload_n (k9 := 0) (by decide +kernel) rfl) (zq_S (zs_get hw.1 (by decide +kernel) (zf_Reader_57 hw)) (zq_S (zs_istore_n (k9 := 2) (by decide +kernel) rfl (by decide)) (zs_aload_n (k9 := 0) (by decide +kernel) rfl))))
def g_Reader_admit_31 : z_T := (zi_vret)
theorem gS_Reader_admit_31 (hw : z_Wd w) : z_S w zY_Reader_admit 31 g_Reader_admit_31 := (zs_vret (by decide +kernel) rfl)
def g_Reader_admit_26 : z_T := (zq 27 (zi_aload 0 27) (zi_iload 1 28))
theorem gS_Reader_admit_26 (hw : z_Wd w) : z_S w zY_Reader_admit 26 g_Reader_admit_26 := (zq_S (zs_aload_n (k9 := 0) (by decide +kernel) rfl) (zs_iload_n (k9 := 1) (by decide +kernel) rfl))
def g_Reader_admit_0 : z_T := (zq 1 (zi_iload 2 1) (zq 2 (zi_aload 0 2) (zq 5 (zi_get 1 2 5) (zq 6 (zi_iconst 3 6) (zq 7 (zi_iald 7) (zq 10 (zi_icmp_gt 26 10) (zq 11 (zi_aload 0 11) (zq 14 (zi_get 1 6 14) (zq 17 (zi_get 4 3 17) (zq 18 (zi_aload 0 18) (zq 21 (zi_get 1 2 21) (zq 22 (zi_iconst 2 22) (zq 23 (zi_iald 23) (zq 31 (zi_icmp_lt 31 26) g_Reader_admit_31))))))))))))))
theorem gS_Reader_admit_0 (hw : z_Wd w) : z_S w zY_Reader_admit 0 g_Reader_admit_0 := (zq_S (zs_iload_n (k9 := 2) (by decide +kernel) rfl) (zq_S (zs_aload_n (k9 := 0) (by decide +kernel) rfl) (zq_S (zs_get hw.1 (by decide +kernel) (zf_Reader_28 hw)) (zq_S (zs_iconst (n := 3) (by decide +kernel) (by decide)) (zq_S (zs_iald hw.1 (by decide +kernel)) (zq_S (zs_icmp_gt (off := 19) (by decide +kernel) (by decide)) (zq_S (zs_aload_n (k9 := 0) (by decide +kernel) rfl) (zq_S (zs_get hw.1 (by decide +kernel) (zf_Reader_49 hw)) (zq_S (zs_get hw.1 (by decide +kernel) (zf_Reader_103 hw)) (zq_S (zs_aload_n (k9 := 0) (by decide +kernel) rfl) (zq_S (zs_get hw.1 (by decide +kernel) (zf_Reader_28 hw)) (zq_S (zs_iconst (n := 2) (by decide +kernel) (by decide)) (zq_S (zs_iald hw.1 (by decide +kernel)) (zq_S (zs_icmp_lt (off := 8) (by decide +kernel) (by decide)) (gS_Reader_admit_31 hw)))))))))))))))
def g_Reader_readThingHandle_39 : z_T := (zq 40 (zi_aload 0 40) (zq 43 (zi_get 1 4 43) (zq 44 (zi_iload 2 44) (zq 45 (zi_iald 45) (zi_iret)))))
theorem gS_Reader_readThingHandle_39 (hw : z_Wd w) : z_S w zY_Reader_readThingHandle 39 g_Reader_readThingHandle_39 := (zq_S (zs_aload_n (k9 := 0) (by decide +kernel) rfl) (zq_S (zs_get hw.1 (by decide +kernel) (zf_Reader_40 hw)) (zq_S (zs_iload_n (k9 := 2) (by decide +kernel) rfl) (zq_S (zs_iald hw.1 (by decide +kernel)) (zs_iret (by decide +kernel) rfl)))))
def g_Reader_readThingHandle_34 : z_T := (zq 35 (zi_aload 0 35) (zi_iload 1 36))
theorem gS_Reader_readThingHandle_34 (hw : z_Wd w) : z_S w zY_Reader_readThingHandle 34 g_Reader_readThingHandle_34 := (zq_S (zs_aload_n (k9 := 0) (by decide +kernel) rfl) (zs_iload_n (k9 := 1) (by decide +kernel) rfl))
def g_Reader_readThingHandle_10 : z_T := (zq 11 (zi_l2i 11) (zq 12 (zi_istore 2 12) (zq 13 (zi_iload 2 13) (zq 16 (zi_if_lt 34 16) (zq 17 (zi_iload 2 17) (zq 18 (zi_aload 0 18) (zq 21 (zi_get 1 8 21) (zq 24 (zi_icmp_ge 34 24) (zq 25 (zi_aload 0 25) (zq 28 (zi_get 1 4 28) (zq 29 (zi_iload 2 29) (zq 30 (zi_iald 30) (zq 31 (zi_iconst (-1) 31) (zq 39 (zi_icmp_ne 39 34) g_Reader_readThingHandle_39))))))))))))))
theorem gS_Reader_readThingHandle_10 (hw : z_Wd w) : z_S w zY_Reader_readThingHandle 10 g_Reader_readThingHandle_10 := (zq_S (zs_l2i (by decide +kernel)) (zq_S (zs_istore_n (k9 := 2) (by decide +kernel) rfl (by decide)) (zq_S (zs_iload_n (k9 := 2) (by decide +kernel) rfl) (zq_S (zs_if_lt (off := 21) (by decide +kernel) (by decide)) (zq_S (zs_iload_n (k9 := 2) (by decide +kernel) rfl) (zq_S (zs_aload_n (k9 := 0) (by decide +kernel) rfl) (zq_S (zs_get hw.1 (by decide +kernel) (zf_Reader_63 hw)) (zq_S (zs_icmp_ge (off := 13) (by decide +kernel) (by decide)) (zq_S (zs_aload_n (k9 := 0) (by decide +kernel) rfl) (zq_S (zs_get hw.1 (by decide +kernel) (zf_Reader_40 hw)) (zq_S (zs_iload_n (k9 := 2) (by decide +kernel) rfl) (zq_S (zs_iald hw.1 (by decide +kernel)) (zq_S (zs_iconst (n := (-1)) (by decide +kernel) (by decide)) (zq_S (zs_icmp_ne (off := 8) (by decide +kernel) (by decide)) (gS_Reader_readThingHandle_39 hw)))))))))))))))
def g_Reader_readThingHandle_0 : z_T := (zq 1 (zi_aload 0 1) (zq 4 (zi_get 1 9 4) (zq 5 (zi_istore 1 5) (zq 6 (zi_aload 0 6) (zi_iconst 2 7)))))
theorem gS_Reader_readThingHandle_0 (hw : z_Wd w) : z_S w zY_Reader_readThingHandle 0 g_Reader_readThingHandle_0 := (zq_S (zs_aload_n (k9 := 0) (by decide +kernel) rfl) (zq_S (zs_get hw.1 (by decide +kernel) (zf_Reader_57 hw)) (zq_S (zs_istore_n (k9 := 1) (by decide +kernel) rfl (by decide)) (zq_S (zs_aload_n (k9 := 0) (by decide +kernel) rfl) (zs_iconst (n := 2) (by decide +kernel) (by decide))))))
def g_Reader_readRow_95 : z_T := (zq 97 (zi_iload 4 97) (zi_iret))
theorem gS_Reader_readRow_95 (hw : z_Wd w) : z_S w zY_Reader_readRow 95 g_Reader_readRow_95 := (zq_S (zs_iload (by decide +kernel)) (zs_iret (by decide +kernel) rfl))
def g_Reader_readRow_87 : z_T := (zq 88 (zi_i2l 88) (zq 89 (zi_last 89) (zq 92 (zi_iinc 5 1 92) (zi_goto 55))))
theorem gS_Reader_readRow_87 (hw : z_Wd w) : z_S w zY_Reader_readRow 87 g_Reader_readRow_87 := (zq_S (zs_i2l (by decide +kernel)) (zq_S (zs_last hw.1 (by decide +kernel)) (zq_S (zs_iinc (n := 1) (by decide +kernel) (by decide) (by decide)) (zs_goto (off := -37) (by decide +kernel) (by decide)))))
def g_Reader_readRow_77 : z_T := (zq 79 (zi_iload 5 79) (zq 80 (zi_iadd 80) (zq 81 (zi_aload 0 81) (zq 82 (zi_iload 1 82) (zq 83 (zi_iconst 1 83) (zi_iadd 84))))))
theorem gS_Reader_readRow_77 (hw : z_Wd w) : z_S w zY_Reader_readRow 77 g_Reader_readRow_77 := (zq_S (zs_iload (by decide +kernel)) (zq_S (zs_iadd (by decide +kernel)) (zq_S (zs_aload_n (k9 := 0) (by decide +kernel) rfl) (zq_S (zs_iload_n (k9 := 1) (by decide +kernel) rfl) (zq_S (zs_iconst (n := 1) (by decide +kernel) (by decide)) (zs_iadd (by decide +kernel)))))))
def g_Reader_readRow_55 : z_T := (zq 57 (zi_iload 5 57) (zq 58 (zi_iload 3 58) (zb 61 95 (zi_icmp_ge 95 61) (zq 62 (zi_aload 0 62) (zq 65 (zi_get 1 6 65) (zq 68 (zi_get 4 2 68) (zq 69 (zi_aload 0 69) (zq 72 (zi_get 1 6 72) (zi_iload 4 74)))))) g_Reader_readRow_95)))
theorem gS_Reader_readRow_55 (hw : z_Wd w) : z_S w zY_Reader_readRow 55 g_Reader_readRow_55 := (zq_S (zs_iload (by decide +kernel)) (zq_S (zs_iload_n (k9 := 3) (by decide +kernel) rfl) (zb_S (zs_icmp_ge (off := 37) (by decide +kernel) (by decide)) (zq_S (zs_aload_n (k9 := 0) (by decide +kernel) rfl) (zq_S (zs_get hw.1 (by decide +kernel) (zf_Reader_49 hw)) (zq_S (zs_get hw.1 (by decide +kernel) (zf_Reader_114 hw)) (zq_S (zs_aload_n (k9 := 0) (by decide +kernel) rfl) (zq_S (zs_get hw.1 (by decide +kernel) (zf_Reader_49 hw)) (zs_iload (by decide +kernel))))))) (gS_Reader_readRow_95 hw))))
def g_Reader_readRow_52 : z_T := (zq 53 (zi_iconst 0 53) (zi_istore 5 55))
theorem gS_Reader_readRow_52 (hw : z_Wd w) : z_S w zY_Reader_readRow 52 g_Reader_readRow_52 := (zq_S (zs_iconst (n := 0) (by decide +kernel) (by decide)) (zs_istore (by decide +kernel) (by decide)))
def g_Reader_readRow_43 : z_T := (zq 45 (zi_istore 4 45) (zq 46 (zi_aload 0 46) (zq 48 (zi_iload 4 48) (zi_iconst (-1) 49))))
theorem gS_Reader_readRow_43 (hw : z_Wd w) : z_S w zY_Reader_readRow 43 g_Reader_readRow_43 := (zq_S (zs_istore (by decide +kernel) (by decide)) (zq_S (zs_aload_n (k9 := 0) (by decide +kernel) rfl) (zq_S (zs_iload (by decide +kernel)) (zs_iconst (n := (-1)) (by decide +kernel) (by decide)))))
def g_Reader_readRow_35 : z_T := (zq 36 (zi_aload 0 36) (zq 39 (zi_get 1 6 39) (zi_iload 3 40)))
theorem gS_Reader_readRow_35 (hw : z_Wd w) : z_S w zY_Reader_readRow 35 g_Reader_readRow_35 := (zq_S (zs_aload_n (k9 := 0) (by decide +kernel) rfl) (zq_S (zs_get hw.1 (by decide +kernel) (zf_Reader_49 hw)) (zs_iload_n (k9 := 3) (by decide +kernel) rfl)))
def g_Reader_readRow_20 : z_T := (zq 21 (zi_iload 3 21) (zq 22 (zi_aload 0 22) (zq 25 (zi_get 1 2 25) (zq 26 (zi_iconst 1 26) (zq 27 (zi_iald 27) (zb 30 35 (zi_icmp_le 35 30) (zq 31 (zi_aload 0 31) (zi_iload 2 32)) g_Reader_readRow_35))))))
theorem gS_Reader_readRow_20 (hw : z_Wd w) : z_S w zY_Reader_readRow 20 g_Reader_readRow_20 := (zq_S (zs_iload_n (k9 := 3) (by decide +kernel) rfl) (zq_S (zs_aload_n (k9 := 0) (by decide +kernel) rfl) (zq_S (zs_get hw.1 (by decide +kernel) (zf_Reader_28 hw)) (zq_S (zs_iconst (n := 1) (by decide +kernel) (by decide)) (zq_S (zs_iald hw.1 (by decide +kernel)) (zb_S (zs_icmp_le (off := 8) (by decide +kernel) (by decide)) (zq_S (zs_aload_n (k9 := 0) (by decide +kernel) rfl) (zs_iload_n (k9 := 2) (by decide +kernel) rfl)) (gS_Reader_readRow_35 hw)))))))
def g_Reader_readRow_9 : z_T := (zq 10 (zi_istore 3 10) (zq 11 (zi_iload 3 11) (zq 12 (zi_iconst 5 12) (zb 15 20 (zi_icmp_le 20 15) (zq 16 (zi_aload 0 16) (zi_iload 2 17)) g_Reader_readRow_20))))
theorem gS_Reader_readRow_9 (hw : z_Wd w) : z_S w zY_Reader_readRow 9 g_Reader_readRow_9 := (zq_S (zs_istore_n (k9 := 3) (by decide +kernel) rfl (by decide)) (zq_S (zs_iload_n (k9 := 3) (by decide +kernel) rfl) (zq_S (zs_iconst (n := 5) (by decide +kernel) (by decide)) (zb_S (zs_icmp_le (off := 8) (by decide +kernel) (by decide)) (zq_S (zs_aload_n (k9 := 0) (by decide +kernel) rfl) (zs_iload_n (k9 := 2) (by decide +kernel) rfl)) (gS_Reader_readRow_20 hw)))))
def g_Reader_readRow_0 : z_T := (zq 1 (zi_aload 0 1) (zq 4 (zi_get 1 9 4) (zq 5 (zi_istore 2 5) (zi_aload 0 6))))
theorem gS_Reader_readRow_0 (hw : z_Wd w) : z_S w zY_Reader_readRow 0 g_Reader_readRow_0 := (zq_S (zs_aload_n (k9 := 0) (by decide +kernel) rfl) (zq_S (zs_get hw.1 (by decide +kernel) (zf_Reader_57 hw)) (zq_S (zs_istore_n (k9 := 2) (by decide +kernel) rfl (by decide)) (zs_aload_n (k9 := 0) (by decide +kernel) rfl))))
def g_Reader_readRecord_118 : z_T := (zq 120 (zi_iload 5 120) (zi_iret))
theorem gS_Reader_readRecord_118 (hw : z_Wd w) : z_S w zY_Reader_readRecord 118 g_Reader_readRecord_118 := (zq_S (zs_iload (by decide +kernel)) (zs_iret (by decide +kernel) rfl))
def g_Reader_readRecord_112 : z_T := (zq 115 (zi_iinc 6 (-1) 115) (zi_goto 90))
theorem gS_Reader_readRecord_112 (hw : z_Wd w) : z_S w zY_Reader_readRecord 112 g_Reader_readRecord_112 := (zq_S (zs_iinc (n := (-1)) (by decide +kernel) (by decide) (by decide)) (zs_goto (off := -25) (by decide +kernel) (by decide)))
def g_Reader_readRecord_108 : z_T := (zi_iload 1 109)
theorem gS_Reader_readRecord_108 (hw : z_Wd w) : z_S w zY_Reader_readRecord 108 g_Reader_readRecord_108 := (zs_iload_n (k9 := 1) (by decide +kernel) rfl)
def g_Reader_readRecord_90 : z_T := (zq 92 (zi_iload 6 92) (zb 95 118 (zi_if_lt 118 95) (zq 96 (zi_aload 0 96) (zq 98 (zi_iload 5 98) (zq 99 (zi_aload 0 99) (zq 102 (zi_get 1 3 102) (zq 103 (zi_iload 3 103) (zi_iload 6 105)))))) g_Reader_readRecord_118))
theorem gS_Reader_readRecord_90 (hw : z_Wd w) : z_S w zY_Reader_readRecord 90 g_Reader_readRecord_90 := (zq_S (zs_iload (by decide +kernel)) (zb_S (zs_if_lt (off := 26) (by decide +kernel) (by decide)) (zq_S (zs_aload_n (k9 := 0) (by decide +kernel) rfl) (zq_S (zs_iload (by decide +kernel)) (zq_S (zs_aload_n (k9 := 0) (by decide +kernel) rfl) (zq_S (zs_get hw.1 (by decide +kernel) (zf_Reader_36 hw)) (zq_S (zs_iload_n (k9 := 3) (by decide +kernel) rfl) (zs_iload (by decide +kernel))))))) (gS_Reader_readRecord_118 hw)))
def g_Reader_readRecord_86 : z_T := (zq 87 (zi_iconst 1 87) (zq 88 (zi_isub 88) (zi_istore 6 90)))
theorem gS_Reader_readRecord_86 (hw : z_Wd w) : z_S w zY_Reader_readRecord 86 g_Reader_readRecord_86 := (zq_S (zs_iconst (n := 1) (by decide +kernel) (by decide)) (zq_S (zs_isub (by decide +kernel)) (zs_istore (by decide +kernel) (by decide))))
def g_Reader_readRecord_78 : z_T := (zq 79 (zi_aload 0 79) (zq 82 (zi_get 1 3 82) (zi_iload 3 83)))
theorem gS_Reader_readRecord_78 (hw : z_Wd w) : z_S w zY_Reader_readRecord 78 g_Reader_readRecord_78 := (zq_S (zs_aload_n (k9 := 0) (by decide +kernel) rfl) (zq_S (zs_get hw.1 (by decide +kernel) (zf_Reader_36 hw)) (zs_iload_n (k9 := 3) (by decide +kernel) rfl)))
def g_Reader_readRecord_69 : z_T := (zq 71 (zi_istore 5 71) (zq 72 (zi_aload 0 72) (zq 74 (zi_iload 5 74) (zi_iconst (-1) 75))))
theorem gS_Reader_readRecord_69 (hw : z_Wd w) : z_S w zY_Reader_readRecord 69 g_Reader_readRecord_69 := (zq_S (zs_istore (by decide +kernel) (by decide)) (zq_S (zs_aload_n (k9 := 0) (by decide +kernel) rfl) (zq_S (zs_iload (by decide +kernel)) (zs_iconst (n := (-1)) (by decide +kernel) (by decide)))))
def g_Reader_readRecord_53 : z_T := (zq 54 (zi_aload 0 54) (zq 57 (zi_get 1 6 57) (zq 59 (zi_iload 4 59) (zq 60 (zi_aload 0 60) (zq 63 (zi_get 1 1 63) (zi_get 3 0 66))))))
theorem gS_Reader_readRecord_53 (hw : z_Wd w) : z_S w zY_Reader_readRecord 53 g_Reader_readRecord_53 := (zq_S (zs_aload_n (k9 := 0) (by decide +kernel) rfl) (zq_S (zs_get hw.1 (by decide +kernel) (zf_Reader_49 hw)) (zq_S (zs_iload (by decide +kernel)) (zq_S (zs_aload_n (k9 := 0) (by decide +kernel) rfl) (zq_S (zs_get hw.1 (by decide +kernel) (zf_Reader_15 hw)) (zs_get hw.1 (by decide +kernel) (zf_Reader_130 hw)))))))
def g_Reader_readRecord_45 : z_T := (zb 48 53 (zi_if_ne 53 48) (zq 49 (zi_aload 0 49) (zi_iload 2 50)) g_Reader_readRecord_53)
theorem gS_Reader_readRecord_45 (hw : z_Wd w) : z_S w zY_Reader_readRecord 45 g_Reader_readRecord_45 := (zb_S (zs_if_ne (off := 8) (by decide +kernel) (by decide)) (zq_S (zs_aload_n (k9 := 0) (by decide +kernel) rfl) (zs_iload_n (k9 := 2) (by decide +kernel) rfl)) (gS_Reader_readRecord_53 hw))
def g_Reader_readRecord_22 : z_T := (zq 23 (zi_aload 0 23) (zq 26 (zi_get 1 3 26) (zq 29 (zi_get 2 1 29) (zq 30 (zi_iload 3 30) (zq 31 (zi_iald 31) (zq 33 (zi_istore 4 33) (zq 34 (zi_aload 0 34) (zq 37 (zi_get 1 1 37) (zq 40 (zi_get 3 0 40) (zi_iload 4 42))))))))))
theorem gS_Reader_readRecord_22 (hw : z_Wd w) : z_S w zY_Reader_readRecord 22 g_Reader_readRecord_22 := (zq_S (zs_aload_n (k9 := 0) (by decide +kernel) rfl) (zq_S (zs_get hw.1 (by decide +kernel) (zf_Reader_36 hw)) (zq_S (zs_get hw.1 (by decide +kernel) (zf_Reader_127 hw)) (zq_S (zs_iload_n (k9 := 3) (by decide +kernel) rfl) (zq_S (zs_iald hw.1 (by decide +kernel)) (zq_S (zs_istore (by decide +kernel) (by decide)) (zq_S (zs_aload_n (k9 := 0) (by decide +kernel) rfl) (zq_S (zs_get hw.1 (by decide +kernel) (zf_Reader_15 hw)) (zq_S (zs_get hw.1 (by decide +kernel) (zf_Reader_130 hw)) (zs_iload (by decide +kernel)))))))))))
def g_Reader_readRecord_11 : z_T := (zq 12 (zi_istore 3 12) (zq 13 (zi_iload 3 13) (zq 14 (zi_iconst (-1) 14) (zb 17 22 (zi_icmp_ne 22 17) (zq 18 (zi_aload 0 18) (zi_iload 2 19)) g_Reader_readRecord_22))))
theorem gS_Reader_readRecord_11 (hw : z_Wd w) : z_S w zY_Reader_readRecord 11 g_Reader_readRecord_11 := (zq_S (zs_istore_n (k9 := 3) (by decide +kernel) rfl (by decide)) (zq_S (zs_iload_n (k9 := 3) (by decide +kernel) rfl) (zq_S (zs_iconst (n := (-1)) (by decide +kernel) (by decide)) (zb_S (zs_icmp_ne (off := 8) (by decide +kernel) (by decide)) (zq_S (zs_aload_n (k9 := 0) (by decide +kernel) rfl) (zs_iload_n (k9 := 2) (by decide +kernel) rfl)) (gS_Reader_readRecord_22 hw)))))
def g_Reader_readRecord_0 : z_T := (zq 1 (zi_aload 0 1) (zq 4 (zi_get 1 9 4) (zq 5 (zi_istore 2 5) (zq 6 (zi_aload 0 6) (zi_bipush 6 8)))))
theorem gS_Reader_readRecord_0 (hw : z_Wd w) : z_S w zY_Reader_readRecord 0 g_Reader_readRecord_0 := (zq_S (zs_aload_n (k9 := 0) (by decide +kernel) rfl) (zq_S (zs_get hw.1 (by decide +kernel) (zf_Reader_57 hw)) (zq_S (zs_istore_n (k9 := 2) (by decide +kernel) rfl (by decide)) (zq_S (zs_aload_n (k9 := 0) (by decide +kernel) rfl) (zs_bipush (n := 6) (by decide +kernel) (by decide))))))
def g_Reader_readFields_131 : z_T := (zi_vret)
theorem gS_Reader_readFields_131 (hw : z_Wd w) : z_S w zY_Reader_readFields 131 g_Reader_readFields_131 := (zs_vret (by decide +kernel) rfl)
def g_Reader_readFields_125 : z_T := (zq 128 (zi_iinc 5 1 128) (zi_goto 14))
theorem gS_Reader_readFields_125 (hw : z_Wd w) : z_S w zY_Reader_readFields 125 g_Reader_readFields_125 := (zq_S (zs_iinc (n := 1) (by decide +kernel) (by decide) (by decide)) (zs_goto (off := -114) (by decide +kernel) (by decide)))
def g_Reader_readFields_122 : z_T := (zq 124 (zi_lload 7 124) (zq 125 (zi_last 125) g_Reader_readFields_125))
theorem gS_Reader_readFields_122 (hw : z_Wd w) : z_S w zY_Reader_readFields 122 g_Reader_readFields_122 := (zq_S (zs_lload (by decide +kernel)) (zq_S (zs_last hw.1 (by decide +kernel)) (gS_Reader_readFields_125 hw)))
def g_Reader_readFields_95 : z_T := (zq 97 (zi_istore 9 97) (zq 99 (zi_iload 9 99) (zq 100 (zi_iconst (-1) 100) (zb 103 125 (zi_icmp_eq 125 103) (zq 104 (zi_aload 0 104) (zq 107 (zi_get 1 6 107) (zq 110 (zi_get 4 2 110) (zq 111 (zi_aload 0 111) (zq 114 (zi_get 1 6 114) (zq 115 (zi_iload 1 115) (zq 117 (zi_iload 4 117) (zi_iload 9 119)))))))) g_Reader_readFields_125))))
theorem gS_Reader_readFields_95 (hw : z_Wd w) : z_S w zY_Reader_readFields 95 g_Reader_readFields_95 := (zq_S (zs_istore (by decide +kernel) (by decide)) (zq_S (zs_iload (by decide +kernel)) (zq_S (zs_iconst (n := (-1)) (by decide +kernel) (by decide)) (zb_S (zs_icmp_eq (off := 25) (by decide +kernel) (by decide)) (zq_S (zs_aload_n (k9 := 0) (by decide +kernel) rfl) (zq_S (zs_get hw.1 (by decide +kernel) (zf_Reader_49 hw)) (zq_S (zs_get hw.1 (by decide +kernel) (zf_Reader_114 hw)) (zq_S (zs_aload_n (k9 := 0) (by decide +kernel) rfl) (zq_S (zs_get hw.1 (by decide +kernel) (zf_Reader_49 hw)) (zq_S (zs_iload_n (k9 := 1) (by decide +kernel) rfl) (zq_S (zs_iload (by decide +kernel)) (zs_iload (by decide +kernel))))))))) (gS_Reader_readFields_125 hw)))))
def g_Reader_readFields_71 : z_T := (zq 73 (zi_lstore 7 73) (zq 74 (zi_aload 0 74) (zq 77 (zi_get 1 1 77) (zq 80 (zi_get 3 0 80) (zq 82 (zi_iload 4 82) (zq 83 (zi_aload 0 83) (zq 86 (zi_get 1 3 86) (zq 87 (zi_iload 2 87) (zi_iload 5 89)))))))))
theorem gS_Reader_readFields_71 (hw : z_Wd w) : z_S w zY_Reader_readFields 71 g_Reader_readFields_71 := (zq_S (zs_lstore (by decide +kernel) (by decide)) (zq_S (zs_aload_n (k9 := 0) (by decide +kernel) rfl) (zq_S (zs_get hw.1 (by decide +kernel) (zf_Reader_15 hw)) (zq_S (zs_get hw.1 (by decide +kernel) (zf_Reader_130 hw)) (zq_S (zs_iload (by decide +kernel)) (zq_S (zs_aload_n (k9 := 0) (by decide +kernel) rfl) (zq_S (zs_get hw.1 (by decide +kernel) (zf_Reader_36 hw)) (zq_S (zs_iload_n (k9 := 2) (by decide +kernel) rfl) (zs_iload (by decide +kernel))))))))))
def g_Reader_readFields_66 : z_T := (zi_iload 6 68)
theorem gS_Reader_readFields_66 (hw : z_Wd w) : z_S w zY_Reader_readFields 66 g_Reader_readFields_66 := (zs_iload (by decide +kernel))
def g_Reader_readFields_57 : z_T := (zq 58 (zi_aload 0 58) (zi_iload 6 60))
theorem gS_Reader_readFields_57 (hw : z_Wd w) : z_S w zY_Reader_readFields 57 g_Reader_readFields_57 := (zq_S (zs_aload_n (k9 := 0) (by decide +kernel) rfl) (zs_iload (by decide +kernel)))
def g_Reader_readFields_53 : z_T := (zq 54 (zi_i2l 54) (zq 71 (zi_goto 71) g_Reader_readFields_71))
theorem gS_Reader_readFields_53 (hw : z_Wd w) : z_S w zY_Reader_readFields 53 g_Reader_readFields_53 := (zq_S (zs_i2l (by decide +kernel)) (zq_S (zs_goto (off := 17) (by decide +kernel) (by decide)) (gS_Reader_readFields_71 hw)))
def g_Reader_readFields_38 : z_T := (zq 40 (zi_istore 6 40) (zq 42 (zi_iload 6 42) (zq 43 (zi_iconst 4 43) (zb 46 57 (zi_icmp_ne 57 46) (zq 47 (zi_aload 0 47) (zq 48 (zi_iload 3 48) (zq 49 (zi_iconst 1 49) (zi_iadd 50)))) g_Reader_readFields_57))))
theorem gS_Reader_readFields_38 (hw : z_Wd w) : z_S w zY_Reader_readFields 38 g_Reader_readFields_38 := (zq_S (zs_istore (by decide +kernel) (by decide)) (zq_S (zs_iload (by decide +kernel)) (zq_S (zs_iconst (n := 4) (by decide +kernel) (by decide)) (zb_S (zs_icmp_ne (off := 14) (by decide +kernel) (by decide)) (zq_S (zs_aload_n (k9 := 0) (by decide +kernel) rfl) (zq_S (zs_iload_n (k9 := 3) (by decide +kernel) rfl) (zq_S (zs_iconst (n := 1) (by decide +kernel) (by decide)) (zs_iadd (by decide +kernel))))) (gS_Reader_readFields_57 hw)))))
def g_Reader_readFields_14 : z_T := (zq 16 (zi_iload 5 16) (zq 17 (zi_aload 0 17) (zq 20 (zi_get 1 3 20) (zq 23 (zi_get 2 4 23) (zq 24 (zi_iload 2 24) (zq 25 (zi_iald 25) (zb 28 131 (zi_icmp_ge 131 28) (zq 29 (zi_aload 0 29) (zq 32 (zi_get 1 3 32) (zq 33 (zi_iload 2 33) (zi_iload 5 35)))) g_Reader_readFields_131)))))))
theorem gS_Reader_readFields_14 (hw : z_Wd w) : z_S w zY_Reader_readFields 14 g_Reader_readFields_14 := (zq_S (zs_iload (by decide +kernel)) (zq_S (zs_aload_n (k9 := 0) (by decide +kernel) rfl) (zq_S (zs_get hw.1 (by decide +kernel) (zf_Reader_36 hw)) (zq_S (zs_get hw.1 (by decide +kernel) (zf_Reader_155 hw)) (zq_S (zs_iload_n (k9 := 2) (by decide +kernel) rfl) (zq_S (zs_iald hw.1 (by decide +kernel)) (zb_S (zs_icmp_ge (off := 106) (by decide +kernel) (by decide)) (zq_S (zs_aload_n (k9 := 0) (by decide +kernel) rfl) (zq_S (zs_get hw.1 (by decide +kernel) (zf_Reader_36 hw)) (zq_S (zs_iload_n (k9 := 2) (by decide +kernel) rfl) (zs_iload (by decide +kernel))))) (gS_Reader_readFields_131 hw))))))))
def g_Reader_readFields_0 : z_T := (zq 1 (zi_aload 0 1) (zq 4 (zi_get 1 3 4) (zq 7 (zi_get 2 1 7) (zq 8 (zi_iload 2 8) (zq 9 (zi_iald 9) (zq 11 (zi_istore 4 11) (zq 12 (zi_iconst 0 12) (zi_istore 5 14))))))))
theorem gS_Reader_readFields_0 (hw : z_Wd w) : z_S w zY_Reader_readFields 0 g_Reader_readFields_0 := (zq_S (zs_aload_n (k9 := 0) (by decide +kernel) rfl) (zq_S (zs_get hw.1 (by decide +kernel) (zf_Reader_36 hw)) (zq_S (zs_get hw.1 (by decide +kernel) (zf_Reader_127 hw)) (zq_S (zs_iload_n (k9 := 2) (by decide +kernel) rfl) (zq_S (zs_iald hw.1 (by decide +kernel)) (zq_S (zs_istore (by decide +kernel) (by decide)) (zq_S (zs_iconst (n := 0) (by decide +kernel) (by decide)) (zs_istore (by decide +kernel) (by decide)))))))))
def g_Reader_readDescription_56 : z_T := (zq 57 (zi_iconst (-1) 57) (zi_iret))
theorem gS_Reader_readDescription_56 (hw : z_Wd w) : z_S w zY_Reader_readDescription 56 g_Reader_readDescription_56 := (zq_S (zs_iconst (n := (-1)) (by decide +kernel) (by decide)) (zs_iret (by decide +kernel) rfl))
def g_Reader_readDescription_51 : z_T := (zq 52 (zi_aload 0 52) (zi_iload 2 53))
theorem gS_Reader_readDescription_51 (hw : z_Wd w) : z_S w zY_Reader_readDescription 51 g_Reader_readDescription_51 := (zq_S (zs_aload_n (k9 := 0) (by decide +kernel) rfl) (zs_iload_n (k9 := 2) (by decide +kernel) rfl))
def g_Reader_readDescription_50 : z_T := (zi_iret)
theorem gS_Reader_readDescription_50 (hw : z_Wd w) : z_S w zY_Reader_readDescription 50 g_Reader_readDescription_50 := (zs_iret (by decide +kernel) rfl)
def g_Reader_readDescription_44 : z_T := (zq 45 (zi_aload 0 45) (zq 46 (zi_iload 2 46) (zi_iload 1 47)))
theorem gS_Reader_readDescription_44 (hw : z_Wd w) : z_S w zY_Reader_readDescription 44 g_Reader_readDescription_44 := (zq_S (zs_aload_n (k9 := 0) (by decide +kernel) rfl) (zq_S (zs_iload_n (k9 := 2) (by decide +kernel) rfl) (zs_iload_n (k9 := 1) (by decide +kernel) rfl)))
def g_Reader_readDescription_43 : z_T := (zi_iret)
theorem gS_Reader_readDescription_43 (hw : z_Wd w) : z_S w zY_Reader_readDescription 43 g_Reader_readDescription_43 := (zs_iret (by decide +kernel) rfl)
def g_Reader_readDescription_38 : z_T := (zq 39 (zi_aload 0 39) (zi_iload 1 40))
theorem gS_Reader_readDescription_38 (hw : z_Wd w) : z_S w zY_Reader_readDescription 38 g_Reader_readDescription_38 := (zq_S (zs_aload_n (k9 := 0) (by decide +kernel) rfl) (zs_iload_n (k9 := 1) (by decide +kernel) rfl))
def g_Reader_readDescription_36 : z_T := (zq 37 (zi_iconst (-1) 37) (zi_iret))
theorem gS_Reader_readDescription_36 (hw : z_Wd w) : z_S w zY_Reader_readDescription 36 g_Reader_readDescription_36 := (zq_S (zs_iconst (n := (-1)) (by decide +kernel) (by decide)) (zs_iret (by decide +kernel) rfl))
def g_Reader_readDescription_0 : z_T := (zq 1 (zi_aload 0 1) (zq 4 (zi_get 1 9 4) (zq 5 (zi_istore 2 5) (zi_aload 0 6))))
theorem gS_Reader_readDescription_0 (hw : z_Wd w) : z_S w zY_Reader_readDescription 0 g_Reader_readDescription_0 := (zq_S (zs_aload_n (k9 := 0) (by decide +kernel) rfl) (zq_S (zs_get hw.1 (by decide +kernel) (zf_Reader_57 hw)) (zq_S (zs_istore_n (k9 := 2) (by decide +kernel) rfl (by decide)) (zs_aload_n (k9 := 0) (by decide +kernel) rfl))))
def g_Reader_readDescriptionHandle_57 : z_T := (zq 58 (zi_aload 0 58) (zq 61 (zi_get 1 5 61) (zq 62 (zi_iload 3 62) (zq 63 (zi_iald 63) (zi_iret)))))
theorem gS_Reader_readDescriptionHandle_57 (hw : z_Wd w) : z_S w zY_Reader_readDescriptionHandle 57 g_Reader_readDescriptionHandle_57 := (zq_S (zs_aload_n (k9 := 0) (by decide +kernel) rfl) (zq_S (zs_get hw.1 (by decide +kernel) (zf_Reader_43 hw)) (zq_S (zs_iload_n (k9 := 3) (by decide +kernel) rfl) (zq_S (zs_iald hw.1 (by decide +kernel)) (zs_iret (by decide +kernel) rfl)))))
def g_Reader_readDescriptionHandle_52 : z_T := (zq 53 (zi_aload 0 53) (zi_iload 2 54))
theorem gS_Reader_readDescriptionHandle_52 (hw : z_Wd w) : z_S w zY_Reader_readDescriptionHandle 52 g_Reader_readDescriptionHandle_52 := (zq_S (zs_aload_n (k9 := 0) (by decide +kernel) rfl) (zs_iload_n (k9 := 2) (by decide +kernel) rfl))
def g_Reader_readDescriptionHandle_10 : z_T := (zq 11 (zi_l2i 11) (zq 12 (zi_istore 3 12) (zq 13 (zi_iload 3 13) (zq 16 (zi_if_lt 52 16) (zq 17 (zi_iload 3 17) (zq 18 (zi_aload 0 18) (zq 21 (zi_get 1 8 21) (zq 24 (zi_icmp_ge 52 24) (zq 25 (zi_aload 0 25) (zq 28 (zi_get 1 5 28) (zq 29 (zi_iload 3 29) (zq 30 (zi_iald 30) (zq 31 (zi_iconst (-1) 31) (zq 34 (zi_icmp_eq 52 34) (zq 35 (zi_aload 0 35) (zq 38 (zi_get 1 3 38) (zq 41 (zi_get 2 1 41) (zq 42 (zi_aload 0 42) (zq 45 (zi_get 1 5 45) (zq 46 (zi_iload 3 46) (zq 47 (zi_iald 47) (zq 48 (zi_iald 48) (zq 49 (zi_iload 1 49) (zq 57 (zi_icmp_lt 57 52) g_Reader_readDescriptionHandle_57))))))))))))))))))))))))
theorem gS_Reader_readDescriptionHandle_10 (hw : z_Wd w) : z_S w zY_Reader_readDescriptionHandle 10 g_Reader_readDescriptionHandle_10 := (zq_S (zs_l2i (by decide +kernel)) (zq_S (zs_istore_n (k9 := 3) (by decide +kernel) rfl (by decide)) (zq_S (zs_iload_n (k9 := 3) (by decide +kernel) rfl) (zq_S (zs_if_lt (off := 39) (by decide +kernel) (by decide)) (zq_S (zs_iload_n (k9 := 3) (by decide +kernel) rfl) (zq_S (zs_aload_n (k9 := 0) (by decide +kernel) rfl) (zq_S (zs_get hw.1 (by decide +kernel) (zf_Reader_63 hw)) (zq_S (zs_icmp_ge (off := 31) (by decide +kernel) (by decide)) (zq_S (zs_aload_n (k9 := 0) (by decide +kernel) rfl) (zq_S (zs_get hw.1 (by decide +kernel) (zf_Reader_43 hw)) (zq_S (zs_iload_n (k9 := 3) (by decide +kernel) rfl) (zq_S (zs_iald hw.1 (by decide +kernel)) (zq_S (zs_iconst (n := (-1)) (by decide +kernel) (by decide)) (zq_S (zs_icmp_eq (off := 21) (by decide +kernel) (by decide)) (zq_S (zs_aload_n (k9 := 0) (by decide +kernel) rfl) (zq_S (zs_get hw.1 (by decide +kernel) (zf_Reader_36 hw)) (zq_S (zs_get hw.1 (by decide +kernel) (zf_Reader_127 hw)) (zq_S (zs_aload_n (k9 := 0) (by decide +kernel) rfl) (zq_S (zs_get hw.1 (by decide +kernel) (zf_Reader_43 hw)) (zq_S (zs_iload_n (k9 := 3) (by decide +kernel) rfl) (zq_S (zs_iald hw.1 (by decide +kernel)) (zq_S (zs_iald hw.1 (by decide +kernel)) (zq_S (zs_iload_n (k9 := 1) (by decide +kernel) rfl) (zq_S (zs_icmp_lt (off := 8) (by decide +kernel) (by decide)) (gS_Reader_readDescriptionHandle_57 hw)))))))))))))))))))))))))
def g_Reader_readDescriptionHandle_0 : z_T := (zq 1 (zi_aload 0 1) (zq 4 (zi_get 1 9 4) (zq 5 (zi_istore 2 5) (zq 6 (zi_aload 0 6) (zi_iconst 2 7)))))
theorem gS_Reader_readDescriptionHandle_0 (hw : z_Wd w) : z_S w zY_Reader_readDescriptionHandle 0 g_Reader_readDescriptionHandle_0 := (zq_S (zs_aload_n (k9 := 0) (by decide +kernel) rfl) (zq_S (zs_get hw.1 (by decide +kernel) (zf_Reader_57 hw)) (zq_S (zs_istore_n (k9 := 2) (by decide +kernel) rfl (by decide)) (zq_S (zs_aload_n (k9 := 0) (by decide +kernel) rfl) (zs_iconst (n := 2) (by decide +kernel) (by decide))))))
def g_Reader_readNewDescription_143 : z_T := (zq 145 (zi_iload 4 145) (zi_iret))
theorem gS_Reader_readNewDescription_143 (hw : z_Wd w) : z_S w zY_Reader_readNewDescription 143 g_Reader_readNewDescription_143 := (zq_S (zs_iload (by decide +kernel)) (zs_iret (by decide +kernel) rfl))
def g_Reader_readNewDescription_135 : z_T := (zb 138 143 (zi_if_eq 143 138) (zq 139 (zi_aload 0 139) (zi_iload 1 140)) g_Reader_readNewDescription_143)
theorem gS_Reader_readNewDescription_135 (hw : z_Wd w) : z_S w zY_Reader_readNewDescription 135 g_Reader_readNewDescription_135 := (zb_S (zs_if_eq (off := 8) (by decide +kernel) (by decide)) (zq_S (zs_aload_n (k9 := 0) (by decide +kernel) rfl) (zs_iload_n (k9 := 1) (by decide +kernel) rfl)) (gS_Reader_readNewDescription_143 hw))
def g_Reader_readNewDescription_128 : z_T := (zq 129 (zi_iast 129) (zq 130 (zi_aload 0 130) (zi_iload 4 132)))
theorem gS_Reader_readNewDescription_128 (hw : z_Wd w) : z_S w zY_Reader_readNewDescription 128 g_Reader_readNewDescription_128 := (zq_S (zs_iast hw.1 (by decide +kernel)) (zq_S (zs_aload_n (k9 := 0) (by decide +kernel) rfl) (zs_iload (by decide +kernel))))
def g_Reader_readNewDescription_114 : z_T := (zq 115 (zi_aload 0 115) (zq 118 (zi_get 1 3 118) (zq 121 (zi_get 2 2 121) (zq 123 (zi_iload 4 123) (zq 124 (zi_aload 0 124) (zi_iload 3 125))))))
theorem gS_Reader_readNewDescription_114 (hw : z_Wd w) : z_S w zY_Reader_readNewDescription 114 g_Reader_readNewDescription_114 := (zq_S (zs_aload_n (k9 := 0) (by decide +kernel) rfl) (zq_S (zs_get hw.1 (by decide +kernel) (zf_Reader_36 hw)) (zq_S (zs_get hw.1 (by decide +kernel) (zf_Reader_191 hw)) (zq_S (zs_iload (by decide +kernel)) (zq_S (zs_aload_n (k9 := 0) (by decide +kernel) rfl) (zs_iload_n (k9 := 3) (by decide +kernel) rfl))))))
def g_Reader_readNewDescription_107 : z_T := (zq 108 (zi_aload 0 108) (zq 109 (zi_iconst (-1) 109) (zi_iload 4 111)))
theorem gS_Reader_readNewDescription_107 (hw : z_Wd w) : z_S w zY_Reader_readNewDescription 107 g_Reader_readNewDescription_107 := (zq_S (zs_aload_n (k9 := 0) (by decide +kernel) rfl) (zq_S (zs_iconst (n := (-1)) (by decide +kernel) (by decide)) (zs_iload (by decide +kernel))))
def g_Reader_readNewDescription_101 : z_T := (zq 104 (zi_iinc 6 1 104) (zi_goto 88))
theorem gS_Reader_readNewDescription_101 (hw : z_Wd w) : z_S w zY_Reader_readNewDescription 101 g_Reader_readNewDescription_101 := (zq_S (zs_iinc (n := 1) (by decide +kernel) (by decide) (by decide)) (zs_goto (off := -16) (by decide +kernel) (by decide)))
def g_Reader_readNewDescription_88 : z_T := (zq 90 (zi_iload 6 90) (zq 92 (zi_iload 5 92) (zb 95 107 (zi_icmp_ge 107 95) (zq 96 (zi_aload 0 96) (zi_iload 4 98)) g_Reader_readNewDescription_107)))
theorem gS_Reader_readNewDescription_88 (hw : z_Wd w) : z_S w zY_Reader_readNewDescription 88 g_Reader_readNewDescription_88 := (zq_S (zs_iload (by decide +kernel)) (zq_S (zs_iload (by decide +kernel)) (zb_S (zs_icmp_ge (off := 15) (by decide +kernel) (by decide)) (zq_S (zs_aload_n (k9 := 0) (by decide +kernel) rfl) (zs_iload (by decide +kernel))) (gS_Reader_readNewDescription_107 hw))))
def g_Reader_readNewDescription_85 : z_T := (zq 86 (zi_iconst 0 86) (zi_istore 6 88))
theorem gS_Reader_readNewDescription_85 (hw : z_Wd w) : z_S w zY_Reader_readNewDescription 85 g_Reader_readNewDescription_85 := (zq_S (zs_iconst (n := 0) (by decide +kernel) (by decide)) (zs_istore (by decide +kernel) (by decide)))
def g_Reader_readNewDescription_67 : z_T := (zq 69 (zi_istore 5 69) (zq 71 (zi_iload 5 71) (zq 72 (zi_iconst 4 72) (zb 75 85 (zi_icmp_le 85 75) (zq 76 (zi_aload 0 76) (zq 77 (zi_aload 0 77) (zq 80 (zi_get 1 9 80) (zq 81 (zi_iconst 1 81) (zi_isub 82))))) g_Reader_readNewDescription_85))))
theorem gS_Reader_readNewDescription_67 (hw : z_Wd w) : z_S w zY_Reader_readNewDescription 67 g_Reader_readNewDescription_67 := (zq_S (zs_istore (by decide +kernel) (by decide)) (zq_S (zs_iload (by decide +kernel)) (zq_S (zs_iconst (n := 4) (by decide +kernel) (by decide)) (zb_S (zs_icmp_le (off := 13) (by decide +kernel) (by decide)) (zq_S (zs_aload_n (k9 := 0) (by decide +kernel) rfl) (zq_S (zs_aload_n (k9 := 0) (by decide +kernel) rfl) (zq_S (zs_get hw.1 (by decide +kernel) (zf_Reader_57 hw)) (zq_S (zs_iconst (n := 1) (by decide +kernel) (by decide)) (zs_isub (by decide +kernel)))))) (gS_Reader_readNewDescription_85 hw)))))
def g_Reader_readNewDescription_53 : z_T := (zq 54 (zi_aload 0 54) (zq 55 (zi_dup 55) (zq 58 (zi_get 1 7 58) (zq 59 (zi_iconst 1 59) (zq 60 (zi_iadd 60) (zq 63 (zi_put 1 7 (.int) 63) (zi_aload 0 64)))))))
theorem gS_Reader_readNewDescription_53 (hw : z_Wd w) : z_S w zY_Reader_readNewDescription 53 g_Reader_readNewDescription_53 := (zq_S (zs_aload_n (k9 := 0) (by decide +kernel) rfl) (zq_S (zs_dup (by decide +kernel)) (zq_S (zs_get hw.1 (by decide +kernel) (zf_Reader_60 hw)) (zq_S (zs_iconst (n := 1) (by decide +kernel) (by decide)) (zq_S (zs_iadd (by decide +kernel)) (zq_S (zs_put hw.1 (by decide +kernel) (zp_Reader_60 hw) (fun h => by cases h)) (zs_aload_n (k9 := 0) (by decide +kernel) rfl)))))))
def g_Reader_readNewDescription_49 : z_T := (zi_l2i 50)
theorem gS_Reader_readNewDescription_49 (hw : z_Wd w) : z_S w zY_Reader_readNewDescription 49 g_Reader_readNewDescription_49 := (zs_l2i (by decide +kernel))
def g_Reader_readNewDescription_30 : z_T := (zq 31 (zi_aload 0 31) (zq 34 (zi_get 1 7 34) (zq 36 (zi_istore 4 36) (zq 37 (zi_aload 0 37) (zq 40 (zi_get 1 3 40) (zq 42 (zi_iload 4 42) (zq 43 (zi_iload 3 43) (zq 44 (zi_iconst (-1) 44) (zq 45 (zi_aload 0 45) (zi_iconst 4 46))))))))))
theorem gS_Reader_readNewDescription_30 (hw : z_Wd w) : z_S w zY_Reader_readNewDescription 30 g_Reader_readNewDescription_30 := (zq_S (zs_aload_n (k9 := 0) (by decide +kernel) rfl) (zq_S (zs_get hw.1 (by decide +kernel) (zf_Reader_60 hw)) (zq_S (zs_istore (by decide +kernel) (by decide)) (zq_S (zs_aload_n (k9 := 0) (by decide +kernel) rfl) (zq_S (zs_get hw.1 (by decide +kernel) (zf_Reader_36 hw)) (zq_S (zs_iload (by decide +kernel)) (zq_S (zs_iload_n (k9 := 3) (by decide +kernel) rfl) (zq_S (zs_iconst (n := (-1)) (by decide +kernel) (by decide)) (zq_S (zs_aload_n (k9 := 0) (by decide +kernel) rfl) (zs_iconst (n := 4) (by decide +kernel) (by decide)))))))))))
def g_Reader_readNewDescription_20 : z_T := (zq 21 (zi_aload 0 21) (zq 22 (zi_aload 0 22) (zq 25 (zi_get 1 9 25) (zq 26 (zi_iconst 1 26) (zi_isub 27)))))
theorem gS_Reader_readNewDescription_20 (hw : z_Wd w) : z_S w zY_Reader_readNewDescription 20 g_Reader_readNewDescription_20 := (zq_S (zs_aload_n (k9 := 0) (by decide +kernel) rfl) (zq_S (zs_aload_n (k9 := 0) (by decide +kernel) rfl) (zq_S (zs_get hw.1 (by decide +kernel) (zf_Reader_57 hw)) (zq_S (zs_iconst (n := 1) (by decide +kernel) (by decide)) (zs_isub (by decide +kernel))))))
def g_Reader_readNewDescription_4 : z_T := (zq 5 (zi_istore 3 5) (zq 6 (zi_iload 3 6) (zq 7 (zi_iload 2 7) (zq 10 (zi_icmp_ge 20 10) (zq 11 (zi_aload 0 11) (zq 14 (zi_get 1 7 14) (zq 17 (zi_sipush 142 17) (zq 30 (zi_icmp_lt 30 20) g_Reader_readNewDescription_30))))))))
theorem gS_Reader_readNewDescription_4 (hw : z_Wd w) : z_S w zY_Reader_readNewDescription 4 g_Reader_readNewDescription_4 := (zq_S (zs_istore_n (k9 := 3) (by decide +kernel) rfl (by decide)) (zq_S (zs_iload_n (k9 := 3) (by decide +kernel) rfl) (zq_S (zs_iload_n (k9 := 2) (by decide +kernel) rfl) (zq_S (zs_icmp_ge (off := 13) (by decide +kernel) (by decide)) (zq_S (zs_aload_n (k9 := 0) (by decide +kernel) rfl) (zq_S (zs_get hw.1 (by decide +kernel) (zf_Reader_60 hw)) (zq_S (zs_sipush (n := 142) (by decide +kernel) (by decide)) (zq_S (zs_icmp_lt (off := 13) (by decide +kernel) (by decide)) (gS_Reader_readNewDescription_30 hw)))))))))
def g_Reader_readNewDescription_0 : z_T := (zi_aload 0 1)
theorem gS_Reader_readNewDescription_0 (hw : z_Wd w) : z_S w zY_Reader_readNewDescription 0 g_Reader_readNewDescription_0 := (zs_aload_n (k9 := 0) (by decide +kernel) rfl)
def g_Reader_readFieldOf_77 : z_T := (zi_vret)
theorem gS_Reader_readFieldOf_77 (hw : z_Wd w) : z_S w zY_Reader_readFieldOf 77 g_Reader_readFieldOf_77 := (zs_vret (by decide +kernel) rfl)
def g_Reader_readFieldOf_67 : z_T := (zq 68 (zi_aload 0 68) (zq 71 (zi_get 1 3 71) (zq 72 (zi_iload 1 72) (zq 73 (zi_iload 2 73) (zi_iload 3 74)))))
theorem gS_Reader_readFieldOf_67 (hw : z_Wd w) : z_S w zY_Reader_readFieldOf 67 g_Reader_readFieldOf_67 := (zq_S (zs_aload_n (k9 := 0) (by decide +kernel) rfl) (zq_S (zs_get hw.1 (by decide +kernel) (zf_Reader_36 hw)) (zq_S (zs_iload_n (k9 := 1) (by decide +kernel) rfl) (zq_S (zs_iload_n (k9 := 2) (by decide +kernel) rfl) (zs_iload_n (k9 := 3) (by decide +kernel) rfl)))))
def g_Reader_readFieldOf_57 : z_T := (zq 58 (zi_aload 0 58) (zq 59 (zi_aload 0 59) (zq 62 (zi_get 1 9 62) (zq 63 (zi_iconst 1 63) (zi_isub 64)))))
theorem gS_Reader_readFieldOf_57 (hw : z_Wd w) : z_S w zY_Reader_readFieldOf 57 g_Reader_readFieldOf_57 := (zq_S (zs_aload_n (k9 := 0) (by decide +kernel) rfl) (zq_S (zs_aload_n (k9 := 0) (by decide +kernel) rfl) (zq_S (zs_get hw.1 (by decide +kernel) (zf_Reader_57 hw)) (zq_S (zs_iconst (n := 1) (by decide +kernel) (by decide)) (zs_isub (by decide +kernel))))))
def g_Reader_readFieldOf_54 : z_T := (zq 67 (zi_if_ne 67 57) g_Reader_readFieldOf_67)
theorem gS_Reader_readFieldOf_54 (hw : z_Wd w) : z_S w zY_Reader_readFieldOf 54 g_Reader_readFieldOf_54 := (zq_S (zs_if_ne (off := 13) (by decide +kernel) (by decide)) (gS_Reader_readFieldOf_67 hw))
def g_Reader_readFieldOf_40 : z_T := (zq 41 (zi_iconst (-1) 41) (zq 44 (zi_icmp_ne 57 44) (zq 45 (zi_aload 0 45) (zq 48 (zi_get 1 3 48) (zq 49 (zi_iload 1 49) (zq 50 (zi_iload 2 50) (zi_iload 3 51)))))))
theorem gS_Reader_readFieldOf_40 (hw : z_Wd w) : z_S w zY_Reader_readFieldOf 40 g_Reader_readFieldOf_40 := (zq_S (zs_iconst (n := (-1)) (by decide +kernel) (by decide)) (zq_S (zs_icmp_ne (off := 16) (by decide +kernel) (by decide)) (zq_S (zs_aload_n (k9 := 0) (by decide +kernel) rfl) (zq_S (zs_get hw.1 (by decide +kernel) (zf_Reader_36 hw)) (zq_S (zs_iload_n (k9 := 1) (by decide +kernel) rfl) (zq_S (zs_iload_n (k9 := 2) (by decide +kernel) rfl) (zs_iload_n (k9 := 3) (by decide +kernel) rfl)))))))
def g_Reader_readFieldOf_25 : z_T := (zq 26 (zi_istore 3 26) (zq 27 (zi_iload 3 27) (zq 28 (zi_iconst 5 28) (zq 31 (zi_icmp_ge 57 31) (zq 32 (zi_aload 0 32) (zq 35 (zi_get 1 3 35) (zq 36 (zi_iload 1 36) (zi_iload 2 37))))))))
theorem gS_Reader_readFieldOf_25 (hw : z_Wd w) : z_S w zY_Reader_readFieldOf 25 g_Reader_readFieldOf_25 := (zq_S (zs_istore_n (k9 := 3) (by decide +kernel) rfl (by decide)) (zq_S (zs_iload_n (k9 := 3) (by decide +kernel) rfl) (zq_S (zs_iconst (n := 5) (by decide +kernel) (by decide)) (zq_S (zs_icmp_ge (off := 29) (by decide +kernel) (by decide)) (zq_S (zs_aload_n (k9 := 0) (by decide +kernel) rfl) (zq_S (zs_get hw.1 (by decide +kernel) (zf_Reader_36 hw)) (zq_S (zs_iload_n (k9 := 1) (by decide +kernel) rfl) (zs_iload_n (k9 := 2) (by decide +kernel) rfl))))))))
def g_Reader_readFieldOf_21 : z_T := (zi_aload 0 22)
theorem gS_Reader_readFieldOf_21 (hw : z_Wd w) : z_S w zY_Reader_readFieldOf 21 g_Reader_readFieldOf_21 := (zs_aload_n (k9 := 0) (by decide +kernel) rfl)
def g_Reader_readFieldOf_4 : z_T := (zq 5 (zi_istore 2 5) (zq 6 (zi_iload 2 6) (zq 8 (zi_bipush 10 8) (zb 11 21 (zi_icmp_lt 21 11) (zq 12 (zi_aload 0 12) (zq 13 (zi_aload 0 13) (zq 16 (zi_get 1 9 16) (zq 17 (zi_iconst 1 17) (zi_isub 18))))) g_Reader_readFieldOf_21))))
theorem gS_Reader_readFieldOf_4 (hw : z_Wd w) : z_S w zY_Reader_readFieldOf 4 g_Reader_readFieldOf_4 := (zq_S (zs_istore_n (k9 := 2) (by decide +kernel) rfl (by decide)) (zq_S (zs_iload_n (k9 := 2) (by decide +kernel) rfl) (zq_S (zs_bipush (n := 10) (by decide +kernel) (by decide)) (zb_S (zs_icmp_lt (off := 13) (by decide +kernel) (by decide)) (zq_S (zs_aload_n (k9 := 0) (by decide +kernel) rfl) (zq_S (zs_aload_n (k9 := 0) (by decide +kernel) rfl) (zq_S (zs_get hw.1 (by decide +kernel) (zf_Reader_57 hw)) (zq_S (zs_iconst (n := 1) (by decide +kernel) (by decide)) (zs_isub (by decide +kernel)))))) (gS_Reader_readFieldOf_21 hw)))))
def g_Reader_readFieldOf_0 : z_T := (zi_aload 0 1)
theorem gS_Reader_readFieldOf_0 (hw : z_Wd w) : z_S w zY_Reader_readFieldOf 0 g_Reader_readFieldOf_0 := (zs_aload_n (k9 := 0) (by decide +kernel) rfl)
def g_Reader_isStrange_128 : z_T := (zq 129 (zi_iconst 0 129) (zi_zret))
theorem gS_Reader_isStrange_128 (hw : z_Wd w) : z_S w zY_Reader_isStrange 128 g_Reader_isStrange_128 := (zq_S (zs_iconst (n := 0) (by decide +kernel) (by decide)) (zs_zret (by decide +kernel) rfl))
def g_Reader_isStrange_122 : z_T := (zq 125 (zi_iinc 3 1 125) (zi_goto 54))
theorem gS_Reader_isStrange_122 (hw : z_Wd w) : z_S w zY_Reader_isStrange 122 g_Reader_isStrange_122 := (zq_S (zs_iinc (n := 1) (by decide +kernel) (by decide) (by decide)) (zs_goto (off := -71) (by decide +kernel) (by decide)))
def g_Reader_isStrange_117 : z_T := (zb 120 122 (zi_icmp_eq 122 120) (zq 121 (zi_iconst 1 121) (zi_zret)) g_Reader_isStrange_122)
theorem gS_Reader_isStrange_117 (hw : z_Wd w) : z_S w zY_Reader_isStrange 117 g_Reader_isStrange_117 := (zb_S (zs_icmp_eq (off := 5) (by decide +kernel) (by decide)) (zq_S (zs_iconst (n := 1) (by decide +kernel) (by decide)) (zs_zret (by decide +kernel) rfl)) (gS_Reader_isStrange_122 hw))
def g_Reader_isStrange_108 : z_T := (zq 109 (zi_aload 0 109) (zq 112 (zi_get 1 3 112) (zq 113 (zi_iload 1 113) (zi_iload 3 114))))
theorem gS_Reader_isStrange_108 (hw : z_Wd w) : z_S w zY_Reader_isStrange 108 g_Reader_isStrange_108 := (zq_S (zs_aload_n (k9 := 0) (by decide +kernel) rfl) (zq_S (zs_get hw.1 (by decide +kernel) (zf_Reader_36 hw)) (zq_S (zs_iload_n (k9 := 1) (by decide +kernel) rfl) (zs_iload_n (k9 := 3) (by decide +kernel) rfl))))
def g_Reader_isStrange_87 : z_T := (zq 89 (zi_istore 4 89) (zq 91 (zi_iload 4 91) (zq 92 (zi_iconst (-1) 92) (zb 95 122 (zi_icmp_eq 122 95) (zq 96 (zi_aload 0 96) (zq 99 (zi_get 1 1 99) (zq 102 (zi_get 3 0 102) (zq 103 (zi_iload 2 103) (zi_iload 4 105))))) g_Reader_isStrange_122))))
theorem gS_Reader_isStrange_87 (hw : z_Wd w) : z_S w zY_Reader_isStrange 87 g_Reader_isStrange_87 := (zq_S (zs_istore (by decide +kernel) (by decide)) (zq_S (zs_iload (by decide +kernel)) (zq_S (zs_iconst (n := (-1)) (by decide +kernel) (by decide)) (zb_S (zs_icmp_eq (off := 30) (by decide +kernel) (by decide)) (zq_S (zs_aload_n (k9 := 0) (by decide +kernel) rfl) (zq_S (zs_get hw.1 (by decide +kernel) (zf_Reader_15 hw)) (zq_S (zs_get hw.1 (by decide +kernel) (zf_Reader_130 hw)) (zq_S (zs_iload_n (k9 := 2) (by decide +kernel) rfl) (zs_iload (by decide +kernel)))))) (gS_Reader_isStrange_122 hw)))))
def g_Reader_isStrange_54 : z_T := (zq 55 (zi_iload 3 55) (zq 56 (zi_aload 0 56) (zq 59 (zi_get 1 3 59) (zq 62 (zi_get 2 4 62) (zq 63 (zi_iload 1 63) (zq 64 (zi_iald 64) (zb 67 128 (zi_icmp_ge 128 67) (zq 68 (zi_aload 0 68) (zq 71 (zi_get 1 1 71) (zq 74 (zi_get 3 0 74) (zq 75 (zi_iload 2 75) (zq 76 (zi_aload 0 76) (zq 79 (zi_get 1 3 79) (zq 80 (zi_iload 1 80) (zi_iload 3 81)))))))) g_Reader_isStrange_128)))))))
theorem gS_Reader_isStrange_54 (hw : z_Wd w) : z_S w zY_Reader_isStrange 54 g_Reader_isStrange_54 := (zq_S (zs_iload_n (k9 := 3) (by decide +kernel) rfl) (zq_S (zs_aload_n (k9 := 0) (by decide +kernel) rfl) (zq_S (zs_get hw.1 (by decide +kernel) (zf_Reader_36 hw)) (zq_S (zs_get hw.1 (by decide +kernel) (zf_Reader_155 hw)) (zq_S (zs_iload_n (k9 := 1) (by decide +kernel) rfl) (zq_S (zs_iald hw.1 (by decide +kernel)) (zb_S (zs_icmp_ge (off := 64) (by decide +kernel) (by decide)) (zq_S (zs_aload_n (k9 := 0) (by decide +kernel) rfl) (zq_S (zs_get hw.1 (by decide +kernel) (zf_Reader_15 hw)) (zq_S (zs_get hw.1 (by decide +kernel) (zf_Reader_130 hw)) (zq_S (zs_iload_n (k9 := 2) (by decide +kernel) rfl) (zq_S (zs_aload_n (k9 := 0) (by decide +kernel) rfl) (zq_S (zs_get hw.1 (by decide +kernel) (zf_Reader_36 hw)) (zq_S (zs_iload_n (k9 := 1) (by decide +kernel) rfl) (zs_iload_n (k9 := 3) (by decide +kernel) rfl)))))))) (gS_Reader_isStrange_128 hw))))))))
def g_Reader_isStrange_52 : z_T := (zq 53 (zi_iconst 0 53) (zi_istore 3 54))
theorem gS_Reader_isStrange_52 (hw : z_Wd w) : z_S w zY_Reader_isStrange 52 g_Reader_isStrange_52 := (zq_S (zs_iconst (n := 0) (by decide +kernel) (by decide)) (zs_istore_n (k9 := 3) (by decide +kernel) rfl (by decide)))
def g_Reader_isStrange_26 : z_T := (zq 27 (zi_aload 0 27) (zq 30 (zi_get 1 1 30) (zq 33 (zi_get 3 0 33) (zq 36 (zi_get 2 3 36) (zq 37 (zi_iload 2 37) (zq 38 (zi_iald 38) (zq 39 (zi_aload 0 39) (zq 42 (zi_get 1 3 42) (zq 45 (zi_get 2 3 45) (zq 46 (zi_iload 1 46) (zq 47 (zi_iald 47) (zb 50 52 (zi_icmp_eq 52 50) (zq 51 (zi_iconst 1 51) (zi_zret)) g_Reader_isStrange_52))))))))))))
theorem gS_Reader_isStrange_26 (hw : z_Wd w) : z_S w zY_Reader_isStrange 26 g_Reader_isStrange_26 := (zq_S (zs_aload_n (k9 := 0) (by decide +kernel) rfl) (zq_S (zs_get hw.1 (by decide +kernel) (zf_Reader_15 hw)) (zq_S (zs_get hw.1 (by decide +kernel) (zf_Reader_130 hw)) (zq_S (zs_get hw.1 (by decide +kernel) (zf_Reader_204 hw)) (zq_S (zs_iload_n (k9 := 2) (by decide +kernel) rfl) (zq_S (zs_iald hw.1 (by decide +kernel)) (zq_S (zs_aload_n (k9 := 0) (by decide +kernel) rfl) (zq_S (zs_get hw.1 (by decide +kernel) (zf_Reader_36 hw)) (zq_S (zs_get hw.1 (by decide +kernel) (zf_Reader_204 hw)) (zq_S (zs_iload_n (k9 := 1) (by decide +kernel) rfl) (zq_S (zs_iald hw.1 (by decide +kernel)) (zb_S (zs_icmp_eq (off := 5) (by decide +kernel) (by decide)) (zq_S (zs_iconst (n := 1) (by decide +kernel) (by decide)) (zs_zret (by decide +kernel) rfl)) (gS_Reader_isStrange_52 hw)))))))))))))
def g_Reader_isStrange_21 : z_T := (zb 24 26 (zi_if_ne 26 24) (zq 25 (zi_iconst 0 25) (zi_zret)) g_Reader_isStrange_26)
theorem gS_Reader_isStrange_21 (hw : z_Wd w) : z_S w zY_Reader_isStrange 21 g_Reader_isStrange_21 := (zb_S (zs_if_ne (off := 5) (by decide +kernel) (by decide)) (zq_S (zs_iconst (n := 0) (by decide +kernel) (by decide)) (zs_zret (by decide +kernel) rfl)) (gS_Reader_isStrange_26 hw))
def g_Reader_isStrange_0 : z_T := (zq 1 (zi_aload 0 1) (zq 4 (zi_get 1 3 4) (zq 7 (zi_get 2 1 7) (zq 8 (zi_iload 1 8) (zq 9 (zi_iald 9) (zq 10 (zi_istore 2 10) (zq 11 (zi_aload 0 11) (zq 14 (zi_get 1 1 14) (zq 17 (zi_get 3 0 17) (zi_iload 2 18))))))))))
theorem gS_Reader_isStrange_0 (hw : z_Wd w) : z_S w zY_Reader_isStrange 0 g_Reader_isStrange_0 := (zq_S (zs_aload_n (k9 := 0) (by decide +kernel) rfl) (zq_S (zs_get hw.1 (by decide +kernel) (zf_Reader_36 hw)) (zq_S (zs_get hw.1 (by decide +kernel) (zf_Reader_127 hw)) (zq_S (zs_iload_n (k9 := 1) (by decide +kernel) rfl) (zq_S (zs_iald hw.1 (by decide +kernel)) (zq_S (zs_istore_n (k9 := 2) (by decide +kernel) rfl (by decide)) (zq_S (zs_aload_n (k9 := 0) (by decide +kernel) rfl) (zq_S (zs_get hw.1 (by decide +kernel) (zf_Reader_15 hw)) (zq_S (zs_get hw.1 (by decide +kernel) (zf_Reader_130 hw)) (zs_iload_n (k9 := 2) (by decide +kernel) rfl))))))))))
def g_Reader_giveHandle_0 : z_T := (zq 1 (zi_aload 0 1) (zq 4 (zi_get 1 4 4) (zq 5 (zi_aload 0 5) (zq 8 (zi_get 1 8 8) (zq 9 (zi_iload 1 9) (zq 10 (zi_iast 10) (zq 11 (zi_aload 0 11) (zq 14 (zi_get 1 5 14) (zq 15 (zi_aload 0 15) (zq 18 (zi_get 1 8 18) (zq 19 (zi_iload 2 19) (zq 20 (zi_iast 20) (zq 21 (zi_aload 0 21) (zq 22 (zi_dup 22) (zq 25 (zi_get 1 8 25) (zq 26 (zi_iconst 1 26) (zq 27 (zi_iadd 27) (zq 30 (zi_put 1 8 (.int) 30) (zi_vret)))))))))))))))))))
theorem gS_Reader_giveHandle_0 (hw : z_Wd w) : z_S w zY_Reader_giveHandle 0 g_Reader_giveHandle_0 := (zq_S (zs_aload_n (k9 := 0) (by decide +kernel) rfl) (zq_S (zs_get hw.1 (by decide +kernel) (zf_Reader_40 hw)) (zq_S (zs_aload_n (k9 := 0) (by decide +kernel) rfl) (zq_S (zs_get hw.1 (by decide +kernel) (zf_Reader_63 hw)) (zq_S (zs_iload_n (k9 := 1) (by decide +kernel) rfl) (zq_S (zs_iast hw.1 (by decide +kernel)) (zq_S (zs_aload_n (k9 := 0) (by decide +kernel) rfl) (zq_S (zs_get hw.1 (by decide +kernel) (zf_Reader_43 hw)) (zq_S (zs_aload_n (k9 := 0) (by decide +kernel) rfl) (zq_S (zs_get hw.1 (by decide +kernel) (zf_Reader_63 hw)) (zq_S (zs_iload_n (k9 := 2) (by decide +kernel) rfl) (zq_S (zs_iast hw.1 (by decide +kernel)) (zq_S (zs_aload_n (k9 := 0) (by decide +kernel) rfl) (zq_S (zs_dup (by decide +kernel)) (zq_S (zs_get hw.1 (by decide +kernel) (zf_Reader_63 hw)) (zq_S (zs_iconst (n := 1) (by decide +kernel) (by decide)) (zq_S (zs_iadd (by decide +kernel)) (zq_S (zs_put hw.1 (by decide +kernel) (zp_Reader_63 hw) (fun h => by cases h)) (zs_vret (by decide +kernel) rfl)))))))))))))))))))
def g_Reader_readNumber_28 : z_T := (zq 29 (zi_lload 2 29) (zi_lret))
theorem gS_Reader_readNumber_28 (hw : z_Wd w) : z_S w zY_Reader_readNumber 28 g_Reader_readNumber_28 := (zq_S (zs_lload_n (k9 := 2) (by decide +kernel) rfl) (zs_lret (by decide +kernel) rfl))
def g_Reader_readNumber_19 : z_T := (zq 20 (zi_i2l 20) (zq 21 (zi_lor 21) (zq 22 (zi_lstore 2 22) (zq 25 (zi_iinc 4 1 25) (zi_goto 5)))))
theorem gS_Reader_readNumber_19 (hw : z_Wd w) : z_S w zY_Reader_readNumber 19 g_Reader_readNumber_19 := (zq_S (zs_i2l (by decide +kernel)) (zq_S (zs_lor (by decide +kernel)) (zq_S (zs_lstore_n (k9 := 2) (by decide +kernel) rfl (by decide)) (zq_S (zs_iinc (n := 1) (by decide +kernel) (by decide) (by decide)) (zs_goto (off := -20) (by decide +kernel) (by decide))))))
def g_Reader_readNumber_5 : z_T := (zq 7 (zi_iload 4 7) (zq 8 (zi_iload 1 8) (zb 11 28 (zi_icmp_ge 28 11) (zq 12 (zi_lload 2 12) (zq 14 (zi_bipush 8 14) (zq 15 (zi_lshl 15) (zi_aload 0 16)))) g_Reader_readNumber_28)))
theorem gS_Reader_readNumber_5 (hw : z_Wd w) : z_S w zY_Reader_readNumber 5 g_Reader_readNumber_5 := (zq_S (zs_iload (by decide +kernel)) (zq_S (zs_iload_n (k9 := 1) (by decide +kernel) rfl) (zb_S (zs_icmp_ge (off := 20) (by decide +kernel) (by decide)) (zq_S (zs_lload_n (k9 := 2) (by decide +kernel) rfl) (zq_S (zs_bipush (n := 8) (by decide +kernel) (by decide)) (zq_S (zs_lshl (by decide +kernel)) (zs_aload_n (k9 := 0) (by decide +kernel) rfl)))) (gS_Reader_readNumber_28 hw))))
def g_Reader_readNumber_0 : z_T := (zq 1 (zi_lconst 0 1) (zq 2 (zi_lstore 2 2) (zq 3 (zi_iconst 0 3) (zi_istore 4 5))))
theorem gS_Reader_readNumber_0 (hw : z_Wd w) : z_S w zY_Reader_readNumber 0 g_Reader_readNumber_0 := (zq_S (zs_lconst (n := 0) (by decide +kernel) (by decide)) (zq_S (zs_lstore_n (k9 := 2) (by decide +kernel) rfl (by decide)) (zq_S (zs_iconst (n := 0) (by decide +kernel) (by decide)) (zs_istore (by decide +kernel) (by decide)))))
def g_Reader_nextByte_25 : z_T := (zq 26 (zi_aload 0 26) (zq 27 (zi_dup 27) (zq 30 (zi_get 1 9 30) (zq 31 (zi_iconst 1 31) (zq 32 (zi_iadd 32) (zq 35 (zi_put 1 9 (.int) 35) (zq 36 (zi_aload 0 36) (zq 39 (zi_get 1 0 39) (zq 42 (zi_get 0 0 42) (zq 43 (zi_aload 0 43) (zq 46 (zi_get 1 9 46) (zq 47 (zi_iconst 1 47) (zq 48 (zi_isub 48) (zq 49 (zi_iald 49) (zi_iret)))))))))))))))
theorem gS_Reader_nextByte_25 (hw : z_Wd w) : z_S w zY_Reader_nextByte 25 g_Reader_nextByte_25 := (zq_S (zs_aload_n (k9 := 0) (by decide +kernel) rfl) (zq_S (zs_dup (by decide +kernel)) (zq_S (zs_get hw.1 (by decide +kernel) (zf_Reader_57 hw)) (zq_S (zs_iconst (n := 1) (by decide +kernel) (by decide)) (zq_S (zs_iadd (by decide +kernel)) (zq_S (zs_put hw.1 (by decide +kernel) (zp_Reader_57 hw) (fun h => by cases h)) (zq_S (zs_aload_n (k9 := 0) (by decide +kernel) rfl) (zq_S (zs_get hw.1 (by decide +kernel) (zf_Reader_9 hw)) (zq_S (zs_get hw.1 (by decide +kernel) (zf_Reader_207 hw)) (zq_S (zs_aload_n (k9 := 0) (by decide +kernel) rfl) (zq_S (zs_get hw.1 (by decide +kernel) (zf_Reader_57 hw)) (zq_S (zs_iconst (n := 1) (by decide +kernel) (by decide)) (zq_S (zs_isub (by decide +kernel)) (zq_S (zs_iald hw.1 (by decide +kernel)) (zs_iret (by decide +kernel) rfl)))))))))))))))
def g_Reader_nextByte_0 : z_T := (zq 1 (zi_aload 0 1) (zq 4 (zi_get 1 9 4) (zq 5 (zi_aload 0 5) (zq 8 (zi_get 1 0 8) (zq 11 (zi_get 0 1 11) (zb 14 25 (zi_icmp_lt 25 14) (zq 15 (zi_aload 0 15) (zq 16 (zi_aload 0 16) (zq 19 (zi_get 1 0 19) (zi_get 0 1 22)))) g_Reader_nextByte_25))))))
theorem gS_Reader_nextByte_0 (hw : z_Wd w) : z_S w zY_Reader_nextByte 0 g_Reader_nextByte_0 := (zq_S (zs_aload_n (k9 := 0) (by decide +kernel) rfl) (zq_S (zs_get hw.1 (by decide +kernel) (zf_Reader_57 hw)) (zq_S (zs_aload_n (k9 := 0) (by decide +kernel) rfl) (zq_S (zs_get hw.1 (by decide +kernel) (zf_Reader_9 hw)) (zq_S (zs_get hw.1 (by decide +kernel) (zf_Reader_69 hw)) (zb_S (zs_icmp_lt (off := 14) (by decide +kernel) (by decide)) (zq_S (zs_aload_n (k9 := 0) (by decide +kernel) rfl) (zq_S (zs_aload_n (k9 := 0) (by decide +kernel) rfl) (zq_S (zs_get hw.1 (by decide +kernel) (zf_Reader_9 hw)) (zs_get hw.1 (by decide +kernel) (zf_Reader_69 hw))))) (gS_Reader_nextByte_25 hw)))))))
def g_Reader_wrong_8 : z_T := (zi_dup 9)
theorem gS_Reader_wrong_8 (hw : z_Wd w) : z_S w zY_Reader_wrong 8 g_Reader_wrong_8 := (zs_dup (by decide +kernel))
def g_Reader_wrong_0 : z_T := (zq 1 (zi_aload 0 1) (zq 2 (zi_iload 1 2) (zi_put 1 10 (.int) 5)))
theorem gS_Reader_wrong_0 (hw : z_Wd w) : z_S w zY_Reader_wrong 0 g_Reader_wrong_0 := (zq_S (zs_aload_n (k9 := 0) (by decide +kernel) rfl) (zq_S (zs_iload_n (k9 := 1) (by decide +kernel) rfl) (zs_put hw.1 (by decide +kernel) (zp_Reader_53 hw) (fun h => by cases h))))
def g_Reader_strange_8 : z_T := (zi_dup 9)
theorem gS_Reader_strange_8 (hw : z_Wd w) : z_S w zY_Reader_strange 8 g_Reader_strange_8 := (zs_dup (by decide +kernel))
def g_Reader_strange_0 : z_T := (zq 1 (zi_aload 0 1) (zq 2 (zi_iload 1 2) (zi_put 1 10 (.int) 5)))
theorem gS_Reader_strange_0 (hw : z_Wd w) : z_S w zY_Reader_strange 0 g_Reader_strange_0 := (zq_S (zs_aload_n (k9 := 0) (by decide +kernel) rfl) (zq_S (zs_iload_n (k9 := 1) (by decide +kernel) rfl) (zs_put hw.1 (by decide +kernel) (zp_Reader_53 hw) (fun h => by cases h))))
def g_Reader_filtered_8 : z_T := (zi_dup 9)
theorem gS_Reader_filtered_8 (hw : z_Wd w) : z_S w zY_Reader_filtered 8 g_Reader_filtered_8 := (zs_dup (by decide +kernel))
def g_Reader_filtered_0 : z_T := (zq 1 (zi_aload 0 1) (zq 2 (zi_iload 1 2) (zi_put 1 10 (.int) 5)))
theorem gS_Reader_filtered_0 (hw : z_Wd w) : z_S w zY_Reader_filtered 0 g_Reader_filtered_0 := (zq_S (zs_aload_n (k9 := 0) (by decide +kernel) rfl) (zq_S (zs_iload_n (k9 := 1) (by decide +kernel) rfl) (zs_put hw.1 (by decide +kernel) (zp_Reader_53 hw) (fun h => by cases h))))
end ZG
end
section
section ZG
variable {w : z_W}
def g_TS_init_76 : z_T := (zq 79 (zi_put 6 4 (.object "ThingStream$Reader") 79) (zi_vret))
theorem gS_TS_init_76 (hw : z_Wd w) : z_S w zY_TS_init 76 g_TS_init_76 := (zq_S (zs_put hw.1 (by decide +kernel) (zp_TS_40 hw) (fun _ => rfl)) (zs_vret (by decide +kernel) rfl))
def g_TS_init_57 : z_T := (zq 60 (zi_put 6 3 (.object "ThingStream$Writer") 60) (zq 61 (zi_aload 0 61) (zq 64 (zi_new 1 11 [.null, .null, .null, .null, .null, .null, .null, .int 0, .int 0, .int 0, .int 0] 64) (zq 65 (zi_dup 65) (zq 66 (zi_aload 0 66) (zq 69 (zi_get 6 2 69) (zq 70 (zi_aload 0 70) (zi_get 6 1 73))))))))
theorem gS_TS_init_57 (hw : z_Wd w) : z_S w zY_TS_init 57 g_TS_init_57 := (zq_S (zs_put hw.1 (by decide +kernel) (zp_TS_33 hw) (fun _ => rfl)) (zq_S (zs_aload_n (k9 := 0) (by decide +kernel) rfl) (zq_S (zs_new hw.1 (by decide +kernel) (zN_TS_37 hw)) (zq_S (zs_dup (by decide +kernel)) (zq_S (zs_aload_n (k9 := 0) (by decide +kernel) rfl) (zq_S (zs_get hw.1 (by decide +kernel) (zf_TS_24 hw)) (zq_S (zs_aload_n (k9 := 0) (by decide +kernel) rfl) (zs_get hw.1 (by decide +kernel) (zf_TS_18 hw)))))))))
def g_TS_init_38 : z_T := (zq 41 (zi_put 6 2 (.object "ThingStream$Bytes") 41) (zq 42 (zi_aload 0 42) (zq 45 (zi_new 5 5 [.null, .null, .null, .null, .int 0] 45) (zq 46 (zi_dup 46) (zq 47 (zi_aload 0 47) (zq 50 (zi_get 6 2 50) (zq 51 (zi_aload 0 51) (zi_get 6 0 54))))))))
theorem gS_TS_init_38 (hw : z_Wd w) : z_S w zY_TS_init 38 g_TS_init_38 := (zq_S (zs_put hw.1 (by decide +kernel) (zp_TS_24 hw) (fun _ => rfl)) (zq_S (zs_aload_n (k9 := 0) (by decide +kernel) rfl) (zq_S (zs_new hw.1 (by decide +kernel) (zN_TS_28 hw)) (zq_S (zs_dup (by decide +kernel)) (zq_S (zs_aload_n (k9 := 0) (by decide +kernel) rfl) (zq_S (zs_get hw.1 (by decide +kernel) (zf_TS_24 hw)) (zq_S (zs_aload_n (k9 := 0) (by decide +kernel) rfl) (zs_get hw.1 (by decide +kernel) (zf_TS_14 hw)))))))))
def g_TS_init_27 : z_T := (zq 30 (zi_put 6 1 (.object "ThingStream$Side") 30) (zq 31 (zi_aload 0 31) (zq 34 (zi_new 0 3 [.null, .int 0, .int 0] 34) (zi_dup 35))))
theorem gS_TS_init_27 (hw : z_Wd w) : z_S w zY_TS_init 27 g_TS_init_27 := (zq_S (zs_put hw.1 (by decide +kernel) (zp_TS_18 hw) (fun _ => rfl)) (zq_S (zs_aload_n (k9 := 0) (by decide +kernel) rfl) (zq_S (zs_new hw.1 (by decide +kernel) (zN_TS_21 hw)) (zs_dup (by decide +kernel)))))
def g_TS_init_14 : z_T := (zq 17 (zi_put 6 0 (.object "ThingStream$Side") 17) (zq 18 (zi_aload 0 18) (zq 21 (zi_new 3 2 [.null, .null] 21) (zq 22 (zi_dup 22) (zi_bipush 40 24)))))
theorem gS_TS_init_14 (hw : z_Wd w) : z_S w zY_TS_init 14 g_TS_init_14 := (zq_S (zs_put hw.1 (by decide +kernel) (zp_TS_14 hw) (fun _ => rfl)) (zq_S (zs_aload_n (k9 := 0) (by decide +kernel) rfl) (zq_S (zs_new hw.1 (by decide +kernel) (zN_TS_9 hw)) (zq_S (zs_dup (by decide +kernel)) (zs_bipush (n := 40) (by decide +kernel) (by decide))))))
def g_TS_init_4 : z_T := (zq 5 (zi_aload 0 5) (zq 8 (zi_new 3 2 [.null, .null] 8) (zq 9 (zi_dup 9) (zi_bipush 24 11))))
theorem gS_TS_init_4 (hw : z_Wd w) : z_S w zY_TS_init 4 g_TS_init_4 := (zq_S (zs_aload_n (k9 := 0) (by decide +kernel) rfl) (zq_S (zs_new hw.1 (by decide +kernel) (zN_TS_9 hw)) (zq_S (zs_dup (by decide +kernel)) (zs_bipush (n := 24) (by decide +kernel) (by decide)))))
def g_TS_init_0 : z_T := (zi_aload 0 1)
theorem gS_TS_init_0 (hw : z_Wd w) : z_S w zY_TS_init 0 g_TS_init_0 := (zs_aload_n (k9 := 0) (by decide +kernel) rfl)
def g_TS_shape_55 : z_T := (zq 56 (zi_iconst 1 56) (zi_zret))
theorem gS_TS_shape_55 (hw : z_Wd w) : z_S w zY_TS_shape 55 g_TS_shape_55 := (zq_S (zs_iconst (n := 1) (by decide +kernel) (by decide)) (zs_zret (by decide +kernel) rfl))
def g_TS_shape_47 : z_T := (zq 49 (zi_aload 5 49) (zi_get 3 1 52))
theorem gS_TS_shape_47 (hw : z_Wd w) : z_S w zY_TS_shape 47 g_TS_shape_47 := (zq_S (zs_aload (by decide +kernel)) (zs_get hw.1 (by decide +kernel) (zf_TS_58 hw)))
def g_TS_shape_34 : z_T := (zq 36 (zi_aload 5 36) (zq 39 (zi_get 3 0 39) (zq 40 (zi_iload 2 40) (zq 41 (zi_iload 2 41) (zq 42 (zi_iload 3 42) (zi_iload 4 44))))))
theorem gS_TS_shape_34 (hw : z_Wd w) : z_S w zY_TS_shape 34 g_TS_shape_34 := (zq_S (zs_aload (by decide +kernel)) (zq_S (zs_get hw.1 (by decide +kernel) (zf_TS_48 hw)) (zq_S (zs_iload_n (k9 := 2) (by decide +kernel) rfl) (zq_S (zs_iload_n (k9 := 2) (by decide +kernel) rfl) (zq_S (zs_iload_n (k9 := 3) (by decide +kernel) rfl) (zs_iload (by decide +kernel)))))))
def g_TS_shape_32 : z_T := (zq 33 (zi_iconst 0 33) (zi_zret))
theorem gS_TS_shape_32 (hw : z_Wd w) : z_S w zY_TS_shape 32 g_TS_shape_32 := (zq_S (zs_iconst (n := 0) (by decide +kernel) (by decide)) (zs_zret (by decide +kernel) rfl))
def g_TS_shape_5 : z_T := (zq 7 (zi_astore 5 7) (zq 9 (zi_aload 5 9) (zb 12 32 (zi_ifnull 32 12) (zq 13 (zi_iload 2 13) (zb 16 32 (zi_if_lt 32 16) (zq 17 (zi_iload 2 17) (zq 19 (zi_bipush 6 19) (zb 22 32 (zi_icmp_ge 32 22) (zq 23 (zi_iload 3 23) (zq 24 (zi_iconst (-1) 24) (zb 27 32 (zi_icmp_lt 32 27) (zq 28 (zi_iload 3 28) (zq 29 (zi_iload 2 29) (zb 32 34 (zi_icmp_lt 34 32) g_TS_shape_32 g_TS_shape_34))) g_TS_shape_32))) g_TS_shape_32))) g_TS_shape_32)) g_TS_shape_32)))
theorem gS_TS_shape_5 (hw : z_Wd w) : z_S w zY_TS_shape 5 g_TS_shape_5 := (zq_S (zs_astore (by decide +kernel) (by decide)) (zq_S (zs_aload (by decide +kernel)) (zb_S (zs_ifnull (off := 23) (by decide +kernel) (by decide)) (zq_S (zs_iload_n (k9 := 2) (by decide +kernel) rfl) (zb_S (zs_if_lt (off := 19) (by decide +kernel) (by decide)) (zq_S (zs_iload_n (k9 := 2) (by decide +kernel) rfl) (zq_S (zs_bipush (n := 6) (by decide +kernel) (by decide)) (zb_S (zs_icmp_ge (off := 13) (by decide +kernel) (by decide)) (zq_S (zs_iload_n (k9 := 3) (by decide +kernel) rfl) (zq_S (zs_iconst (n := (-1)) (by decide +kernel) (by decide)) (zb_S (zs_icmp_lt (off := 8) (by decide +kernel) (by decide)) (zq_S (zs_iload_n (k9 := 3) (by decide +kernel) rfl) (zq_S (zs_iload_n (k9 := 2) (by decide +kernel) rfl) (zb_S (zs_icmp_lt (off := 5) (by decide +kernel) (by decide)) (gS_TS_shape_32 hw) (gS_TS_shape_34 hw)))) (gS_TS_shape_32 hw)))) (gS_TS_shape_32 hw)))) (gS_TS_shape_32 hw))) (gS_TS_shape_32 hw))))
def g_TS_shape_0 : z_T := (zq 1 (zi_aload 0 1) (zi_iload 1 2))
theorem gS_TS_shape_0 (hw : z_Wd w) : z_S w zY_TS_shape 0 g_TS_shape_0 := (zq_S (zs_aload_n (k9 := 0) (by decide +kernel) rfl) (zs_iload_n (k9 := 1) (by decide +kernel) rfl))
def g_TS_field_49 : z_T := (zq 50 (zi_iconst 1 50) (zi_zret))
theorem gS_TS_field_49 (hw : z_Wd w) : z_S w zY_TS_field 49 g_TS_field_49 := (zq_S (zs_iconst (n := 1) (by decide +kernel) (by decide)) (zs_zret (by decide +kernel) rfl))
def g_TS_field_41 : z_T := (zq 43 (zi_aload 5 43) (zi_get 3 1 46))
theorem gS_TS_field_41 (hw : z_Wd w) : z_S w zY_TS_field 41 g_TS_field_41 := (zq_S (zs_aload (by decide +kernel)) (zs_get hw.1 (by decide +kernel) (zf_TS_58 hw)))
def g_TS_field_29 : z_T := (zq 31 (zi_aload 5 31) (zq 34 (zi_get 3 0 34) (zq 35 (zi_iload 2 35) (zq 36 (zi_iload 3 36) (zi_iload 4 38)))))
theorem gS_TS_field_29 (hw : z_Wd w) : z_S w zY_TS_field 29 g_TS_field_29 := (zq_S (zs_aload (by decide +kernel)) (zq_S (zs_get hw.1 (by decide +kernel) (zf_TS_48 hw)) (zq_S (zs_iload_n (k9 := 2) (by decide +kernel) rfl) (zq_S (zs_iload_n (k9 := 3) (by decide +kernel) rfl) (zs_iload (by decide +kernel))))))
def g_TS_field_27 : z_T := (zq 28 (zi_iconst 0 28) (zi_zret))
theorem gS_TS_field_27 (hw : z_Wd w) : z_S w zY_TS_field 27 g_TS_field_27 := (zq_S (zs_iconst (n := 0) (by decide +kernel) (by decide)) (zs_zret (by decide +kernel) rfl))
def g_TS_field_24 : z_T := (zb 27 29 (zi_if_ne 29 27) g_TS_field_27 g_TS_field_29)
theorem gS_TS_field_24 (hw : z_Wd w) : z_S w zY_TS_field 24 g_TS_field_24 := (zb_S (zs_if_ne (off := 5) (by decide +kernel) (by decide)) (gS_TS_field_27 hw) (gS_TS_field_29 hw))
def g_TS_field_5 : z_T := (zq 7 (zi_astore 5 7) (zq 9 (zi_aload 5 9) (zb 12 27 (zi_ifnull 27 12) (zq 14 (zi_aload 5 14) (zq 17 (zi_get 3 0 17) (zq 18 (zi_iload 2 18) (zq 19 (zi_iload 3 19) (zi_iload 4 21))))) g_TS_field_27)))
theorem gS_TS_field_5 (hw : z_Wd w) : z_S w zY_TS_field 5 g_TS_field_5 := (zq_S (zs_astore (by decide +kernel) (by decide)) (zq_S (zs_aload (by decide +kernel)) (zb_S (zs_ifnull (off := 18) (by decide +kernel) (by decide)) (zq_S (zs_aload (by decide +kernel)) (zq_S (zs_get hw.1 (by decide +kernel) (zf_TS_48 hw)) (zq_S (zs_iload_n (k9 := 2) (by decide +kernel) rfl) (zq_S (zs_iload_n (k9 := 3) (by decide +kernel) rfl) (zs_iload (by decide +kernel)))))) (gS_TS_field_27 hw))))
def g_TS_field_0 : z_T := (zq 1 (zi_aload 0 1) (zi_iload 1 2))
theorem gS_TS_field_0 (hw : z_Wd w) : z_S w zY_TS_field 0 g_TS_field_0 := (zq_S (zs_aload_n (k9 := 0) (by decide +kernel) rfl) (zs_iload_n (k9 := 1) (by decide +kernel) rfl))
def g_TS_build_47 : z_T := (zi_iret)
theorem gS_TS_build_47 (hw : z_Wd w) : z_S w zY_TS_build 47 g_TS_build_47 := (zs_iret (by decide +kernel) rfl)
def g_TS_build_29 : z_T := (zq 30 (zi_aload 0 30) (zq 33 (zi_get 6 0 33) (zq 36 (zi_get 3 1 36) (zq 37 (zi_iload 1 37) (zq 38 (zi_aload 0 38) (zq 41 (zi_get 6 0 41) (zi_get 3 0 44)))))))
theorem gS_TS_build_29 (hw : z_Wd w) : z_S w zY_TS_build 29 g_TS_build_29 := (zq_S (zs_aload_n (k9 := 0) (by decide +kernel) rfl) (zq_S (zs_get hw.1 (by decide +kernel) (zf_TS_14 hw)) (zq_S (zs_get hw.1 (by decide +kernel) (zf_TS_58 hw)) (zq_S (zs_iload_n (k9 := 1) (by decide +kernel) rfl) (zq_S (zs_aload_n (k9 := 0) (by decide +kernel) rfl) (zq_S (zs_get hw.1 (by decide +kernel) (zf_TS_14 hw)) (zs_get hw.1 (by decide +kernel) (zf_TS_48 hw))))))))
def g_TS_build_27 : z_T := (zq 28 (zi_iconst (-1) 28) (zi_iret))
theorem gS_TS_build_27 (hw : z_Wd w) : z_S w zY_TS_build 27 g_TS_build_27 := (zq_S (zs_iconst (n := (-1)) (by decide +kernel) (by decide)) (zs_iret (by decide +kernel) rfl))
def g_TS_build_24 : z_T := (zb 27 29 (zi_if_eq 29 27) g_TS_build_27 g_TS_build_29)
theorem gS_TS_build_24 (hw : z_Wd w) : z_S w zY_TS_build 24 g_TS_build_24 := (zb_S (zs_if_eq (off := 5) (by decide +kernel) (by decide)) (gS_TS_build_27 hw) (gS_TS_build_29 hw))
def g_TS_build_11 : z_T := (zb 14 27 (zi_if_eq 27 14) (zq 15 (zi_aload 0 15) (zq 18 (zi_get 6 0 18) (zi_get 3 1 21))) g_TS_build_27)
theorem gS_TS_build_11 (hw : z_Wd w) : z_S w zY_TS_build 11 g_TS_build_11 := (zb_S (zs_if_eq (off := 16) (by decide +kernel) (by decide)) (zq_S (zs_aload_n (k9 := 0) (by decide +kernel) rfl) (zq_S (zs_get hw.1 (by decide +kernel) (zf_TS_14 hw)) (zs_get hw.1 (by decide +kernel) (zf_TS_58 hw)))) (gS_TS_build_27 hw))
def g_TS_build_0 : z_T := (zq 1 (zi_aload 0 1) (zq 4 (zi_get 6 0 4) (zq 7 (zi_get 3 0 7) (zi_iload 1 8))))
theorem gS_TS_build_0 (hw : z_Wd w) : z_S w zY_TS_build 0 g_TS_build_0 := (zq_S (zs_aload_n (k9 := 0) (by decide +kernel) rfl) (zq_S (zs_get hw.1 (by decide +kernel) (zf_TS_14 hw)) (zq_S (zs_get hw.1 (by decide +kernel) (zf_TS_48 hw)) (zs_iload_n (k9 := 1) (by decide +kernel) rfl))))
def g_TS_row_35 : z_T := (zi_iret)
theorem gS_TS_row_35 (hw : z_Wd w) : z_S w zY_TS_row 35 g_TS_row_35 := (zs_iret (by decide +kernel) rfl)
def g_TS_row_24 : z_T := (zq 25 (zi_aload 0 25) (zq 28 (zi_get 6 0 28) (zq 31 (zi_get 3 1 31) (zi_iload 1 32))))
theorem gS_TS_row_24 (hw : z_Wd w) : z_S w zY_TS_row 24 g_TS_row_24 := (zq_S (zs_aload_n (k9 := 0) (by decide +kernel) rfl) (zq_S (zs_get hw.1 (by decide +kernel) (zf_TS_14 hw)) (zq_S (zs_get hw.1 (by decide +kernel) (zf_TS_58 hw)) (zs_iload_n (k9 := 1) (by decide +kernel) rfl))))
def g_TS_row_22 : z_T := (zq 23 (zi_iconst (-1) 23) (zi_iret))
theorem gS_TS_row_22 (hw : z_Wd w) : z_S w zY_TS_row 22 g_TS_row_22 := (zq_S (zs_iconst (n := (-1)) (by decide +kernel) (by decide)) (zs_iret (by decide +kernel) rfl))
def g_TS_row_19 : z_T := (zb 22 24 (zi_if_eq 24 22) g_TS_row_22 g_TS_row_24)
theorem gS_TS_row_19 (hw : z_Wd w) : z_S w zY_TS_row 19 g_TS_row_19 := (zb_S (zs_if_eq (off := 5) (by decide +kernel) (by decide)) (gS_TS_row_22 hw) (gS_TS_row_24 hw))
def g_TS_row_0 : z_T := (zq 1 (zi_iload 1 1) (zb 4 22 (zi_if_lt 22 4) (zq 5 (zi_iload 1 5) (zq 6 (zi_iconst 5 6) (zb 9 22 (zi_icmp_gt 22 9) (zq 10 (zi_aload 0 10) (zq 13 (zi_get 6 0 13) (zi_get 3 1 16))) g_TS_row_22))) g_TS_row_22))
theorem gS_TS_row_0 (hw : z_Wd w) : z_S w zY_TS_row 0 g_TS_row_0 := (zq_S (zs_iload_n (k9 := 1) (by decide +kernel) rfl) (zb_S (zs_if_lt (off := 21) (by decide +kernel) (by decide)) (zq_S (zs_iload_n (k9 := 1) (by decide +kernel) rfl) (zq_S (zs_iconst (n := 5) (by decide +kernel) (by decide)) (zb_S (zs_icmp_gt (off := 16) (by decide +kernel) (by decide)) (zq_S (zs_aload_n (k9 := 0) (by decide +kernel) rfl) (zq_S (zs_get hw.1 (by decide +kernel) (zf_TS_14 hw)) (zs_get hw.1 (by decide +kernel) (zf_TS_58 hw)))) (gS_TS_row_22 hw)))) (gS_TS_row_22 hw)))
def g_TS_set_90 : z_T := (zq 91 (zi_aload 0 91) (zq 94 (zi_get 6 0 94) (zq 97 (zi_get 3 1 97) (zq 100 (zi_get 4 2 100) (zq 102 (zi_iload 6 102) (zq 104 (zi_lload 4 104) (zq 105 (zi_last 105) (zq 106 (zi_iconst 1 106) (zi_zret)))))))))
theorem gS_TS_set_90 (hw : z_Wd w) : z_S w zY_TS_set 90 g_TS_set_90 := (zq_S (zs_aload_n (k9 := 0) (by decide +kernel) rfl) (zq_S (zs_get hw.1 (by decide +kernel) (zf_TS_14 hw)) (zq_S (zs_get hw.1 (by decide +kernel) (zf_TS_58 hw)) (zq_S (zs_get hw.1 (by decide +kernel) (zf_TS_102 hw)) (zq_S (zs_iload (by decide +kernel)) (zq_S (zs_lload (by decide +kernel)) (zq_S (zs_last hw.1 (by decide +kernel)) (zq_S (zs_iconst (n := 1) (by decide +kernel) (by decide)) (zs_zret (by decide +kernel) rfl)))))))))
def g_TS_set_85 : z_T := (zb 88 90 (zi_if_ne 90 88) (zq 89 (zi_iconst 0 89) (zi_zret)) g_TS_set_90)
theorem gS_TS_set_85 (hw : z_Wd w) : z_S w zY_TS_set 85 g_TS_set_85 := (zb_S (zs_if_ne (off := 5) (by decide +kernel) (by decide)) (zq_S (zs_iconst (n := 0) (by decide +kernel) (by decide)) (zs_zret (by decide +kernel) rfl)) (gS_TS_set_90 hw))
def g_TS_set_73 : z_T := (zq 74 (zi_aload 0 74) (zq 77 (zi_get 6 0 77) (zq 80 (zi_get 3 1 80) (zi_lload 4 82))))
theorem gS_TS_set_73 (hw : z_Wd w) : z_S w zY_TS_set 73 g_TS_set_73 := (zq_S (zs_aload_n (k9 := 0) (by decide +kernel) rfl) (zq_S (zs_get hw.1 (by decide +kernel) (zf_TS_14 hw)) (zq_S (zs_get hw.1 (by decide +kernel) (zf_TS_58 hw)) (zs_lload (by decide +kernel)))))
def g_TS_set_70 : z_T := (zq 71 (zi_last 71) (zq 72 (zi_iconst 1 72) (zi_zret)))
theorem gS_TS_set_70 (hw : z_Wd w) : z_S w zY_TS_set 70 g_TS_set_70 := (zq_S (zs_last hw.1 (by decide +kernel)) (zq_S (zs_iconst (n := 1) (by decide +kernel) (by decide)) (zs_zret (by decide +kernel) rfl)))
def g_TS_set_43 : z_T := (zq 45 (zi_istore 7 45) (zq 47 (zi_iload 7 47) (zq 48 (zi_iconst 4 48) (zb 51 73 (zi_icmp_eq 73 51) (zq 52 (zi_aload 0 52) (zq 55 (zi_get 6 0 55) (zq 58 (zi_get 3 1 58) (zq 61 (zi_get 4 2 61) (zq 63 (zi_iload 6 63) (zq 65 (zi_lload 4 65) (zi_iload 7 67))))))) g_TS_set_73))))
theorem gS_TS_set_43 (hw : z_Wd w) : z_S w zY_TS_set 43 g_TS_set_43 := (zq_S (zs_istore (by decide +kernel) (by decide)) (zq_S (zs_iload (by decide +kernel)) (zq_S (zs_iconst (n := 4) (by decide +kernel) (by decide)) (zb_S (zs_icmp_eq (off := 25) (by decide +kernel) (by decide)) (zq_S (zs_aload_n (k9 := 0) (by decide +kernel) rfl) (zq_S (zs_get hw.1 (by decide +kernel) (zf_TS_14 hw)) (zq_S (zs_get hw.1 (by decide +kernel) (zf_TS_58 hw)) (zq_S (zs_get hw.1 (by decide +kernel) (zf_TS_102 hw)) (zq_S (zs_iload (by decide +kernel)) (zq_S (zs_lload (by decide +kernel)) (zs_iload (by decide +kernel)))))))) (gS_TS_set_73 hw)))))
def g_TS_set_20 : z_T := (zq 21 (zi_aload 0 21) (zq 24 (zi_get 6 0 24) (zq 27 (zi_get 3 0 27) (zq 28 (zi_iload 2 28) (zq 29 (zi_aload 0 29) (zq 32 (zi_get 6 0 32) (zq 35 (zi_get 3 0 35) (zq 36 (zi_iload 2 36) (zi_iload 3 37)))))))))
theorem gS_TS_set_20 (hw : z_Wd w) : z_S w zY_TS_set 20 g_TS_set_20 := (zq_S (zs_aload_n (k9 := 0) (by decide +kernel) rfl) (zq_S (zs_get hw.1 (by decide +kernel) (zf_TS_14 hw)) (zq_S (zs_get hw.1 (by decide +kernel) (zf_TS_48 hw)) (zq_S (zs_iload_n (k9 := 2) (by decide +kernel) rfl) (zq_S (zs_aload_n (k9 := 0) (by decide +kernel) rfl) (zq_S (zs_get hw.1 (by decide +kernel) (zf_TS_14 hw)) (zq_S (zs_get hw.1 (by decide +kernel) (zf_TS_48 hw)) (zq_S (zs_iload_n (k9 := 2) (by decide +kernel) rfl) (zs_iload_n (k9 := 3) (by decide +kernel) rfl)))))))))
def g_TS_set_10 : z_T := (zq 12 (zi_istore 6 12) (zq 14 (zi_iload 6 14) (zq 15 (zi_iconst (-1) 15) (zb 18 20 (zi_icmp_ne 20 18) (zq 19 (zi_iconst 0 19) (zi_zret)) g_TS_set_20))))
theorem gS_TS_set_10 (hw : z_Wd w) : z_S w zY_TS_set 10 g_TS_set_10 := (zq_S (zs_istore (by decide +kernel) (by decide)) (zq_S (zs_iload (by decide +kernel)) (zq_S (zs_iconst (n := (-1)) (by decide +kernel) (by decide)) (zb_S (zs_icmp_ne (off := 5) (by decide +kernel) (by decide)) (zq_S (zs_iconst (n := 0) (by decide +kernel) (by decide)) (zs_zret (by decide +kernel) rfl)) (gS_TS_set_20 hw)))))
def g_TS_set_0 : z_T := (zq 1 (zi_aload 0 1) (zq 4 (zi_get 6 0 4) (zq 5 (zi_iload 1 5) (zq 6 (zi_iload 2 6) (zi_iload 3 7)))))
theorem gS_TS_set_0 (hw : z_Wd w) : z_S w zY_TS_set 0 g_TS_set_0 := (zq_S (zs_aload_n (k9 := 0) (by decide +kernel) rfl) (zq_S (zs_get hw.1 (by decide +kernel) (zf_TS_14 hw)) (zq_S (zs_iload_n (k9 := 1) (by decide +kernel) rfl) (zq_S (zs_iload_n (k9 := 2) (by decide +kernel) rfl) (zs_iload_n (k9 := 3) (by decide +kernel) rfl)))))
def g_TS_link_53 : z_T := (zq 54 (zi_iload 2 54) (zq 55 (zi_iadd 55) (zq 56 (zi_iload 3 56) (zq 57 (zi_i2l 57) (zq 58 (zi_last 58) (zq 59 (zi_iconst 1 59) (zi_zret)))))))
theorem gS_TS_link_53 (hw : z_Wd w) : z_S w zY_TS_link 53 g_TS_link_53 := (zq_S (zs_iload_n (k9 := 2) (by decide +kernel) rfl) (zq_S (zs_iadd (by decide +kernel)) (zq_S (zs_iload_n (k9 := 3) (by decide +kernel) rfl) (zq_S (zs_i2l (by decide +kernel)) (zq_S (zs_last hw.1 (by decide +kernel)) (zq_S (zs_iconst (n := 1) (by decide +kernel) (by decide)) (zs_zret (by decide +kernel) rfl)))))))
def g_TS_link_32 : z_T := (zq 33 (zi_aload 0 33) (zq 36 (zi_get 6 0 36) (zq 39 (zi_get 3 1 39) (zq 42 (zi_get 4 2 42) (zq 43 (zi_aload 0 43) (zq 46 (zi_get 6 0 46) (zq 49 (zi_get 3 1 49) (zi_iload 1 50))))))))
theorem gS_TS_link_32 (hw : z_Wd w) : z_S w zY_TS_link 32 g_TS_link_32 := (zq_S (zs_aload_n (k9 := 0) (by decide +kernel) rfl) (zq_S (zs_get hw.1 (by decide +kernel) (zf_TS_14 hw)) (zq_S (zs_get hw.1 (by decide +kernel) (zf_TS_58 hw)) (zq_S (zs_get hw.1 (by decide +kernel) (zf_TS_102 hw)) (zq_S (zs_aload_n (k9 := 0) (by decide +kernel) rfl) (zq_S (zs_get hw.1 (by decide +kernel) (zf_TS_14 hw)) (zq_S (zs_get hw.1 (by decide +kernel) (zf_TS_58 hw)) (zs_iload_n (k9 := 1) (by decide +kernel) rfl))))))))
def g_TS_link_30 : z_T := (zq 31 (zi_iconst 0 31) (zi_zret))
theorem gS_TS_link_30 (hw : z_Wd w) : z_S w zY_TS_link 30 g_TS_link_30 := (zq_S (zs_iconst (n := 0) (by decide +kernel) (by decide)) (zs_zret (by decide +kernel) rfl))
def g_TS_link_27 : z_T := (zb 30 32 (zi_if_ne 32 30) g_TS_link_30 g_TS_link_32)
theorem gS_TS_link_27 (hw : z_Wd w) : z_S w zY_TS_link 27 g_TS_link_27 := (zb_S (zs_if_ne (off := 5) (by decide +kernel) (by decide)) (gS_TS_link_30 hw) (gS_TS_link_32 hw))
def g_TS_link_12 : z_T := (zb 15 30 (zi_if_eq 30 15) (zq 16 (zi_aload 0 16) (zq 19 (zi_get 6 0 19) (zq 22 (zi_get 3 1 22) (zq 23 (zi_iload 3 23) (zi_i2l 24))))) g_TS_link_30)
theorem gS_TS_link_12 (hw : z_Wd w) : z_S w zY_TS_link 12 g_TS_link_12 := (zb_S (zs_if_eq (off := 18) (by decide +kernel) (by decide)) (zq_S (zs_aload_n (k9 := 0) (by decide +kernel) rfl) (zq_S (zs_get hw.1 (by decide +kernel) (zf_TS_14 hw)) (zq_S (zs_get hw.1 (by decide +kernel) (zf_TS_58 hw)) (zq_S (zs_iload_n (k9 := 3) (by decide +kernel) rfl) (zs_i2l (by decide +kernel)))))) (gS_TS_link_30 hw))
def g_TS_link_0 : z_T := (zq 1 (zi_aload 0 1) (zq 4 (zi_get 6 0 4) (zq 7 (zi_get 3 1 7) (zq 8 (zi_iload 1 8) (zi_iload 2 9)))))
theorem gS_TS_link_0 (hw : z_Wd w) : z_S w zY_TS_link 0 g_TS_link_0 := (zq_S (zs_aload_n (k9 := 0) (by decide +kernel) rfl) (zq_S (zs_get hw.1 (by decide +kernel) (zf_TS_14 hw)) (zq_S (zs_get hw.1 (by decide +kernel) (zf_TS_58 hw)) (zq_S (zs_iload_n (k9 := 1) (by decide +kernel) rfl) (zs_iload_n (k9 := 2) (by decide +kernel) rfl)))))
def g_TS_write_49 : z_T := (zq 50 (zi_aload 0 50) (zq 53 (zi_get 6 2 53) (zq 56 (zi_get 0 1 56) (zi_iret))))
theorem gS_TS_write_49 (hw : z_Wd w) : z_S w zY_TS_write 49 g_TS_write_49 := (zq_S (zs_aload_n (k9 := 0) (by decide +kernel) rfl) (zq_S (zs_get hw.1 (by decide +kernel) (zf_TS_24 hw)) (zq_S (zs_get hw.1 (by decide +kernel) (zf_TS_133 hw)) (zs_iret (by decide +kernel) rfl))))
def g_TS_write_32 : z_T := (zq 33 (zi_aload 0 33) (zq 36 (zi_get 6 2 36) (zq 39 (zi_get 0 2 39) (zb 42 49 (zi_if_eq 49 42) (zq 43 (zi_aload 0 43) (zi_get 6 2 46)) g_TS_write_49))))
theorem gS_TS_write_32 (hw : z_Wd w) : z_S w zY_TS_write 32 g_TS_write_32 := (zq_S (zs_aload_n (k9 := 0) (by decide +kernel) rfl) (zq_S (zs_get hw.1 (by decide +kernel) (zf_TS_24 hw)) (zq_S (zs_get hw.1 (by decide +kernel) (zf_TS_128 hw)) (zb_S (zs_if_eq (off := 10) (by decide +kernel) (by decide)) (zq_S (zs_aload_n (k9 := 0) (by decide +kernel) rfl) (zs_get hw.1 (by decide +kernel) (zf_TS_24 hw))) (gS_TS_write_49 hw)))))
def g_TS_write_23 : z_T := (zq 24 (zi_aload 0 24) (zq 27 (zi_get 6 3 27) (zq 28 (zi_iload 1 28) (zi_iconst 1 29))))
theorem gS_TS_write_23 (hw : z_Wd w) : z_S w zY_TS_write 23 g_TS_write_23 := (zq_S (zs_aload_n (k9 := 0) (by decide +kernel) rfl) (zq_S (zs_get hw.1 (by decide +kernel) (zf_TS_33 hw)) (zq_S (zs_iload_n (k9 := 1) (by decide +kernel) rfl) (zs_iconst (n := 1) (by decide +kernel) (by decide)))))
def g_TS_write_16 : z_T := (zq 17 (zi_aload 0 17) (zi_get 6 3 20))
theorem gS_TS_write_16 (hw : z_Wd w) : z_S w zY_TS_write 16 g_TS_write_16 := (zq_S (zs_aload_n (k9 := 0) (by decide +kernel) rfl) (zs_get hw.1 (by decide +kernel) (zf_TS_33 hw)))
def g_TS_write_11 : z_T := (zb 14 16 (zi_if_ne 16 14) (zq 15 (zi_iconst (-1) 15) (zi_iret)) g_TS_write_16)
theorem gS_TS_write_11 (hw : z_Wd w) : z_S w zY_TS_write 11 g_TS_write_11 := (zb_S (zs_if_ne (off := 5) (by decide +kernel) (by decide)) (zq_S (zs_iconst (n := (-1)) (by decide +kernel) (by decide)) (zs_iret (by decide +kernel) rfl)) (gS_TS_write_16 hw))
def g_TS_write_0 : z_T := (zq 1 (zi_aload 0 1) (zq 4 (zi_get 6 0 4) (zq 7 (zi_get 3 1 7) (zi_iload 1 8))))
theorem gS_TS_write_0 (hw : z_Wd w) : z_S w zY_TS_write 0 g_TS_write_0 := (zq_S (zs_aload_n (k9 := 0) (by decide +kernel) rfl) (zq_S (zs_get hw.1 (by decide +kernel) (zf_TS_14 hw)) (zq_S (zs_get hw.1 (by decide +kernel) (zf_TS_58 hw)) (zs_iload_n (k9 := 1) (by decide +kernel) rfl))))
def g_TS_clear_10 : z_T := (zi_vret)
theorem gS_TS_clear_10 (hw : z_Wd w) : z_S w zY_TS_clear 10 g_TS_clear_10 := (zs_vret (by decide +kernel) rfl)
def g_TS_clear_0 : z_T := (zq 1 (zi_aload 0 1) (zq 4 (zi_get 6 0 4) (zi_get 3 1 7)))
theorem gS_TS_clear_0 (hw : z_Wd w) : z_S w zY_TS_clear 0 g_TS_clear_0 := (zq_S (zs_aload_n (k9 := 0) (by decide +kernel) rfl) (zq_S (zs_get hw.1 (by decide +kernel) (zf_TS_14 hw)) (zs_get hw.1 (by decide +kernel) (zf_TS_58 hw))))
def g_TS_at_37 : z_T := (zi_iret)
theorem gS_TS_at_37 (hw : z_Wd w) : z_S w zY_TS_at 37 g_TS_at_37 := (zs_iret (by decide +kernel) rfl)
def g_TS_at_36 : z_T := (zq 37 (zi_iconst (-1) 37) g_TS_at_37)
theorem gS_TS_at_36 (hw : z_Wd w) : z_S w zY_TS_at 36 g_TS_at_36 := (zq_S (zs_iconst (n := (-1)) (by decide +kernel) (by decide)) (gS_TS_at_37 hw))
def g_TS_at_21 : z_T := (zb 24 36 (zi_if_eq 36 24) (zq 25 (zi_aload 0 25) (zq 28 (zi_get 6 2 28) (zq 31 (zi_get 0 0 31) (zq 32 (zi_iload 1 32) (zq 33 (zi_iald 33) (zq 37 (zi_goto 37) g_TS_at_37)))))) g_TS_at_36)
theorem gS_TS_at_21 (hw : z_Wd w) : z_S w zY_TS_at 21 g_TS_at_21 := (zb_S (zs_if_eq (off := 15) (by decide +kernel) (by decide)) (zq_S (zs_aload_n (k9 := 0) (by decide +kernel) rfl) (zq_S (zs_get hw.1 (by decide +kernel) (zf_TS_24 hw)) (zq_S (zs_get hw.1 (by decide +kernel) (zf_TS_138 hw)) (zq_S (zs_iload_n (k9 := 1) (by decide +kernel) rfl) (zq_S (zs_iald hw.1 (by decide +kernel)) (zq_S (zs_goto (off := 4) (by decide +kernel) (by decide)) (gS_TS_at_37 hw))))))) (gS_TS_at_36 hw))
def g_TS_at_13 : z_T := (zq 14 (zi_aload 0 14) (zq 17 (zi_get 6 2 17) (zi_iload 1 18)))
theorem gS_TS_at_13 (hw : z_Wd w) : z_S w zY_TS_at 13 g_TS_at_13 := (zq_S (zs_aload_n (k9 := 0) (by decide +kernel) rfl) (zq_S (zs_get hw.1 (by decide +kernel) (zf_TS_24 hw)) (zs_iload_n (k9 := 1) (by decide +kernel) rfl)))
def g_TS_at_0 : z_T := (zq 1 (zi_iload 1 1) (zq 2 (zi_iconst (-1) 2) (zb 5 13 (zi_icmp_ne 13 5) (zq 6 (zi_aload 0 6) (zq 9 (zi_get 6 2 9) (zq 12 (zi_get 0 1 12) (zi_iret)))) g_TS_at_13)))
theorem gS_TS_at_0 (hw : z_Wd w) : z_S w zY_TS_at 0 g_TS_at_0 := (zq_S (zs_iload_n (k9 := 1) (by decide +kernel) rfl) (zq_S (zs_iconst (n := (-1)) (by decide +kernel) (by decide)) (zb_S (zs_icmp_ne (off := 11) (by decide +kernel) (by decide)) (zq_S (zs_aload_n (k9 := 0) (by decide +kernel) rfl) (zq_S (zs_get hw.1 (by decide +kernel) (zf_TS_24 hw)) (zq_S (zs_get hw.1 (by decide +kernel) (zf_TS_133 hw)) (zs_iret (by decide +kernel) rfl)))) (gS_TS_at_13 hw))))
def g_TS_put_58 : z_T := (zq 59 (zi_iconst 1 59) (zi_zret))
theorem gS_TS_put_58 (hw : z_Wd w) : z_S w zY_TS_put 58 g_TS_put_58 := (zq_S (zs_iconst (n := 1) (by decide +kernel) (by decide)) (zs_zret (by decide +kernel) rfl))
def g_TS_put_50 : z_T := (zq 51 (zi_aload 0 51) (zq 54 (zi_get 6 2 54) (zi_iload 2 55)))
theorem gS_TS_put_50 (hw : z_Wd w) : z_S w zY_TS_put 50 g_TS_put_50 := (zq_S (zs_aload_n (k9 := 0) (by decide +kernel) rfl) (zq_S (zs_get hw.1 (by decide +kernel) (zf_TS_24 hw)) (zs_iload_n (k9 := 2) (by decide +kernel) rfl)))
def g_TS_put_48 : z_T := (zq 49 (zi_iconst 0 49) (zi_zret))
theorem gS_TS_put_48 (hw : z_Wd w) : z_S w zY_TS_put 48 g_TS_put_48 := (zq_S (zs_iconst (n := 0) (by decide +kernel) (by decide)) (zs_zret (by decide +kernel) rfl))
def g_TS_put_45 : z_T := (zb 48 50 (zi_if_eq 50 48) g_TS_put_48 g_TS_put_50)
theorem gS_TS_put_45 (hw : z_Wd w) : z_S w zY_TS_put 45 g_TS_put_45 := (zb_S (zs_if_eq (off := 5) (by decide +kernel) (by decide)) (gS_TS_put_48 hw) (gS_TS_put_50 hw))
def g_TS_put_27 : z_T := (zq 28 (zi_iload 1 28) (zq 29 (zi_aload 0 29) (zq 32 (zi_get 6 2 32) (zq 35 (zi_get 0 1 35) (zb 38 48 (zi_icmp_ne 48 38) (zq 39 (zi_aload 0 39) (zi_get 6 2 42)) g_TS_put_48)))))
theorem gS_TS_put_27 (hw : z_Wd w) : z_S w zY_TS_put 27 g_TS_put_27 := (zq_S (zs_iload_n (k9 := 1) (by decide +kernel) rfl) (zq_S (zs_aload_n (k9 := 0) (by decide +kernel) rfl) (zq_S (zs_get hw.1 (by decide +kernel) (zf_TS_24 hw)) (zq_S (zs_get hw.1 (by decide +kernel) (zf_TS_133 hw)) (zb_S (zs_icmp_ne (off := 13) (by decide +kernel) (by decide)) (zq_S (zs_aload_n (k9 := 0) (by decide +kernel) rfl) (zs_get hw.1 (by decide +kernel) (zf_TS_24 hw))) (gS_TS_put_48 hw))))))
def g_TS_put_8 : z_T := (zb 11 27 (zi_if_eq 27 11) (zq 12 (zi_aload 0 12) (zq 15 (zi_get 6 2 15) (zq 18 (zi_get 0 0 18) (zq 19 (zi_iload 1 19) (zq 20 (zi_iload 2 20) (zq 23 (zi_sipush 255 23) (zq 24 (zi_iand 24) (zq 25 (zi_iast 25) (zq 26 (zi_iconst 1 26) (zi_zret)))))))))) g_TS_put_27)
theorem gS_TS_put_8 (hw : z_Wd w) : z_S w zY_TS_put 8 g_TS_put_8 := (zb_S (zs_if_eq (off := 19) (by decide +kernel) (by decide)) (zq_S (zs_aload_n (k9 := 0) (by decide +kernel) rfl) (zq_S (zs_get hw.1 (by decide +kernel) (zf_TS_24 hw)) (zq_S (zs_get hw.1 (by decide +kernel) (zf_TS_138 hw)) (zq_S (zs_iload_n (k9 := 1) (by decide +kernel) rfl) (zq_S (zs_iload_n (k9 := 2) (by decide +kernel) rfl) (zq_S (zs_sipush (n := 255) (by decide +kernel) (by decide)) (zq_S (zs_iand (by decide +kernel)) (zq_S (zs_iast hw.1 (by decide +kernel)) (zq_S (zs_iconst (n := 1) (by decide +kernel) (by decide)) (zs_zret (by decide +kernel) rfl)))))))))) (gS_TS_put_27 hw))
def g_TS_put_0 : z_T := (zq 1 (zi_aload 0 1) (zq 4 (zi_get 6 2 4) (zi_iload 1 5)))
theorem gS_TS_put_0 (hw : z_Wd w) : z_S w zY_TS_put 0 g_TS_put_0 := (zq_S (zs_aload_n (k9 := 0) (by decide +kernel) rfl) (zq_S (zs_get hw.1 (by decide +kernel) (zf_TS_24 hw)) (zs_iload_n (k9 := 1) (by decide +kernel) rfl)))
def g_TS_cut_17 : z_T := (zq 18 (zi_aload 0 18) (zq 21 (zi_get 6 2 21) (zq 22 (zi_iload 1 22) (zq 25 (zi_put 0 1 (.int) 25) (zq 26 (zi_iconst 1 26) (zi_zret))))))
theorem gS_TS_cut_17 (hw : z_Wd w) : z_S w zY_TS_cut 17 g_TS_cut_17 := (zq_S (zs_aload_n (k9 := 0) (by decide +kernel) rfl) (zq_S (zs_get hw.1 (by decide +kernel) (zf_TS_24 hw)) (zq_S (zs_iload_n (k9 := 1) (by decide +kernel) rfl) (zq_S (zs_put hw.1 (by decide +kernel) (zp_TS_133 hw) (fun h => by cases h)) (zq_S (zs_iconst (n := 1) (by decide +kernel) (by decide)) (zs_zret (by decide +kernel) rfl))))))
def g_TS_cut_15 : z_T := (zq 16 (zi_iconst 0 16) (zi_zret))
theorem gS_TS_cut_15 (hw : z_Wd w) : z_S w zY_TS_cut 15 g_TS_cut_15 := (zq_S (zs_iconst (n := 0) (by decide +kernel) (by decide)) (zs_zret (by decide +kernel) rfl))
def g_TS_cut_0 : z_T := (zq 1 (zi_iload 1 1) (zb 4 15 (zi_if_lt 15 4) (zq 5 (zi_iload 1 5) (zq 6 (zi_aload 0 6) (zq 9 (zi_get 6 2 9) (zq 12 (zi_get 0 1 12) (zb 15 17 (zi_icmp_le 17 15) g_TS_cut_15 g_TS_cut_17))))) g_TS_cut_15))
theorem gS_TS_cut_0 (hw : z_Wd w) : z_S w zY_TS_cut 0 g_TS_cut_0 := (zq_S (zs_iload_n (k9 := 1) (by decide +kernel) rfl) (zb_S (zs_if_lt (off := 14) (by decide +kernel) (by decide)) (zq_S (zs_iload_n (k9 := 1) (by decide +kernel) rfl) (zq_S (zs_aload_n (k9 := 0) (by decide +kernel) rfl) (zq_S (zs_get hw.1 (by decide +kernel) (zf_TS_24 hw)) (zq_S (zs_get hw.1 (by decide +kernel) (zf_TS_133 hw)) (zb_S (zs_icmp_le (off := 5) (by decide +kernel) (by decide)) (gS_TS_cut_15 hw) (gS_TS_cut_17 hw)))))) (gS_TS_cut_15 hw)))
def g_TS_limit_9 : z_T := (zi_zret)
theorem gS_TS_limit_9 (hw : z_Wd w) : z_S w zY_TS_limit 9 g_TS_limit_9 := (zs_zret (by decide +kernel) rfl)
def g_TS_limit_0 : z_T := (zq 1 (zi_aload 0 1) (zq 4 (zi_get 6 4 4) (zq 5 (zi_iload 1 5) (zi_iload 2 6))))
theorem gS_TS_limit_0 (hw : z_Wd w) : z_S w zY_TS_limit 0 g_TS_limit_0 := (zq_S (zs_aload_n (k9 := 0) (by decide +kernel) rfl) (zq_S (zs_get hw.1 (by decide +kernel) (zf_TS_40 hw)) (zq_S (zs_iload_n (k9 := 1) (by decide +kernel) rfl) (zs_iload_n (k9 := 2) (by decide +kernel) rfl))))
def g_TS_read_23 : z_T := (zq 24 (zi_aload 0 24) (zq 27 (zi_get 6 1 27) (zq 30 (zi_get 3 1 30) (zq 33 (zi_get 4 3 33) (zi_iret)))))
theorem gS_TS_read_23 (hw : z_Wd w) : z_S w zY_TS_read 23 g_TS_read_23 := (zq_S (zs_aload_n (k9 := 0) (by decide +kernel) rfl) (zq_S (zs_get hw.1 (by decide +kernel) (zf_TS_18 hw)) (zq_S (zs_get hw.1 (by decide +kernel) (zf_TS_58 hw)) (zq_S (zs_get hw.1 (by decide +kernel) (zf_TS_156 hw)) (zs_iret (by decide +kernel) rfl)))))
def g_TS_read_15 : z_T := (zq 16 (zi_pop 16) (zq 17 (zi_aload 0 17) (zi_get 6 4 20)))
theorem gS_TS_read_15 (hw : z_Wd w) : z_S w zY_TS_read 15 g_TS_read_15 := (zq_S (zs_pop (by decide +kernel)) (zq_S (zs_aload_n (k9 := 0) (by decide +kernel) rfl) (zs_get hw.1 (by decide +kernel) (zf_TS_40 hw))))
def g_TS_read_7 : z_T := (zq 8 (zi_aload 0 8) (zq 11 (zi_get 6 4 11) (zi_iconst 1 12)))
theorem gS_TS_read_7 (hw : z_Wd w) : z_S w zY_TS_read 7 g_TS_read_7 := (zq_S (zs_aload_n (k9 := 0) (by decide +kernel) rfl) (zq_S (zs_get hw.1 (by decide +kernel) (zf_TS_40 hw)) (zs_iconst (n := 1) (by decide +kernel) (by decide))))
def g_TS_read_0 : z_T := (zq 1 (zi_aload 0 1) (zi_get 6 4 4))
theorem gS_TS_read_0 (hw : z_Wd w) : z_S w zY_TS_read 0 g_TS_read_0 := (zq_S (zs_aload_n (k9 := 0) (by decide +kernel) rfl) (zs_get hw.1 (by decide +kernel) (zf_TS_40 hw)))
def g_TS_position_0 : z_T := (zq 1 (zi_aload 0 1) (zq 4 (zi_get 6 4 4) (zq 7 (zi_get 1 10 7) (zi_iret))))
theorem gS_TS_position_0 (hw : z_Wd w) : z_S w zY_TS_position 0 g_TS_position_0 := (zq_S (zs_aload_n (k9 := 0) (by decide +kernel) rfl) (zq_S (zs_get hw.1 (by decide +kernel) (zf_TS_40 hw)) (zq_S (zs_get hw.1 (by decide +kernel) (zf_TS_157 hw)) (zs_iret (by decide +kernel) rfl))))
def g_TS_things_21 : z_T := (zi_iret)
theorem gS_TS_things_21 (hw : z_Wd w) : z_S w zY_TS_things 21 g_TS_things_21 := (zs_iret (by decide +kernel) rfl)
def g_TS_things_14 : z_T := (zq 15 (zi_aload 2 15) (zq 18 (zi_get 3 1 18) (zq 21 (zi_get 4 3 21) g_TS_things_21)))
theorem gS_TS_things_14 (hw : z_Wd w) : z_S w zY_TS_things 14 g_TS_things_14 := (zq_S (zs_aload_n (k9 := 2) (by decide +kernel) rfl) (zq_S (zs_get hw.1 (by decide +kernel) (zf_TS_58 hw)) (zq_S (zs_get hw.1 (by decide +kernel) (zf_TS_156 hw)) (gS_TS_things_21 hw))))
def g_TS_things_5 : z_T := (zq 6 (zi_astore 2 6) (zq 7 (zi_aload 2 7) (zb 10 14 (zi_ifnonnull 14 10) (zq 11 (zi_iconst (-1) 11) (zq 21 (zi_goto 21) g_TS_things_21)) g_TS_things_14)))
theorem gS_TS_things_5 (hw : z_Wd w) : z_S w zY_TS_things 5 g_TS_things_5 := (zq_S (zs_astore_n (k9 := 2) (by decide +kernel) rfl (by decide)) (zq_S (zs_aload_n (k9 := 2) (by decide +kernel) rfl) (zb_S (zs_ifnonnull (off := 7) (by decide +kernel) (by decide)) (zq_S (zs_iconst (n := (-1)) (by decide +kernel) (by decide)) (zq_S (zs_goto (off := 10) (by decide +kernel) (by decide)) (gS_TS_things_21 hw))) (gS_TS_things_14 hw))))
def g_TS_things_0 : z_T := (zq 1 (zi_aload 0 1) (zi_iload 1 2))
theorem gS_TS_things_0 (hw : z_Wd w) : z_S w zY_TS_things 0 g_TS_things_0 := (zq_S (zs_aload_n (k9 := 0) (by decide +kernel) rfl) (zs_iload_n (k9 := 1) (by decide +kernel) rfl))
def g_TS_thing_62 : z_T := (zi_iret)
theorem gS_TS_thing_62 (hw : z_Wd w) : z_S w zY_TS_thing 62 g_TS_thing_62 := (zs_iret (by decide +kernel) rfl)
def g_TS_thing_60 : z_T := (zq 62 (zi_bipush (-2) 62) g_TS_thing_62)
theorem gS_TS_thing_60 (hw : z_Wd w) : z_S w zY_TS_thing 60 g_TS_thing_60 := (zq_S (zs_bipush (n := (-2)) (by decide +kernel) (by decide)) (gS_TS_thing_62 hw))
def g_TS_thing_42 : z_T := (zq 43 (zi_iload 3 43) (zq 44 (zi_iconst 1 44) (zb 47 60 (zi_icmp_ne 60 47) (zq 49 (zi_aload 4 49) (zq 52 (zi_get 3 1 52) (zq 55 (zi_get 4 1 55) (zq 56 (zi_iload 2 56) (zq 57 (zi_iald 57) (zq 62 (zi_goto 62) g_TS_thing_62)))))) g_TS_thing_60)))
theorem gS_TS_thing_42 (hw : z_Wd w) : z_S w zY_TS_thing 42 g_TS_thing_42 := (zq_S (zs_iload_n (k9 := 3) (by decide +kernel) rfl) (zq_S (zs_iconst (n := 1) (by decide +kernel) (by decide)) (zb_S (zs_icmp_ne (off := 16) (by decide +kernel) (by decide)) (zq_S (zs_aload (by decide +kernel)) (zq_S (zs_get hw.1 (by decide +kernel) (zf_TS_58 hw)) (zq_S (zs_get hw.1 (by decide +kernel) (zf_TS_165 hw)) (zq_S (zs_iload_n (k9 := 2) (by decide +kernel) rfl) (zq_S (zs_iald hw.1 (by decide +kernel)) (zq_S (zs_goto (off := 5) (by decide +kernel) (by decide)) (gS_TS_thing_62 hw))))))) (gS_TS_thing_60 hw))))
def g_TS_thing_27 : z_T := (zq 28 (zi_iload 3 28) (zb 31 42 (zi_if_ne 42 31) (zq 33 (zi_aload 4 33) (zq 36 (zi_get 3 1 36) (zq 39 (zi_get 4 0 39) (zq 40 (zi_iload 2 40) (zq 41 (zi_iald 41) (zi_iret)))))) g_TS_thing_42))
theorem gS_TS_thing_27 (hw : z_Wd w) : z_S w zY_TS_thing 27 g_TS_thing_27 := (zq_S (zs_iload_n (k9 := 3) (by decide +kernel) rfl) (zb_S (zs_if_ne (off := 14) (by decide +kernel) (by decide)) (zq_S (zs_aload (by decide +kernel)) (zq_S (zs_get hw.1 (by decide +kernel) (zf_TS_58 hw)) (zq_S (zs_get hw.1 (by decide +kernel) (zf_TS_163 hw)) (zq_S (zs_iload_n (k9 := 2) (by decide +kernel) rfl) (zq_S (zs_iald hw.1 (by decide +kernel)) (zs_iret (by decide +kernel) rfl)))))) (gS_TS_thing_42 hw)))
def g_TS_thing_24 : z_T := (zq 26 (zi_bipush (-2) 26) (zi_iret))
theorem gS_TS_thing_24 (hw : z_Wd w) : z_S w zY_TS_thing 24 g_TS_thing_24 := (zq_S (zs_bipush (n := (-2)) (by decide +kernel) (by decide)) (zs_iret (by decide +kernel) rfl))
def g_TS_thing_21 : z_T := (zb 24 27 (zi_if_ne 27 24) g_TS_thing_24 g_TS_thing_27)
theorem gS_TS_thing_21 (hw : z_Wd w) : z_S w zY_TS_thing 21 g_TS_thing_21 := (zb_S (zs_if_ne (off := 6) (by decide +kernel) (by decide)) (gS_TS_thing_24 hw) (gS_TS_thing_27 hw))
def g_TS_thing_5 : z_T := (zq 7 (zi_astore 4 7) (zq 9 (zi_aload 4 9) (zb 12 24 (zi_ifnull 24 12) (zq 14 (zi_aload 4 14) (zq 17 (zi_get 3 1 17) (zi_iload 2 18))) g_TS_thing_24)))
theorem gS_TS_thing_5 (hw : z_Wd w) : z_S w zY_TS_thing 5 g_TS_thing_5 := (zq_S (zs_astore (by decide +kernel) (by decide)) (zq_S (zs_aload (by decide +kernel)) (zb_S (zs_ifnull (off := 15) (by decide +kernel) (by decide)) (zq_S (zs_aload (by decide +kernel)) (zq_S (zs_get hw.1 (by decide +kernel) (zf_TS_58 hw)) (zs_iload_n (k9 := 2) (by decide +kernel) rfl))) (gS_TS_thing_24 hw))))
def g_TS_thing_0 : z_T := (zq 1 (zi_aload 0 1) (zi_iload 1 2))
theorem gS_TS_thing_0 (hw : z_Wd w) : z_S w zY_TS_thing 0 g_TS_thing_0 := (zq_S (zs_aload_n (k9 := 0) (by decide +kernel) rfl) (zs_iload_n (k9 := 1) (by decide +kernel) rfl))
def g_TS_get_46 : z_T := (zi_lret)
theorem gS_TS_get_46 (hw : z_Wd w) : z_S w zY_TS_get 46 g_TS_get_46 := (zs_lret (by decide +kernel) rfl)
def g_TS_get_35 : z_T := (zq 37 (zi_aload 5 37) (zq 40 (zi_get 3 1 40) (zq 43 (zi_get 4 2 43) (zq 45 (zi_iload 6 45) (zq 46 (zi_lald 46) g_TS_get_46)))))
theorem gS_TS_get_35 (hw : z_Wd w) : z_S w zY_TS_get 35 g_TS_get_35 := (zq_S (zs_aload (by decide +kernel)) (zq_S (zs_get hw.1 (by decide +kernel) (zf_TS_58 hw)) (zq_S (zs_get hw.1 (by decide +kernel) (zf_TS_102 hw)) (zq_S (zs_iload (by decide +kernel)) (zq_S (zs_lald hw.1 (by decide +kernel)) (gS_TS_get_46 hw))))))
def g_TS_get_23 : z_T := (zq 25 (zi_istore 6 25) (zq 27 (zi_iload 6 27) (zq 28 (zi_iconst (-1) 28) (zb 31 35 (zi_icmp_ne 35 31) (zq 32 (zi_lconst 0 32) (zq 46 (zi_goto 46) g_TS_get_46)) g_TS_get_35))))
theorem gS_TS_get_23 (hw : z_Wd w) : z_S w zY_TS_get 23 g_TS_get_23 := (zq_S (zs_istore (by decide +kernel) (by decide)) (zq_S (zs_iload (by decide +kernel)) (zq_S (zs_iconst (n := (-1)) (by decide +kernel) (by decide)) (zb_S (zs_icmp_ne (off := 7) (by decide +kernel) (by decide)) (zq_S (zs_lconst (n := 0) (by decide +kernel) (by decide)) (zq_S (zs_goto (off := 14) (by decide +kernel) (by decide)) (gS_TS_get_46 hw))) (gS_TS_get_35 hw)))))
def g_TS_get_14 : z_T := (zq 16 (zi_aload 5 16) (zq 17 (zi_iload 2 17) (zq 18 (zi_iload 3 18) (zi_iload 4 20))))
theorem gS_TS_get_14 (hw : z_Wd w) : z_S w zY_TS_get 14 g_TS_get_14 := (zq_S (zs_aload (by decide +kernel)) (zq_S (zs_iload_n (k9 := 2) (by decide +kernel) rfl) (zq_S (zs_iload_n (k9 := 3) (by decide +kernel) rfl) (zs_iload (by decide +kernel)))))
def g_TS_get_5 : z_T := (zq 7 (zi_astore 5 7) (zq 9 (zi_aload 5 9) (zb 12 14 (zi_ifnonnull 14 12) (zq 13 (zi_lconst 0 13) (zi_lret)) g_TS_get_14)))
theorem gS_TS_get_5 (hw : z_Wd w) : z_S w zY_TS_get 5 g_TS_get_5 := (zq_S (zs_astore (by decide +kernel) (by decide)) (zq_S (zs_aload (by decide +kernel)) (zb_S (zs_ifnonnull (off := 5) (by decide +kernel) (by decide)) (zq_S (zs_lconst (n := 0) (by decide +kernel) (by decide)) (zs_lret (by decide +kernel) rfl)) (gS_TS_get_14 hw))))
def g_TS_get_0 : z_T := (zq 1 (zi_aload 0 1) (zi_iload 1 2))
theorem gS_TS_get_0 (hw : z_Wd w) : z_S w zY_TS_get 0 g_TS_get_0 := (zq_S (zs_aload_n (k9 := 0) (by decide +kernel) rfl) (zs_iload_n (k9 := 1) (by decide +kernel) rfl))
def g_TS_goes_45 : z_T := (zq 46 (zi_iload 3 46) (zq 47 (zi_iadd 47) (zq 48 (zi_lald 48) (zq 49 (zi_l2i 49) (zi_iret)))))
theorem gS_TS_goes_45 (hw : z_Wd w) : z_S w zY_TS_goes 45 g_TS_goes_45 := (zq_S (zs_iload_n (k9 := 3) (by decide +kernel) rfl) (zq_S (zs_iadd (by decide +kernel)) (zq_S (zs_lald hw.1 (by decide +kernel)) (zq_S (zs_l2i (by decide +kernel)) (zs_iret (by decide +kernel) rfl)))))
def g_TS_goes_28 : z_T := (zq 30 (zi_aload 4 30) (zq 33 (zi_get 3 1 33) (zq 36 (zi_get 4 2 36) (zq 38 (zi_aload 4 38) (zq 41 (zi_get 3 1 41) (zi_iload 2 42))))))
theorem gS_TS_goes_28 (hw : z_Wd w) : z_S w zY_TS_goes 28 g_TS_goes_28 := (zq_S (zs_aload (by decide +kernel)) (zq_S (zs_get hw.1 (by decide +kernel) (zf_TS_58 hw)) (zq_S (zs_get hw.1 (by decide +kernel) (zf_TS_102 hw)) (zq_S (zs_aload (by decide +kernel)) (zq_S (zs_get hw.1 (by decide +kernel) (zf_TS_58 hw)) (zs_iload_n (k9 := 2) (by decide +kernel) rfl))))))
def g_TS_goes_25 : z_T := (zq 27 (zi_bipush (-2) 27) (zi_iret))
theorem gS_TS_goes_25 (hw : z_Wd w) : z_S w zY_TS_goes 25 g_TS_goes_25 := (zq_S (zs_bipush (n := (-2)) (by decide +kernel) (by decide)) (zs_iret (by decide +kernel) rfl))
def g_TS_goes_22 : z_T := (zb 25 28 (zi_if_ne 28 25) g_TS_goes_25 g_TS_goes_28)
theorem gS_TS_goes_22 (hw : z_Wd w) : z_S w zY_TS_goes 22 g_TS_goes_22 := (zb_S (zs_if_ne (off := 6) (by decide +kernel) (by decide)) (gS_TS_goes_25 hw) (gS_TS_goes_28 hw))
def g_TS_goes_5 : z_T := (zq 7 (zi_astore 4 7) (zq 9 (zi_aload 4 9) (zb 12 25 (zi_ifnull 25 12) (zq 14 (zi_aload 4 14) (zq 17 (zi_get 3 1 17) (zq 18 (zi_iload 2 18) (zi_iload 3 19)))) g_TS_goes_25)))
theorem gS_TS_goes_5 (hw : z_Wd w) : z_S w zY_TS_goes 5 g_TS_goes_5 := (zq_S (zs_astore (by decide +kernel) (by decide)) (zq_S (zs_aload (by decide +kernel)) (zb_S (zs_ifnull (off := 16) (by decide +kernel) (by decide)) (zq_S (zs_aload (by decide +kernel)) (zq_S (zs_get hw.1 (by decide +kernel) (zf_TS_58 hw)) (zq_S (zs_iload_n (k9 := 2) (by decide +kernel) rfl) (zs_iload_n (k9 := 3) (by decide +kernel) rfl)))) (gS_TS_goes_25 hw))))
def g_TS_goes_0 : z_T := (zq 1 (zi_aload 0 1) (zi_iload 1 2))
theorem gS_TS_goes_0 (hw : z_Wd w) : z_S w zY_TS_goes 0 g_TS_goes_0 := (zq_S (zs_aload_n (k9 := 0) (by decide +kernel) rfl) (zs_iload_n (k9 := 1) (by decide +kernel) rfl))
def g_TS_sideOf_22 : z_T := (zi_aret)
theorem gS_TS_sideOf_22 (hw : z_Wd w) : z_S w zY_TS_sideOf 22 g_TS_sideOf_22 := (zs_aret (by decide +kernel) rfl (Or.inl ⟨_, rfl⟩))
def g_TS_sideOf_21 : z_T := (zq 22 (zi_null 22) g_TS_sideOf_22)
theorem gS_TS_sideOf_21 (hw : z_Wd w) : z_S w zY_TS_sideOf 21 g_TS_sideOf_21 := (zq_S (zs_null (by decide +kernel)) (gS_TS_sideOf_22 hw))
def g_TS_sideOf_9 : z_T := (zq 10 (zi_iload 1 10) (zq 11 (zi_iconst 1 11) (zb 14 21 (zi_icmp_ne 21 14) (zq 15 (zi_aload 0 15) (zq 18 (zi_get 6 1 18) (zq 22 (zi_goto 22) g_TS_sideOf_22))) g_TS_sideOf_21)))
theorem gS_TS_sideOf_9 (hw : z_Wd w) : z_S w zY_TS_sideOf 9 g_TS_sideOf_9 := (zq_S (zs_iload_n (k9 := 1) (by decide +kernel) rfl) (zq_S (zs_iconst (n := 1) (by decide +kernel) (by decide)) (zb_S (zs_icmp_ne (off := 10) (by decide +kernel) (by decide)) (zq_S (zs_aload_n (k9 := 0) (by decide +kernel) rfl) (zq_S (zs_get hw.1 (by decide +kernel) (zf_TS_18 hw)) (zq_S (zs_goto (off := 4) (by decide +kernel) (by decide)) (gS_TS_sideOf_22 hw)))) (gS_TS_sideOf_21 hw))))
def g_TS_sideOf_0 : z_T := (zq 1 (zi_iload 1 1) (zb 4 9 (zi_if_ne 9 4) (zq 5 (zi_aload 0 5) (zq 8 (zi_get 6 0 8) (zi_aret))) g_TS_sideOf_9))
theorem gS_TS_sideOf_0 (hw : z_Wd w) : z_S w zY_TS_sideOf 0 g_TS_sideOf_0 := (zq_S (zs_iload_n (k9 := 1) (by decide +kernel) rfl) (zb_S (zs_if_ne (off := 8) (by decide +kernel) (by decide)) (zq_S (zs_aload_n (k9 := 0) (by decide +kernel) rfl) (zq_S (zs_get hw.1 (by decide +kernel) (zf_TS_14 hw)) (zs_aret (by decide +kernel) rfl (Or.inl ⟨_, rfl⟩)))) (gS_TS_sideOf_9 hw)))
def g_TS_sideToReshape_26 : z_T := (zi_aret)
theorem gS_TS_sideToReshape_26 (hw : z_Wd w) : z_S w zY_TS_sideToReshape 26 g_TS_sideToReshape_26 := (zs_aret (by decide +kernel) rfl (Or.inl ⟨_, rfl⟩))
def g_TS_sideToReshape_21 : z_T := (zq 22 (zi_aload 0 22) (zi_iload 1 23))
theorem gS_TS_sideToReshape_21 (hw : z_Wd w) : z_S w zY_TS_sideToReshape 21 g_TS_sideToReshape_21 := (zq_S (zs_aload_n (k9 := 0) (by decide +kernel) rfl) (zs_iload_n (k9 := 1) (by decide +kernel) rfl))
def g_TS_sideToReshape_0 : z_T := (zq 1 (zi_iload 1 1) (zq 4 (zi_if_ne 21 4) (zq 5 (zi_aload 0 5) (zq 8 (zi_get 6 0 8) (zq 11 (zi_get 3 1 11) (zq 14 (zi_get 4 3 14) (zq 17 (zi_if_le 21 17) (zq 18 (zi_null 18) (zq 26 (zi_goto 26) g_TS_sideToReshape_26)))))))))
theorem gS_TS_sideToReshape_0 (hw : z_Wd w) : z_S w zY_TS_sideToReshape 0 g_TS_sideToReshape_0 := (zq_S (zs_iload_n (k9 := 1) (by decide +kernel) rfl) (zq_S (zs_if_ne (off := 20) (by decide +kernel) (by decide)) (zq_S (zs_aload_n (k9 := 0) (by decide +kernel) rfl) (zq_S (zs_get hw.1 (by decide +kernel) (zf_TS_14 hw)) (zq_S (zs_get hw.1 (by decide +kernel) (zf_TS_58 hw)) (zq_S (zs_get hw.1 (by decide +kernel) (zf_TS_156 hw)) (zq_S (zs_if_le (off := 7) (by decide +kernel) (by decide)) (zq_S (zs_null (by decide +kernel)) (zq_S (zs_goto (off := 8) (by decide +kernel) (by decide)) (gS_TS_sideToReshape_26 hw))))))))))
def g_TS_bytesOfKind_0 : z_T := (zq 1 (zi_iconst 1 1) (zq 2 (zi_iload 0 2) (zq 3 (zi_iconst 3 3) (zq 4 (zi_iand 4) (zq 5 (zi_ishl 5) (zi_iret))))))
theorem gS_TS_bytesOfKind_0 (hw : z_Wd w) : z_S w zY_TS_bytesOfKind 0 g_TS_bytesOfKind_0 := (zq_S (zs_iconst (n := 1) (by decide +kernel) (by decide)) (zq_S (zs_iload_n (k9 := 0) (by decide +kernel) rfl) (zq_S (zs_iconst (n := 3) (by decide +kernel) (by decide)) (zq_S (zs_iand (by decide +kernel)) (zq_S (zs_ishl (by decide +kernel)) (zs_iret (by decide +kernel) rfl))))))
def g_TS_cutToKind_8 : z_T := (zq 9 (zi_imul 9) (zq 10 (zi_isub 10) (zq 11 (zi_istore 3 11) (zq 12 (zi_lload 0 12) (zq 13 (zi_iload 3 13) (zq 14 (zi_lshl 14) (zq 15 (zi_iload 3 15) (zq 16 (zi_lshr 16) (zi_lret)))))))))
theorem gS_TS_cutToKind_8 (hw : z_Wd w) : z_S w zY_TS_cutToKind 8 g_TS_cutToKind_8 := (zq_S (zs_imul (by decide +kernel)) (zq_S (zs_isub (by decide +kernel)) (zq_S (zs_istore_n (k9 := 3) (by decide +kernel) rfl (by decide)) (zq_S (zs_lload_n (k9 := 0) (by decide +kernel) rfl) (zq_S (zs_iload_n (k9 := 3) (by decide +kernel) rfl) (zq_S (zs_lshl (by decide +kernel)) (zq_S (zs_iload_n (k9 := 3) (by decide +kernel) rfl) (zq_S (zs_lshr (by decide +kernel)) (zs_lret (by decide +kernel) rfl)))))))))
def g_TS_cutToKind_0 : z_T := (zq 2 (zi_bipush 64 2) (zq 4 (zi_bipush 8 4) (zi_iload 2 5)))
theorem gS_TS_cutToKind_0 (hw : z_Wd w) : z_S w zY_TS_cutToKind 0 g_TS_cutToKind_0 := (zq_S (zs_bipush (n := 64) (by decide +kernel) (by decide)) (zq_S (zs_bipush (n := 8) (by decide +kernel) (by decide)) (zs_iload_n (k9 := 2) (by decide +kernel) rfl)))
end ZG
end
section
section ZG
variable {w : z_W}
def g_Model_init_4 : z_T := (zq 5 (zi_aload 0 5) (zq 7 (zi_bipush 12 7) (zq 9 (zi_newa 2 1 (fun n => (n, .inl fun _ => 0)) 9) (zq 12 (zi_put 7 1 (.array .boolean) 12) (zq 13 (zi_aload 0 13) (zq 15 (zi_bipush 12 15) (zq 17 (zi_newa 0 4 (fun n => (n, .inl fun _ => 0)) 17) (zq 20 (zi_put 7 2 (.array .int) 20) (zq 21 (zi_aload 0 21) (zq 23 (zi_bipush 12 23) (zq 25 (zi_newa 0 4 (fun n => (n, .inl fun _ => 0)) 25) (zq 28 (zi_put 7 3 (.array .int) 28) (zq 29 (zi_aload 0 29) (zq 31 (zi_bipush 12 31) (zq 33 (zi_newa 0 4 (fun n => (n, .inl fun _ => 0)) 33) (zq 36 (zi_put 7 4 (.array .int) 36) (zq 37 (zi_aload 0 37) (zq 39 (zi_bipush 48 39) (zq 41 (zi_newa 0 4 (fun n => (n, .inl fun _ => 0)) 41) (zq 44 (zi_put 7 5 (.array .int) 44) (zq 45 (zi_aload 0 45) (zq 47 (zi_bipush 48 47) (zq 49 (zi_newa 0 4 (fun n => (n, .inl fun _ => 0)) 49) (zq 52 (zi_put 7 6 (.array .int) 52) (zq 53 (zi_aload 0 53) (zq 54 (zi_iconst 2 54) (zq 56 (zi_newa 0 4 (fun n => (n, .inl fun _ => 0)) 56) (zq 59 (zi_put 7 7 (.array .int) 59) (zq 60 (zi_aload 0 60) (zq 62 (zi_bipush 80 62) (zq 64 (zi_newa 0 4 (fun n => (n, .inl fun _ => 0)) 64) (zq 67 (zi_put 7 8 (.array .int) 67) (zq 68 (zi_aload 0 68) (zq 70 (zi_bipush 80 70) (zq 72 (zi_newa 0 4 (fun n => (n, .inl fun _ => 0)) 72) (zq 75 (zi_put 7 9 (.array .int) 75) (zq 76 (zi_aload 0 76) (zq 79 (zi_sipush 4800 79) (zq 81 (zi_newa 1 8 (fun n => (n, .inr (.inl fun _ => 0))) 81) (zq 84 (zi_put 7 10 (.array .long) 84) (zq 85 (zi_aload 0 85) (zq 88 (zi_sipush 400 88) (zq 90 (zi_newa 0 4 (fun n => (n, .inl fun _ => 0)) 90) (zq 93 (zi_put 7 11 (.array .int) 93) (zq 94 (zi_aload 0 94) (zq 97 (zi_sipush 1000 97) (zq 99 (zi_newa 0 4 (fun n => (n, .inl fun _ => 0)) 99) (zq 102 (zi_put 7 13 (.array .int) 102) (zq 103 (zi_aload 0 103) (zq 104 (zi_iconst 4 104) (zq 106 (zi_newa 0 4 (fun n => (n, .inl fun _ => 0)) 106) (zq 107 (zi_dup 107) (zq 108 (zi_iconst 0 108) (zq 111 (zi_sipush 1000 111) (zq 112 (zi_iast 112) (zq 113 (zi_dup 113) (zq 114 (zi_iconst 1 114) (zq 115 (zi_iconst 5 115) (zq 116 (zi_iast 116) (zq 117 (zi_dup 117) (zq 118 (zi_iconst 2 118) (zq 120 (zi_bipush 40 120) (zq 121 (zi_iast 121) (zq 122 (zi_dup 122) (zq 123 (zi_iconst 3 123) (zq 125 (zi_bipush 10 125) (zq 126 (zi_iast 126) (zq 129 (zi_put 7 14 (.array .int) 129) (zq 130 (zi_aload 0 130) (zq 131 (zi_iconst (-1) 131) (zq 134 (zi_put 7 15 (.int) 134) (zq 135 (zi_aload 0 135) (zq 137 (zi_bipush 6 137) (zq 139 (zi_newa 0 4 (fun n => (n, .inl fun _ => 0)) 139) (zq 142 (zi_put 7 17 (.array .int) 142) (zq 143 (zi_aload 0 143) (zq 145 (zi_bipush 24 145) (zq 147 (zi_newa 0 4 (fun n => (n, .inl fun _ => 0)) 147) (zq 150 (zi_put 7 18 (.array .int) 150) (zq 151 (zi_aload 0 151) (zq 154 (zi_sipush 300 154) (zq 156 (zi_newa 0 4 (fun n => (n, .inl fun _ => 0)) 156) (zq 159 (zi_put 7 19 (.array .int) 159) (zq 160 (zi_aload 0 160) (zq 162 (zi_bipush 48 162) (zq 164 (zi_newa 0 4 (fun n => (n, .inl fun _ => 0)) 164) (zq 167 (zi_put 7 21 (.array .int) 167) (zq 168 (zi_aload 0 168) (zq 170 (zi_bipush 48 170) (zq 172 (zi_newa 0 4 (fun n => (n, .inl fun _ => 0)) 172) (zq 175 (zi_put 7 22 (.array .int) 175) (zq 176 (zi_aload 0 176) (zq 179 (zi_sipush 140 179) (zq 181 (zi_newa 0 4 (fun n => (n, .inl fun _ => 0)) 181) (zq 184 (zi_put 7 26 (.array .int) 184) (zq 185 (zi_aload 0 185) (zq 188 (zi_sipush 140 188) (zq 190 (zi_newa 0 4 (fun n => (n, .inl fun _ => 0)) 190) (zq 193 (zi_put 7 27 (.array .int) 193) (zq 194 (zi_aload 0 194) (zq 197 (zi_sipush 140 197) (zq 199 (zi_newa 0 4 (fun n => (n, .inl fun _ => 0)) 199) (zq 202 (zi_put 7 28 (.array .int) 202) (zq 203 (zi_aload 0 203) (zq 206 (zi_sipush 140 206) (zq 208 (zi_newa 0 4 (fun n => (n, .inl fun _ => 0)) 208) (zq 211 (zi_put 7 29 (.array .int) 211) (zq 212 (zi_aload 0 212) (zq 215 (zi_sipush 140 215) (zq 217 (zi_newa 0 4 (fun n => (n, .inl fun _ => 0)) 217) (zq 220 (zi_put 7 30 (.array .int) 220) (zq 221 (zi_aload 0 221) (zq 224 (zi_sipush 560 224) (zq 226 (zi_newa 0 4 (fun n => (n, .inl fun _ => 0)) 226) (zq 229 (zi_put 7 31 (.array .int) 229) (zq 230 (zi_aload 0 230) (zq 233 (zi_sipush 560 233) (zq 235 (zi_newa 0 4 (fun n => (n, .inl fun _ => 0)) 235) (zq 238 (zi_put 7 32 (.array .int) 238) (zq 239 (zi_aload 0 239) (zq 241 (zi_bipush 41 241) (zq 243 (zi_newa 0 4 (fun n => (n, .inl fun _ => 0)) 243) (zq 246 (zi_put 7 34 (.array .int) 246) (zq 247 (zi_aload 0 247) (zq 249 (zi_bipush 41 249) (zq 251 (zi_newa 0 4 (fun n => (n, .inl fun _ => 0)) 251) (zq 254 (zi_put 7 35 (.array .int) 254) (zq 255 (zi_aload 0 255) (zq 258 (zi_sipush 2460 258) (zq 260 (zi_newa 1 8 (fun n => (n, .inr (.inl fun _ => 0))) 260) (zq 263 (zi_put 7 36 (.array .long) 263) (zq 264 (zi_aload 0 264) (zq 267 (zi_sipush 246 267) (zq 269 (zi_newa 0 4 (fun n => (n, .inl fun _ => 0)) 269) (zq 272 (zi_put 7 37 (.array .int) 272) (zq 273 (zi_aload 0 273) (zq 276 (zi_sipush 205 276) (zq 278 (zi_newa 0 4 (fun n => (n, .inl fun _ => 0)) 278) (zq 281 (zi_put 7 38 (.array .int) 281) (zi_vret))))))))))))))))))))))))))))))))))))))))))))))))))))))))))))))))))))))))))))))))))))))))))))))))))))))))))))))))))))))))))))))))))))))))))))
theorem gS_Model_init_4 (hw : z_Wd w) : z_S w zY_Model_init 4 g_Model_init_4 := (zq_S (zs_aload_n (k9 := 0) (by decide +kernel) rfl) (zq_S (zs_bipush (n := 12) (by decide +kernel) (by decide)) (zq_S (zs_newz hw.1 (by decide +kernel) (zw_65 hw)) (zq_S (zs_put hw.1 (by decide +kernel) (zp_Model_7 hw) (fun _ => rfl)) (zq_S (zs_aload_n (k9 := 0) (by decide +kernel) rfl) (zq_S (zs_bipush (n := 12) (by decide +kernel) (by decide)) (zq_S (zs_newi hw.1 (by decide +kernel) (zw_66 hw)) (zq_S (zs_put hw.1 (by decide +kernel) (zp_Model_13 hw) (fun _ => rfl)) (zq_S (zs_aload_n (k9 := 0) (by decide +kernel) rfl) (zq_S (zs_bipush (n := 12) (by decide +kernel) (by decide)) (zq_S (zs_newi hw.1 (by decide +kernel) (zw_66 hw)) (zq_S (zs_put hw.1 (by decide +kernel) (zp_Model_17 hw) (fun _ => rfl)) (zq_S (zs_aload_n (k9 := 0) (by decide +kernel) rfl) (zq_S (zs_bipush (n := 12) (by decide +kernel) (by decide)) (zq_S (zs_newi hw.1 (by decide +kernel) (zw_66 hw)) (zq_S (zs_put hw.1 (by decide +kernel) (zp_Model_20 hw) (fun _ => rfl)) (zq_S (zs_aload_n (k9 := 0) (by decide +kernel) rfl) (zq_S (zs_bipush (n := 48) (by decide +kernel) (by decide)) (zq_S (zs_newi hw.1 (by decide +kernel) (zw_66 hw)) (zq_S (zs_put hw.1 (by decide +kernel) (zp_Model_23 hw) (fun _ => rfl)) (zq_S (zs_aload_n (k9 := 0) (by decide +kernel) rfl) (zq_S (zs_bipush (n := 48) (by decide +kernel) (by decide)) (zq_S (zs_newi hw.1 (by decide +kernel) (zw_66 hw)) (zq_S (zs_put hw.1 (by decide +kernel) (zp_Model_26 hw) (fun _ => rfl)) (zq_S (zs_aload_n (k9 := 0) (by decide +kernel) rfl) (zq_S (zs_iconst (n := 2) (by decide +kernel) (by decide)) (zq_S (zs_newi hw.1 (by decide +kernel) (zw_66 hw)) (zq_S (zs_put hw.1 (by decide +kernel) (zp_Model_29 hw) (fun _ => rfl)) (zq_S (zs_aload_n (k9 := 0) (by decide +kernel) rfl) (zq_S (zs_bipush (n := 80) (by decide +kernel) (by decide)) (zq_S (zs_newi hw.1 (by decide +kernel) (zw_66 hw)) (zq_S (zs_put hw.1 (by decide +kernel) (zp_Model_32 hw) (fun _ => rfl)) (zq_S (zs_aload_n (k9 := 0) (by decide +kernel) rfl) (zq_S (zs_bipush (n := 80) (by decide +kernel) (by decide)) (zq_S (zs_newi hw.1 (by decide +kernel) (zw_66 hw)) (zq_S (zs_put hw.1 (by decide +kernel) (zp_Model_35 hw) (fun _ => rfl)) (zq_S (zs_aload_n (k9 := 0) (by decide +kernel) rfl) (zq_S (zs_sipush (n := 4800) (by decide +kernel) (by decide)) (zq_S (zs_newl hw.1 (by decide +kernel) (zw_96 hw)) (zq_S (zs_put hw.1 (by decide +kernel) (zp_Model_38 hw) (fun _ => rfl)) (zq_S (zs_aload_n (k9 := 0) (by decide +kernel) rfl) (zq_S (zs_sipush (n := 400) (by decide +kernel) (by decide)) (zq_S (zs_newi hw.1 (by decide +kernel) (zw_66 hw)) (zq_S (zs_put hw.1 (by decide +kernel) (zp_Model_42 hw) (fun _ => rfl)) (zq_S (zs_aload_n (k9 := 0) (by decide +kernel) rfl) (zq_S (zs_sipush (n := 1000) (by decide +kernel) (by decide)) (zq_S (zs_newi hw.1 (by decide +kernel) (zw_66 hw)) (zq_S (zs_put hw.1 (by decide +kernel) (zp_Model_45 hw) (fun _ => rfl)) (zq_S (zs_aload_n (k9 := 0) (by decide +kernel) rfl) (zq_S (zs_iconst (n := 4) (by decide +kernel) (by decide)) (zq_S (zs_newi hw.1 (by decide +kernel) (zw_66 hw)) (zq_S (zs_dup (by decide +kernel)) (zq_S (zs_iconst (n := 0) (by decide +kernel) (by decide)) (zq_S (zs_sipush (n := 1000) (by decide +kernel) (by decide)) (zq_S (zs_iast hw.1 (by decide +kernel)) (zq_S (zs_dup (by decide +kernel)) (zq_S (zs_iconst (n := 1) (by decide +kernel) (by decide)) (zq_S (zs_iconst (n := 5) (by decide +kernel) (by decide)) (zq_S (zs_iast hw.1 (by decide +kernel)) (zq_S (zs_dup (by decide +kernel)) (zq_S (zs_iconst (n := 2) (by decide +kernel) (by decide)) (zq_S (zs_bipush (n := 40) (by decide +kernel) (by decide)) (zq_S (zs_iast hw.1 (by decide +kernel)) (zq_S (zs_dup (by decide +kernel)) (zq_S (zs_iconst (n := 3) (by decide +kernel) (by decide)) (zq_S (zs_bipush (n := 10) (by decide +kernel) (by decide)) (zq_S (zs_iast hw.1 (by decide +kernel)) (zq_S (zs_put hw.1 (by decide +kernel) (zp_Model_48 hw) (fun _ => rfl)) (zq_S (zs_aload_n (k9 := 0) (by decide +kernel) rfl) (zq_S (zs_iconst (n := (-1)) (by decide +kernel) (by decide)) (zq_S (zs_put hw.1 (by decide +kernel) (zp_Model_51 hw) (fun h => by cases h)) (zq_S (zs_aload_n (k9 := 0) (by decide +kernel) rfl) (zq_S (zs_bipush (n := 6) (by decide +kernel) (by decide)) (zq_S (zs_newi hw.1 (by decide +kernel) (zw_66 hw)) (zq_S (zs_put hw.1 (by decide +kernel) (zp_Model_55 hw) (fun _ => rfl)) (zq_S (zs_aload_n (k9 := 0) (by decide +kernel) rfl) (zq_S (zs_bipush (n := 24) (by decide +kernel) (by decide)) (zq_S (zs_newi hw.1 (by decide +kernel) (zw_66 hw)) (zq_S (zs_put hw.1 (by decide +kernel) (zp_Model_58 hw) (fun _ => rfl)) (zq_S (zs_aload_n (k9 := 0) (by decide +kernel) rfl) (zq_S (zs_sipush (n := 300) (by decide +kernel) (by decide)) (zq_S (zs_newi hw.1 (by decide +kernel) (zw_66 hw)) (zq_S (zs_put hw.1 (by decide +kernel) (zp_Model_61 hw) (fun _ => rfl)) (zq_S (zs_aload_n (k9 := 0) (by decide +kernel) rfl) (zq_S (zs_bipush (n := 48) (by decide +kernel) (by decide)) (zq_S (zs_newi hw.1 (by decide +kernel) (zw_66 hw)) (zq_S (zs_put hw.1 (by decide +kernel) (zp_Model_64 hw) (fun _ => rfl)) (zq_S (zs_aload_n (k9 := 0) (by decide +kernel) rfl) (zq_S (zs_bipush (n := 48) (by decide +kernel) (by decide)) (zq_S (zs_newi hw.1 (by decide +kernel) (zw_66 hw)) (zq_S (zs_put hw.1 (by decide +kernel) (zp_Model_67 hw) (fun _ => rfl)) (zq_S (zs_aload_n (k9 := 0) (by decide +kernel) rfl) (zq_S (zs_sipush (n := 140) (by decide +kernel) (by decide)) (zq_S (zs_newi hw.1 (by decide +kernel) (zw_66 hw)) (zq_S (zs_put hw.1 (by decide +kernel) (zp_Model_70 hw) (fun _ => rfl)) (zq_S (zs_aload_n (k9 := 0) (by decide +kernel) rfl) (zq_S (zs_sipush (n := 140) (by decide +kernel) (by decide)) (zq_S (zs_newi hw.1 (by decide +kernel) (zw_66 hw)) (zq_S (zs_put hw.1 (by decide +kernel) (zp_Model_73 hw) (fun _ => rfl)) (zq_S (zs_aload_n (k9 := 0) (by decide +kernel) rfl) (zq_S (zs_sipush (n := 140) (by decide +kernel) (by decide)) (zq_S (zs_newi hw.1 (by decide +kernel) (zw_66 hw)) (zq_S (zs_put hw.1 (by decide +kernel) (zp_Model_76 hw) (fun _ => rfl)) (zq_S (zs_aload_n (k9 := 0) (by decide +kernel) rfl) (zq_S (zs_sipush (n := 140) (by decide +kernel) (by decide)) (zq_S (zs_newi hw.1 (by decide +kernel) (zw_66 hw)) (zq_S (zs_put hw.1 (by decide +kernel) (zp_Model_79 hw) (fun _ => rfl)) (zq_S (zs_aload_n (k9 := 0) (by decide +kernel) rfl) (zq_S (zs_sipush (n := 140) (by decide +kernel) (by decide)) (zq_S (zs_newi hw.1 (by decide +kernel) (zw_66 hw)) (zq_S (zs_put hw.1 (by decide +kernel) (zp_Model_82 hw) (fun _ => rfl)) (zq_S (zs_aload_n (k9 := 0) (by decide +kernel) rfl) (zq_S (zs_sipush (n := 560) (by decide +kernel) (by decide)) (zq_S (zs_newi hw.1 (by decide +kernel) (zw_66 hw)) (zq_S (zs_put hw.1 (by decide +kernel) (zp_Model_85 hw) (fun _ => rfl)) (zq_S (zs_aload_n (k9 := 0) (by decide +kernel) rfl) (zq_S (zs_sipush (n := 560) (by decide +kernel) (by decide)) (zq_S (zs_newi hw.1 (by decide +kernel) (zw_66 hw)) (zq_S (zs_put hw.1 (by decide +kernel) (zp_Model_88 hw) (fun _ => rfl)) (zq_S (zs_aload_n (k9 := 0) (by decide +kernel) rfl) (zq_S (zs_bipush (n := 41) (by decide +kernel) (by decide)) (zq_S (zs_newi hw.1 (by decide +kernel) (zw_66 hw)) (zq_S (zs_put hw.1 (by decide +kernel) (zp_Model_91 hw) (fun _ => rfl)) (zq_S (zs_aload_n (k9 := 0) (by decide +kernel) rfl) (zq_S (zs_bipush (n := 41) (by decide +kernel) (by decide)) (zq_S (zs_newi hw.1 (by decide +kernel) (zw_66 hw)) (zq_S (zs_put hw.1 (by decide +kernel) (zp_Model_94 hw) (fun _ => rfl)) (zq_S (zs_aload_n (k9 := 0) (by decide +kernel) rfl) (zq_S (zs_sipush (n := 2460) (by decide +kernel) (by decide)) (zq_S (zs_newl hw.1 (by decide +kernel) (zw_96 hw)) (zq_S (zs_put hw.1 (by decide +kernel) (zp_Model_97 hw) (fun _ => rfl)) (zq_S (zs_aload_n (k9 := 0) (by decide +kernel) rfl) (zq_S (zs_sipush (n := 246) (by decide +kernel) (by decide)) (zq_S (zs_newi hw.1 (by decide +kernel) (zw_66 hw)) (zq_S (zs_put hw.1 (by decide +kernel) (zp_Model_100 hw) (fun _ => rfl)) (zq_S (zs_aload_n (k9 := 0) (by decide +kernel) rfl) (zq_S (zs_sipush (n := 205) (by decide +kernel) (by decide)) (zq_S (zs_newi hw.1 (by decide +kernel) (zw_66 hw)) (zq_S (zs_put hw.1 (by decide +kernel) (zp_Model_103 hw) (fun _ => rfl)) (zs_vret (by decide +kernel) rfl))))))))))))))))))))))))))))))))))))))))))))))))))))))))))))))))))))))))))))))))))))))))))))))))))))))))))))))))))))))))))))))))))))))))))))
def g_Model_init_0 : z_T := (zi_aload 0 1)
theorem gS_Model_init_0 (hw : z_Wd w) : z_S w zY_Model_init 0 g_Model_init_0 := (zs_aload_n (k9 := 0) (by decide +kernel) rfl)
def g_Model_thrown_0 : z_T := (zq 1 (zi_aload 0 1) (zq 4 (zi_get 7 0 4) (zi_iret)))
theorem gS_Model_thrown_0 (hw : z_Wd w) : z_S w zY_Model_thrown 0 g_Model_thrown_0 := (zq_S (zs_aload_n (k9 := 0) (by decide +kernel) rfl) (zq_S (zs_get hw.1 (by decide +kernel) (zf_Model_106 hw)) (zs_iret (by decide +kernel) rfl)))
def g_Model_in_15 : z_T := (zi_zret)
theorem gS_Model_in_15 (hw : z_Wd w) : z_S w zY_Model_in 15 g_Model_in_15 := (zs_zret (by decide +kernel) rfl)
def g_Model_in_14 : z_T := (zq 15 (zi_iconst 0 15) g_Model_in_15)
theorem gS_Model_in_14 (hw : z_Wd w) : z_S w zY_Model_in 14 g_Model_in_14 := (zq_S (zs_iconst (n := 0) (by decide +kernel) (by decide)) (gS_Model_in_15 hw))
def g_Model_in_0 : z_T := (zq 1 (zi_iload 0 1) (zq 2 (zi_iload 1 2) (zb 5 14 (zi_icmp_lt 14 5) (zq 6 (zi_iload 0 6) (zq 7 (zi_iload 2 7) (zb 10 14 (zi_icmp_gt 14 10) (zq 11 (zi_iconst 1 11) (zq 15 (zi_goto 15) g_Model_in_15)) g_Model_in_14))) g_Model_in_14)))
theorem gS_Model_in_0 (hw : z_Wd w) : z_S w zY_Model_in 0 g_Model_in_0 := (zq_S (zs_iload_n (k9 := 0) (by decide +kernel) rfl) (zq_S (zs_iload_n (k9 := 1) (by decide +kernel) rfl) (zb_S (zs_icmp_lt (off := 12) (by decide +kernel) (by decide)) (zq_S (zs_iload_n (k9 := 0) (by decide +kernel) rfl) (zq_S (zs_iload_n (k9 := 2) (by decide +kernel) rfl) (zb_S (zs_icmp_gt (off := 7) (by decide +kernel) (by decide)) (zq_S (zs_iconst (n := 1) (by decide +kernel) (by decide)) (zq_S (zs_goto (off := 4) (by decide +kernel) (by decide)) (gS_Model_in_15 hw))) (gS_Model_in_14 hw)))) (gS_Model_in_14 hw))))
def g_Model_shape_110 : z_T := (zq 111 (zi_iast 111) (zq 112 (zi_iconst 1 112) (zi_zret)))
theorem gS_Model_shape_110 (hw : z_Wd w) : z_S w zY_Model_shape 110 g_Model_shape_110 := (zq_S (zs_iast hw.1 (by decide +kernel)) (zq_S (zs_iconst (n := 1) (by decide +kernel) (by decide)) (zs_zret (by decide +kernel) rfl)))
def g_Model_shape_104 : z_T := (zq 105 (zi_aload 0 105) (zq 108 (zi_get 7 7 108) (zq 109 (zi_iconst 1 109) (zq 110 (zi_iald 110) g_Model_shape_110))))
theorem gS_Model_shape_104 (hw : z_Wd w) : z_S w zY_Model_shape 104 g_Model_shape_104 := (zq_S (zs_aload_n (k9 := 0) (by decide +kernel) rfl) (zq_S (zs_get hw.1 (by decide +kernel) (zf_Model_29 hw)) (zq_S (zs_iconst (n := 1) (by decide +kernel) (by decide)) (zq_S (zs_iald hw.1 (by decide +kernel)) (gS_Model_shape_110 hw)))))
def g_Model_shape_49 : z_T := (zq 51 (zi_bipush 6 51) (zq 52 (zi_iload 1 52) (zq 53 (zi_imul 53) (zq 54 (zi_iload 2 54) (zq 55 (zi_iadd 55) (zq 57 (zi_istore 5 57) (zq 58 (zi_aload 0 58) (zq 61 (zi_get 7 1 61) (zq 63 (zi_iload 5 63) (zq 64 (zi_iconst 1 64) (zq 65 (zi_zast 65) (zq 66 (zi_aload 0 66) (zq 69 (zi_get 7 2 69) (zq 71 (zi_iload 5 71) (zq 72 (zi_iload 3 72) (zq 73 (zi_iast 73) (zq 74 (zi_aload 0 74) (zq 77 (zi_get 7 3 77) (zq 79 (zi_iload 5 79) (zq 81 (zi_iload 4 81) (zq 82 (zi_iast 82) (zq 83 (zi_aload 0 83) (zq 86 (zi_get 7 4 86) (zq 88 (zi_iload 5 88) (zq 89 (zi_iconst 0 89) (zq 90 (zi_iast 90) (zq 91 (zi_aload 0 91) (zq 94 (zi_get 7 7 94) (zq 95 (zi_iconst 1 95) (zq 96 (zi_iload 1 96) (zq 97 (zi_iconst 1 97) (zb 100 104 (zi_icmp_ne 104 100) (zq 101 (zi_iconst 0 101) (zq 110 (zi_goto 110) g_Model_shape_110)) g_Model_shape_104))))))))))))))))))))))))))))))))
theorem gS_Model_shape_49 (hw : z_Wd w) : z_S w zY_Model_shape 49 g_Model_shape_49 := (zq_S (zs_bipush (n := 6) (by decide +kernel) (by decide)) (zq_S (zs_iload_n (k9 := 1) (by decide +kernel) rfl) (zq_S (zs_imul (by decide +kernel)) (zq_S (zs_iload_n (k9 := 2) (by decide +kernel) rfl) (zq_S (zs_iadd (by decide +kernel)) (zq_S (zs_istore (by decide +kernel) (by decide)) (zq_S (zs_aload_n (k9 := 0) (by decide +kernel) rfl) (zq_S (zs_get hw.1 (by decide +kernel) (zf_Model_7 hw)) (zq_S (zs_iload (by decide +kernel)) (zq_S (zs_iconst (n := 1) (by decide +kernel) (by decide)) (zq_S (zs_zast hw.1 (by decide +kernel)) (zq_S (zs_aload_n (k9 := 0) (by decide +kernel) rfl) (zq_S (zs_get hw.1 (by decide +kernel) (zf_Model_13 hw)) (zq_S (zs_iload (by decide +kernel)) (zq_S (zs_iload_n (k9 := 3) (by decide +kernel) rfl) (zq_S (zs_iast hw.1 (by decide +kernel)) (zq_S (zs_aload_n (k9 := 0) (by decide +kernel) rfl) (zq_S (zs_get hw.1 (by decide +kernel) (zf_Model_17 hw)) (zq_S (zs_iload (by decide +kernel)) (zq_S (zs_iload (by decide +kernel)) (zq_S (zs_iast hw.1 (by decide +kernel)) (zq_S (zs_aload_n (k9 := 0) (by decide +kernel) rfl) (zq_S (zs_get hw.1 (by decide +kernel) (zf_Model_20 hw)) (zq_S (zs_iload (by decide +kernel)) (zq_S (zs_iconst (n := 0) (by decide +kernel) (by decide)) (zq_S (zs_iast hw.1 (by decide +kernel)) (zq_S (zs_aload_n (k9 := 0) (by decide +kernel) rfl) (zq_S (zs_get hw.1 (by decide +kernel) (zf_Model_29 hw)) (zq_S (zs_iconst (n := 1) (by decide +kernel) (by decide)) (zq_S (zs_iload_n (k9 := 1) (by decide +kernel) rfl) (zq_S (zs_iconst (n := 1) (by decide +kernel) (by decide)) (zb_S (zs_icmp_ne (off := 7) (by decide +kernel) (by decide)) (zq_S (zs_iconst (n := 0) (by decide +kernel) (by decide)) (zq_S (zs_goto (off := 9) (by decide +kernel) (by decide)) (gS_Model_shape_110 hw))) (gS_Model_shape_104 hw)))))))))))))))))))))))))))))))))
def g_Model_shape_47 : z_T := (zq 48 (zi_iconst 0 48) (zi_zret))
theorem gS_Model_shape_47 (hw : z_Wd w) : z_S w zY_Model_shape 47 g_Model_shape_47 := (zq_S (zs_iconst (n := 0) (by decide +kernel) (by decide)) (zs_zret (by decide +kernel) rfl))
def g_Model_shape_31 : z_T := (zb 34 47 (zi_if_eq 47 34) (zq 35 (zi_iload 1 35) (zq 38 (zi_if_ne 49 38) (zq 39 (zi_aload 0 39) (zq 42 (zi_get 7 7 42) (zq 43 (zi_iconst 0 43) (zq 44 (zi_iald 44) (zq 47 (zi_if_le 49 47) g_Model_shape_47))))))) g_Model_shape_47)
theorem gS_Model_shape_31 (hw : z_Wd w) : z_S w zY_Model_shape 31 g_Model_shape_31 := (zb_S (zs_if_eq (off := 16) (by decide +kernel) (by decide)) (zq_S (zs_iload_n (k9 := 1) (by decide +kernel) rfl) (zq_S (zs_if_ne (off := 14) (by decide +kernel) (by decide)) (zq_S (zs_aload_n (k9 := 0) (by decide +kernel) rfl) (zq_S (zs_get hw.1 (by decide +kernel) (zf_Model_29 hw)) (zq_S (zs_iconst (n := 0) (by decide +kernel) (by decide)) (zq_S (zs_iald hw.1 (by decide +kernel)) (zq_S (zs_if_le (off := 5) (by decide +kernel) (by decide)) (gS_Model_shape_47 hw)))))))) (gS_Model_shape_47 hw))
def g_Model_shape_20 : z_T := (zb 23 47 (zi_if_eq 47 23) (zq 24 (zi_iload 3 24) (zq 25 (zi_iconst (-1) 25) (zq 26 (zi_iload 2 26) (zq 27 (zi_iconst 1 27) (zi_isub 28))))) g_Model_shape_47)
theorem gS_Model_shape_20 (hw : z_Wd w) : z_S w zY_Model_shape 20 g_Model_shape_20 := (zb_S (zs_if_eq (off := 27) (by decide +kernel) (by decide)) (zq_S (zs_iload_n (k9 := 3) (by decide +kernel) rfl) (zq_S (zs_iconst (n := (-1)) (by decide +kernel) (by decide)) (zq_S (zs_iload_n (k9 := 2) (by decide +kernel) rfl) (zq_S (zs_iconst (n := 1) (by decide +kernel) (by decide)) (zs_isub (by decide +kernel)))))) (gS_Model_shape_47 hw))
def g_Model_shape_11 : z_T := (zb 14 47 (zi_if_eq 47 14) (zq 15 (zi_iload 2 15) (zq 16 (zi_iconst 0 16) (zi_iconst 5 17))) g_Model_shape_47)
theorem gS_Model_shape_11 (hw : z_Wd w) : z_S w zY_Model_shape 11 g_Model_shape_11 := (zb_S (zs_if_eq (off := 36) (by decide +kernel) (by decide)) (zq_S (zs_iload_n (k9 := 2) (by decide +kernel) rfl) (zq_S (zs_iconst (n := 0) (by decide +kernel) (by decide)) (zs_iconst (n := 5) (by decide +kernel) (by decide)))) (gS_Model_shape_47 hw))
def g_Model_shape_0 : z_T := (zq 1 (zi_aload 0 1) (zq 2 (zi_iconst 0 2) (zq 5 (zi_put 7 0 (.int) 5) (zq 6 (zi_iload 1 6) (zq 7 (zi_iconst 0 7) (zi_iconst 1 8))))))
theorem gS_Model_shape_0 (hw : z_Wd w) : z_S w zY_Model_shape 0 g_Model_shape_0 := (zq_S (zs_aload_n (k9 := 0) (by decide +kernel) rfl) (zq_S (zs_iconst (n := 0) (by decide +kernel) (by decide)) (zq_S (zs_put hw.1 (by decide +kernel) (zp_Model_106 hw) (fun h => by cases h)) (zq_S (zs_iload_n (k9 := 1) (by decide +kernel) rfl) (zq_S (zs_iconst (n := 0) (by decide +kernel) (by decide)) (zs_iconst (n := 1) (by decide +kernel) (by decide)))))))
def g_Model_fieldOf_47 : z_T := (zq 48 (zi_iconst (-1) 48) (zi_iret))
theorem gS_Model_fieldOf_47 (hw : z_Wd w) : z_S w zY_Model_fieldOf 47 g_Model_fieldOf_47 := (zq_S (zs_iconst (n := (-1)) (by decide +kernel) (by decide)) (zs_iret (by decide +kernel) rfl))
def g_Model_fieldOf_41 : z_T := (zq 44 (zi_iinc 3 1 44) (zi_goto 2))
theorem gS_Model_fieldOf_41 (hw : z_Wd w) : z_S w zY_Model_fieldOf 41 g_Model_fieldOf_41 := (zq_S (zs_iinc (n := 1) (by decide +kernel) (by decide) (by decide)) (zs_goto (off := -42) (by decide +kernel) (by decide)))
def g_Model_fieldOf_2 : z_T := (zq 3 (zi_iload 3 3) (zq 4 (zi_aload 0 4) (zq 7 (zi_get 7 4 7) (zq 8 (zi_iload 1 8) (zq 9 (zi_iald 9) (zb 12 47 (zi_icmp_ge 47 12) (zq 13 (zi_aload 0 13) (zq 16 (zi_get 7 1 16) (zq 17 (zi_iload 1 17) (zq 18 (zi_zald 18) (zb 21 47 (zi_if_eq 47 21) (zq 22 (zi_aload 0 22) (zq 25 (zi_get 7 5 25) (zq 26 (zi_iconst 4 26) (zq 27 (zi_iload 1 27) (zq 28 (zi_imul 28) (zq 29 (zi_iload 3 29) (zq 30 (zi_iadd 30) (zq 31 (zi_iald 31) (zq 32 (zi_iload 2 32) (zb 35 41 (zi_icmp_ne 41 35) (zq 36 (zi_iconst 4 36) (zq 37 (zi_iload 1 37) (zq 38 (zi_imul 38) (zq 39 (zi_iload 3 39) (zq 40 (zi_iadd 40) (zi_iret)))))) g_Model_fieldOf_41)))))))))) g_Model_fieldOf_47))))) g_Model_fieldOf_47))))))
theorem gS_Model_fieldOf_2 (hw : z_Wd w) : z_S w zY_Model_fieldOf 2 g_Model_fieldOf_2 := (zq_S (zs_iload_n (k9 := 3) (by decide +kernel) rfl) (zq_S (zs_aload_n (k9 := 0) (by decide +kernel) rfl) (zq_S (zs_get hw.1 (by decide +kernel) (zf_Model_20 hw)) (zq_S (zs_iload_n (k9 := 1) (by decide +kernel) rfl) (zq_S (zs_iald hw.1 (by decide +kernel)) (zb_S (zs_icmp_ge (off := 38) (by decide +kernel) (by decide)) (zq_S (zs_aload_n (k9 := 0) (by decide +kernel) rfl) (zq_S (zs_get hw.1 (by decide +kernel) (zf_Model_7 hw)) (zq_S (zs_iload_n (k9 := 1) (by decide +kernel) rfl) (zq_S (zs_zald hw.1 (by decide +kernel)) (zb_S (zs_if_eq (off := 29) (by decide +kernel) (by decide)) (zq_S (zs_aload_n (k9 := 0) (by decide +kernel) rfl) (zq_S (zs_get hw.1 (by decide +kernel) (zf_Model_23 hw)) (zq_S (zs_iconst (n := 4) (by decide +kernel) (by decide)) (zq_S (zs_iload_n (k9 := 1) (by decide +kernel) rfl) (zq_S (zs_imul (by decide +kernel)) (zq_S (zs_iload_n (k9 := 3) (by decide +kernel) rfl) (zq_S (zs_iadd (by decide +kernel)) (zq_S (zs_iald hw.1 (by decide +kernel)) (zq_S (zs_iload_n (k9 := 2) (by decide +kernel) rfl) (zb_S (zs_icmp_ne (off := 9) (by decide +kernel) (by decide)) (zq_S (zs_iconst (n := 4) (by decide +kernel) (by decide)) (zq_S (zs_iload_n (k9 := 1) (by decide +kernel) rfl) (zq_S (zs_imul (by decide +kernel)) (zq_S (zs_iload_n (k9 := 3) (by decide +kernel) rfl) (zq_S (zs_iadd (by decide +kernel)) (zs_iret (by decide +kernel) rfl)))))) (gS_Model_fieldOf_41 hw))))))))))) (gS_Model_fieldOf_47 hw)))))) (gS_Model_fieldOf_47 hw)))))))
def g_Model_fieldOf_0 : z_T := (zq 1 (zi_iconst 0 1) (zi_istore 3 2))
theorem gS_Model_fieldOf_0 (hw : z_Wd w) : z_S w zY_Model_fieldOf 0 g_Model_fieldOf_0 := (zq_S (zs_iconst (n := 0) (by decide +kernel) (by decide)) (zs_istore_n (k9 := 3) (by decide +kernel) rfl (by decide)))
def g_Model_field_269 : z_T := (zq 270 (zi_iast 270) (zq 271 (zi_iconst 1 271) (zi_zret)))
theorem gS_Model_field_269 (hw : z_Wd w) : z_S w zY_Model_field 269 g_Model_field_269 := (zq_S (zs_iast hw.1 (by decide +kernel)) (zq_S (zs_iconst (n := 1) (by decide +kernel) (by decide)) (zs_zret (by decide +kernel) rfl)))
def g_Model_field_263 : z_T := (zq 264 (zi_aload 0 264) (zq 267 (zi_get 7 7 267) (zq 268 (zi_iconst 1 268) (zq 269 (zi_iald 269) g_Model_field_269))))
theorem gS_Model_field_263 (hw : z_Wd w) : z_S w zY_Model_field 263 g_Model_field_263 := (zq_S (zs_aload_n (k9 := 0) (by decide +kernel) rfl) (zq_S (zs_get hw.1 (by decide +kernel) (zf_Model_29 hw)) (zq_S (zs_iconst (n := 1) (by decide +kernel) (by decide)) (zq_S (zs_iald hw.1 (by decide +kernel)) (gS_Model_field_269 hw)))))
def g_Model_field_211 : z_T := (zq 212 (zi_aload 0 212) (zq 215 (zi_get 7 5 215) (zq 216 (zi_iconst 4 216) (zq 218 (zi_iload 5 218) (zq 219 (zi_imul 219) (zq 221 (zi_iload 6 221) (zq 222 (zi_iadd 222) (zq 223 (zi_iload 3 223) (zq 224 (zi_iast 224) (zq 225 (zi_aload 0 225) (zq 228 (zi_get 7 6 228) (zq 229 (zi_iconst 4 229) (zq 231 (zi_iload 5 231) (zq 232 (zi_imul 232) (zq 234 (zi_iload 6 234) (zq 235 (zi_iadd 235) (zq 237 (zi_iload 4 237) (zq 238 (zi_iast 238) (zq 239 (zi_aload 0 239) (zq 242 (zi_get 7 4 242) (zq 244 (zi_iload 5 244) (zq 245 (zi_dup2 245) (zq 246 (zi_iald 246) (zq 247 (zi_iconst 1 247) (zq 248 (zi_iadd 248) (zq 249 (zi_iast 249) (zq 250 (zi_aload 0 250) (zq 253 (zi_get 7 7 253) (zq 254 (zi_iconst 1 254) (zq 255 (zi_iload 1 255) (zq 256 (zi_iconst 1 256) (zb 259 263 (zi_icmp_ne 263 259) (zq 260 (zi_iconst 0 260) (zq 269 (zi_goto 269) g_Model_field_269)) g_Model_field_263))))))))))))))))))))))))))))))))
theorem gS_Model_field_211 (hw : z_Wd w) : z_S w zY_Model_field 211 g_Model_field_211 := (zq_S (zs_aload_n (k9 := 0) (by decide +kernel) rfl) (zq_S (zs_get hw.1 (by decide +kernel) (zf_Model_23 hw)) (zq_S (zs_iconst (n := 4) (by decide +kernel) (by decide)) (zq_S (zs_iload (by decide +kernel)) (zq_S (zs_imul (by decide +kernel)) (zq_S (zs_iload (by decide +kernel)) (zq_S (zs_iadd (by decide +kernel)) (zq_S (zs_iload_n (k9 := 3) (by decide +kernel) rfl) (zq_S (zs_iast hw.1 (by decide +kernel)) (zq_S (zs_aload_n (k9 := 0) (by decide +kernel) rfl) (zq_S (zs_get hw.1 (by decide +kernel) (zf_Model_26 hw)) (zq_S (zs_iconst (n := 4) (by decide +kernel) (by decide)) (zq_S (zs_iload (by decide +kernel)) (zq_S (zs_imul (by decide +kernel)) (zq_S (zs_iload (by decide +kernel)) (zq_S (zs_iadd (by decide +kernel)) (zq_S (zs_iload (by decide +kernel)) (zq_S (zs_iast hw.1 (by decide +kernel)) (zq_S (zs_aload_n (k9 := 0) (by decide +kernel) rfl) (zq_S (zs_get hw.1 (by decide +kernel) (zf_Model_20 hw)) (zq_S (zs_iload (by decide +kernel)) (zq_S (zs_dup2 (by decide +kernel)) (zq_S (zs_iald hw.1 (by decide +kernel)) (zq_S (zs_iconst (n := 1) (by decide +kernel) (by decide)) (zq_S (zs_iadd (by decide +kernel)) (zq_S (zs_iast hw.1 (by decide +kernel)) (zq_S (zs_aload_n (k9 := 0) (by decide +kernel) rfl) (zq_S (zs_get hw.1 (by decide +kernel) (zf_Model_29 hw)) (zq_S (zs_iconst (n := 1) (by decide +kernel) (by decide)) (zq_S (zs_iload_n (k9 := 1) (by decide +kernel) rfl) (zq_S (zs_iconst (n := 1) (by decide +kernel) (by decide)) (zb_S (zs_icmp_ne (off := 7) (by decide +kernel) (by decide)) (zq_S (zs_iconst (n := 0) (by decide +kernel) (by decide)) (zq_S (zs_goto (off := 9) (by decide +kernel) (by decide)) (gS_Model_field_269 hw))) (gS_Model_field_263 hw)))))))))))))))))))))))))))))))))
def g_Model_field_150 : z_T := (zq 153 (zi_icmp_le 211 153) (zq 154 (zi_aload 0 154) (zq 157 (zi_get 7 5 157) (zq 158 (zi_iconst 4 158) (zq 160 (zi_iload 5 160) (zq 161 (zi_imul 161) (zq 163 (zi_iload 6 163) (zq 164 (zi_iadd 164) (zq 165 (zi_aload 0 165) (zq 168 (zi_get 7 5 168) (zq 169 (zi_iconst 4 169) (zq 171 (zi_iload 5 171) (zq 172 (zi_imul 172) (zq 174 (zi_iload 6 174) (zq 175 (zi_iadd 175) (zq 176 (zi_iconst 1 176) (zq 177 (zi_isub 177) (zq 178 (zi_iald 178) (zq 179 (zi_iast 179) (zq 180 (zi_aload 0 180) (zq 183 (zi_get 7 6 183) (zq 184 (zi_iconst 4 184) (zq 186 (zi_iload 5 186) (zq 187 (zi_imul 187) (zq 189 (zi_iload 6 189) (zq 190 (zi_iadd 190) (zq 191 (zi_aload 0 191) (zq 194 (zi_get 7 6 194) (zq 195 (zi_iconst 4 195) (zq 197 (zi_iload 5 197) (zq 198 (zi_imul 198) (zq 200 (zi_iload 6 200) (zq 201 (zi_iadd 201) (zq 202 (zi_iconst 1 202) (zq 203 (zi_isub 203) (zq 204 (zi_iald 204) (zq 205 (zi_iast 205) (zq 208 (zi_iinc 6 (-1) 208) (zi_goto 108)))))))))))))))))))))))))))))))))))))))
theorem gS_Model_field_150 (hw : z_Wd w) : z_S w zY_Model_field 150 g_Model_field_150 := (zq_S (zs_icmp_le (off := 61) (by decide +kernel) (by decide)) (zq_S (zs_aload_n (k9 := 0) (by decide +kernel) rfl) (zq_S (zs_get hw.1 (by decide +kernel) (zf_Model_23 hw)) (zq_S (zs_iconst (n := 4) (by decide +kernel) (by decide)) (zq_S (zs_iload (by decide +kernel)) (zq_S (zs_imul (by decide +kernel)) (zq_S (zs_iload (by decide +kernel)) (zq_S (zs_iadd (by decide +kernel)) (zq_S (zs_aload_n (k9 := 0) (by decide +kernel) rfl) (zq_S (zs_get hw.1 (by decide +kernel) (zf_Model_23 hw)) (zq_S (zs_iconst (n := 4) (by decide +kernel) (by decide)) (zq_S (zs_iload (by decide +kernel)) (zq_S (zs_imul (by decide +kernel)) (zq_S (zs_iload (by decide +kernel)) (zq_S (zs_iadd (by decide +kernel)) (zq_S (zs_iconst (n := 1) (by decide +kernel) (by decide)) (zq_S (zs_isub (by decide +kernel)) (zq_S (zs_iald hw.1 (by decide +kernel)) (zq_S (zs_iast hw.1 (by decide +kernel)) (zq_S (zs_aload_n (k9 := 0) (by decide +kernel) rfl) (zq_S (zs_get hw.1 (by decide +kernel) (zf_Model_26 hw)) (zq_S (zs_iconst (n := 4) (by decide +kernel) (by decide)) (zq_S (zs_iload (by decide +kernel)) (zq_S (zs_imul (by decide +kernel)) (zq_S (zs_iload (by decide +kernel)) (zq_S (zs_iadd (by decide +kernel)) (zq_S (zs_aload_n (k9 := 0) (by decide +kernel) rfl) (zq_S (zs_get hw.1 (by decide +kernel) (zf_Model_26 hw)) (zq_S (zs_iconst (n := 4) (by decide +kernel) (by decide)) (zq_S (zs_iload (by decide +kernel)) (zq_S (zs_imul (by decide +kernel)) (zq_S (zs_iload (by decide +kernel)) (zq_S (zs_iadd (by decide +kernel)) (zq_S (zs_iconst (n := 1) (by decide +kernel) (by decide)) (zq_S (zs_isub (by decide +kernel)) (zq_S (zs_iald hw.1 (by decide +kernel)) (zq_S (zs_iast hw.1 (by decide +kernel)) (zq_S (zs_iinc (n := (-1)) (by decide +kernel) (by decide) (by decide)) (zs_goto (off := -100) (by decide +kernel) (by decide))))))))))))))))))))))))))))))))))))))))
def g_Model_field_144 : z_T := (zq 145 (zi_iload 3 145) (zi_iload 4 147))
theorem gS_Model_field_144 (hw : z_Wd w) : z_S w zY_Model_field 144 g_Model_field_144 := (zq_S (zs_iload_n (k9 := 3) (by decide +kernel) rfl) (zs_iload (by decide +kernel)))
def g_Model_field_108 : z_T := (zq 110 (zi_iload 6 110) (zq 113 (zi_if_le 211 113) (zq 114 (zi_aload 0 114) (zq 117 (zi_get 7 5 117) (zq 118 (zi_iconst 4 118) (zq 120 (zi_iload 5 120) (zq 121 (zi_imul 121) (zq 123 (zi_iload 6 123) (zq 124 (zi_iadd 124) (zq 125 (zi_iconst 1 125) (zq 126 (zi_isub 126) (zq 127 (zi_iald 127) (zq 128 (zi_aload 0 128) (zq 131 (zi_get 7 6 131) (zq 132 (zi_iconst 4 132) (zq 134 (zi_iload 5 134) (zq 135 (zi_imul 135) (zq 137 (zi_iload 6 137) (zq 138 (zi_iadd 138) (zq 139 (zi_iconst 1 139) (zq 140 (zi_isub 140) (zi_iald 141))))))))))))))))))))))
theorem gS_Model_field_108 (hw : z_Wd w) : z_S w zY_Model_field 108 g_Model_field_108 := (zq_S (zs_iload (by decide +kernel)) (zq_S (zs_if_le (off := 101) (by decide +kernel) (by decide)) (zq_S (zs_aload_n (k9 := 0) (by decide +kernel) rfl) (zq_S (zs_get hw.1 (by decide +kernel) (zf_Model_23 hw)) (zq_S (zs_iconst (n := 4) (by decide +kernel) (by decide)) (zq_S (zs_iload (by decide +kernel)) (zq_S (zs_imul (by decide +kernel)) (zq_S (zs_iload (by decide +kernel)) (zq_S (zs_iadd (by decide +kernel)) (zq_S (zs_iconst (n := 1) (by decide +kernel) (by decide)) (zq_S (zs_isub (by decide +kernel)) (zq_S (zs_iald hw.1 (by decide +kernel)) (zq_S (zs_aload_n (k9 := 0) (by decide +kernel) rfl) (zq_S (zs_get hw.1 (by decide +kernel) (zf_Model_26 hw)) (zq_S (zs_iconst (n := 4) (by decide +kernel) (by decide)) (zq_S (zs_iload (by decide +kernel)) (zq_S (zs_imul (by decide +kernel)) (zq_S (zs_iload (by decide +kernel)) (zq_S (zs_iadd (by decide +kernel)) (zq_S (zs_iconst (n := 1) (by decide +kernel) (by decide)) (zq_S (zs_isub (by decide +kernel)) (zs_iald hw.1 (by decide +kernel)))))))))))))))))))))))
def g_Model_field_99 : z_T := (zq 100 (zi_aload 0 100) (zq 103 (zi_get 7 4 103) (zq 105 (zi_iload 5 105) (zq 106 (zi_iald 106) (zi_istore 6 108)))))
theorem gS_Model_field_99 (hw : z_Wd w) : z_S w zY_Model_field 99 g_Model_field_99 := (zq_S (zs_aload_n (k9 := 0) (by decide +kernel) rfl) (zq_S (zs_get hw.1 (by decide +kernel) (zf_Model_20 hw)) (zq_S (zs_iload (by decide +kernel)) (zq_S (zs_iald hw.1 (by decide +kernel)) (zs_istore (by decide +kernel) (by decide))))))
def g_Model_field_97 : z_T := (zq 98 (zi_iconst 0 98) (zi_zret))
theorem gS_Model_field_97 (hw : z_Wd w) : z_S w zY_Model_field 97 g_Model_field_97 := (zq_S (zs_iconst (n := 0) (by decide +kernel) (by decide)) (zs_zret (by decide +kernel) rfl))
def g_Model_field_94 : z_T := (zb 97 99 (zi_if_lt 99 97) g_Model_field_97 g_Model_field_99)
theorem gS_Model_field_94 (hw : z_Wd w) : z_S w zY_Model_field 94 g_Model_field_94 := (zb_S (zs_if_lt (off := 5) (by decide +kernel) (by decide)) (gS_Model_field_97 hw) (gS_Model_field_99 hw))
def g_Model_field_58 : z_T := (zq 60 (zi_bipush 6 60) (zq 61 (zi_iload 1 61) (zq 62 (zi_imul 62) (zq 63 (zi_iload 2 63) (zq 64 (zi_iadd 64) (zq 66 (zi_istore 5 66) (zq 67 (zi_aload 0 67) (zq 70 (zi_get 7 1 70) (zq 72 (zi_iload 5 72) (zq 73 (zi_zald 73) (zb 76 97 (zi_if_eq 97 76) (zq 77 (zi_aload 0 77) (zq 80 (zi_get 7 4 80) (zq 82 (zi_iload 5 82) (zq 83 (zi_iald 83) (zq 84 (zi_iconst 4 84) (zb 87 97 (zi_icmp_eq 97 87) (zq 88 (zi_aload 0 88) (zq 90 (zi_iload 5 90) (zi_iload 3 91))) g_Model_field_97)))))) g_Model_field_97)))))))))))
theorem gS_Model_field_58 (hw : z_Wd w) : z_S w zY_Model_field 58 g_Model_field_58 := (zq_S (zs_bipush (n := 6) (by decide +kernel) (by decide)) (zq_S (zs_iload_n (k9 := 1) (by decide +kernel) rfl) (zq_S (zs_imul (by decide +kernel)) (zq_S (zs_iload_n (k9 := 2) (by decide +kernel) rfl) (zq_S (zs_iadd (by decide +kernel)) (zq_S (zs_istore (by decide +kernel) (by decide)) (zq_S (zs_aload_n (k9 := 0) (by decide +kernel) rfl) (zq_S (zs_get hw.1 (by decide +kernel) (zf_Model_7 hw)) (zq_S (zs_iload (by decide +kernel)) (zq_S (zs_zald hw.1 (by decide +kernel)) (zb_S (zs_if_eq (off := 24) (by decide +kernel) (by decide)) (zq_S (zs_aload_n (k9 := 0) (by decide +kernel) rfl) (zq_S (zs_get hw.1 (by decide +kernel) (zf_Model_20 hw)) (zq_S (zs_iload (by decide +kernel)) (zq_S (zs_iald hw.1 (by decide +kernel)) (zq_S (zs_iconst (n := 4) (by decide +kernel) (by decide)) (zb_S (zs_icmp_eq (off := 13) (by decide +kernel) (by decide)) (zq_S (zs_aload_n (k9 := 0) (by decide +kernel) rfl) (zq_S (zs_iload (by decide +kernel)) (zs_iload_n (k9 := 3) (by decide +kernel) rfl))) (gS_Model_field_97 hw))))))) (gS_Model_field_97 hw))))))))))))
def g_Model_field_56 : z_T := (zq 57 (zi_iconst 0 57) (zi_zret))
theorem gS_Model_field_56 (hw : z_Wd w) : z_S w zY_Model_field 56 g_Model_field_56 := (zq_S (zs_iconst (n := 0) (by decide +kernel) (by decide)) (zs_zret (by decide +kernel) rfl))
def g_Model_field_40 : z_T := (zb 43 56 (zi_if_eq 56 43) (zq 44 (zi_iload 1 44) (zq 47 (zi_if_ne 58 47) (zq 48 (zi_aload 0 48) (zq 51 (zi_get 7 7 51) (zq 52 (zi_iconst 0 52) (zq 53 (zi_iald 53) (zq 56 (zi_if_le 58 56) g_Model_field_56))))))) g_Model_field_56)
theorem gS_Model_field_40 (hw : z_Wd w) : z_S w zY_Model_field 40 g_Model_field_40 := (zb_S (zs_if_eq (off := 16) (by decide +kernel) (by decide)) (zq_S (zs_iload_n (k9 := 1) (by decide +kernel) rfl) (zq_S (zs_if_ne (off := 14) (by decide +kernel) (by decide)) (zq_S (zs_aload_n (k9 := 0) (by decide +kernel) rfl) (zq_S (zs_get hw.1 (by decide +kernel) (zf_Model_29 hw)) (zq_S (zs_iconst (n := 0) (by decide +kernel) (by decide)) (zq_S (zs_iald hw.1 (by decide +kernel)) (zq_S (zs_if_le (off := 5) (by decide +kernel) (by decide)) (gS_Model_field_56 hw)))))))) (gS_Model_field_56 hw))
def g_Model_field_30 : z_T := (zb 33 56 (zi_if_eq 56 33) (zq 35 (zi_iload 4 35) (zq 36 (zi_iconst 0 36) (zi_iconst 4 37))) g_Model_field_56)
theorem gS_Model_field_30 (hw : z_Wd w) : z_S w zY_Model_field 30 g_Model_field_30 := (zb_S (zs_if_eq (off := 26) (by decide +kernel) (by decide)) (zq_S (zs_iload (by decide +kernel)) (zq_S (zs_iconst (n := 0) (by decide +kernel) (by decide)) (zs_iconst (n := 4) (by decide +kernel) (by decide)))) (gS_Model_field_56 hw))
def g_Model_field_20 : z_T := (zb 23 56 (zi_if_eq 56 23) (zq 24 (zi_iload 3 24) (zq 25 (zi_iconst 0 25) (zi_bipush 9 27))) g_Model_field_56)
theorem gS_Model_field_20 (hw : z_Wd w) : z_S w zY_Model_field 20 g_Model_field_20 := (zb_S (zs_if_eq (off := 36) (by decide +kernel) (by decide)) (zq_S (zs_iload_n (k9 := 3) (by decide +kernel) rfl) (zq_S (zs_iconst (n := 0) (by decide +kernel) (by decide)) (zs_bipush (n := 9) (by decide +kernel) (by decide)))) (gS_Model_field_56 hw))
def g_Model_field_11 : z_T := (zb 14 56 (zi_if_eq 56 14) (zq 15 (zi_iload 2 15) (zq 16 (zi_iconst 0 16) (zi_iconst 5 17))) g_Model_field_56)
theorem gS_Model_field_11 (hw : z_Wd w) : z_S w zY_Model_field 11 g_Model_field_11 := (zb_S (zs_if_eq (off := 45) (by decide +kernel) (by decide)) (zq_S (zs_iload_n (k9 := 2) (by decide +kernel) rfl) (zq_S (zs_iconst (n := 0) (by decide +kernel) (by decide)) (zs_iconst (n := 5) (by decide +kernel) (by decide)))) (gS_Model_field_56 hw))
def g_Model_field_0 : z_T := (zq 1 (zi_aload 0 1) (zq 2 (zi_iconst 0 2) (zq 5 (zi_put 7 0 (.int) 5) (zq 6 (zi_iload 1 6) (zq 7 (zi_iconst 0 7) (zi_iconst 1 8))))))
theorem gS_Model_field_0 (hw : z_Wd w) : z_S w zY_Model_field 0 g_Model_field_0 := (zq_S (zs_aload_n (k9 := 0) (by decide +kernel) rfl) (zq_S (zs_iconst (n := 0) (by decide +kernel) (by decide)) (zq_S (zs_put hw.1 (by decide +kernel) (zp_Model_106 hw) (fun h => by cases h)) (zq_S (zs_iload_n (k9 := 1) (by decide +kernel) rfl) (zq_S (zs_iconst (n := 0) (by decide +kernel) (by decide)) (zs_iconst (n := 1) (by decide +kernel) (by decide)))))))
def g_Model_order_13 : z_T := (zi_iret)
theorem gS_Model_order_13 (hw : z_Wd w) : z_S w zY_Model_order 13 g_Model_order_13 := (zs_iret (by decide +kernel) rfl)
def g_Model_order_12 : z_T := (zq 13 (zi_iload 0 13) g_Model_order_13)
theorem gS_Model_order_12 (hw : z_Wd w) : z_S w zY_Model_order 12 g_Model_order_12 := (zq_S (zs_iload_n (k9 := 0) (by decide +kernel) rfl) (gS_Model_order_13 hw))
def g_Model_order_0 : z_T := (zq 1 (zi_iload 1 1) (zq 2 (zi_iconst 4 2) (zb 5 12 (zi_icmp_ne 12 5) (zq 7 (zi_bipush 10 7) (zq 8 (zi_iload 0 8) (zq 9 (zi_iadd 9) (zq 13 (zi_goto 13) g_Model_order_13)))) g_Model_order_12)))
theorem gS_Model_order_0 (hw : z_Wd w) : z_S w zY_Model_order 0 g_Model_order_0 := (zq_S (zs_iload_n (k9 := 1) (by decide +kernel) rfl) (zq_S (zs_iconst (n := 4) (by decide +kernel) (by decide)) (zb_S (zs_icmp_ne (off := 10) (by decide +kernel) (by decide)) (zq_S (zs_bipush (n := 10) (by decide +kernel) (by decide)) (zq_S (zs_iload_n (k9 := 0) (by decide +kernel) rfl) (zq_S (zs_iadd (by decide +kernel)) (zq_S (zs_goto (off := 4) (by decide +kernel) (by decide)) (gS_Model_order_13 hw))))) (gS_Model_order_12 hw))))
def g_Model_above_35 : z_T := (zi_iret)
theorem gS_Model_above_35 (hw : z_Wd w) : z_S w zY_Model_above 35 g_Model_above_35 := (zs_iret (by decide +kernel) rfl)
def g_Model_above_34 : z_T := (zq 35 (zi_iconst (-1) 35) g_Model_above_35)
theorem gS_Model_above_34 (hw : z_Wd w) : z_S w zY_Model_above 34 g_Model_above_34 := (zq_S (zs_iconst (n := (-1)) (by decide +kernel) (by decide)) (gS_Model_above_35 hw))
def g_Model_above_0 : z_T := (zq 1 (zi_aload 0 1) (zq 4 (zi_get 7 2 4) (zq 6 (zi_bipush 6 6) (zq 7 (zi_iload 1 7) (zq 8 (zi_imul 8) (zq 9 (zi_iload 2 9) (zq 10 (zi_iadd 10) (zq 11 (zi_iald 11) (zq 12 (zi_istore 3 12) (zq 13 (zi_iload 3 13) (zb 16 34 (zi_if_lt 34 16) (zq 17 (zi_aload 0 17) (zq 20 (zi_get 7 1 20) (zq 22 (zi_bipush 6 22) (zq 23 (zi_iload 1 23) (zq 24 (zi_imul 24) (zq 25 (zi_iload 3 25) (zq 26 (zi_iadd 26) (zq 27 (zi_zald 27) (zb 30 34 (zi_if_eq 34 30) (zq 31 (zi_iload 3 31) (zq 35 (zi_goto 35) g_Model_above_35)) g_Model_above_34))))))))) g_Model_above_34)))))))))))
theorem gS_Model_above_0 (hw : z_Wd w) : z_S w zY_Model_above 0 g_Model_above_0 := (zq_S (zs_aload_n (k9 := 0) (by decide +kernel) rfl) (zq_S (zs_get hw.1 (by decide +kernel) (zf_Model_13 hw)) (zq_S (zs_bipush (n := 6) (by decide +kernel) (by decide)) (zq_S (zs_iload_n (k9 := 1) (by decide +kernel) rfl) (zq_S (zs_imul (by decide +kernel)) (zq_S (zs_iload_n (k9 := 2) (by decide +kernel) rfl) (zq_S (zs_iadd (by decide +kernel)) (zq_S (zs_iald hw.1 (by decide +kernel)) (zq_S (zs_istore_n (k9 := 3) (by decide +kernel) rfl (by decide)) (zq_S (zs_iload_n (k9 := 3) (by decide +kernel) rfl) (zb_S (zs_if_lt (off := 21) (by decide +kernel) (by decide)) (zq_S (zs_aload_n (k9 := 0) (by decide +kernel) rfl) (zq_S (zs_get hw.1 (by decide +kernel) (zf_Model_7 hw)) (zq_S (zs_bipush (n := 6) (by decide +kernel) (by decide)) (zq_S (zs_iload_n (k9 := 1) (by decide +kernel) rfl) (zq_S (zs_imul (by decide +kernel)) (zq_S (zs_iload_n (k9 := 3) (by decide +kernel) rfl) (zq_S (zs_iadd (by decide +kernel)) (zq_S (zs_zald hw.1 (by decide +kernel)) (zb_S (zs_if_eq (off := 7) (by decide +kernel) (by decide)) (zq_S (zs_iload_n (k9 := 3) (by decide +kernel) rfl) (zq_S (zs_goto (off := 4) (by decide +kernel) (by decide)) (gS_Model_above_35 hw))) (gS_Model_above_34 hw)))))))))) (gS_Model_above_34 hw))))))))))))
def g_Model_isInChain_36 : z_T := (zi_zret)
theorem gS_Model_isInChain_36 (hw : z_Wd w) : z_S w zY_Model_isInChain 36 g_Model_isInChain_36 := (zs_zret (by decide +kernel) rfl)
def g_Model_isInChain_35 : z_T := (zq 36 (zi_iconst 0 36) g_Model_isInChain_36)
theorem gS_Model_isInChain_35 (hw : z_Wd w) : z_S w zY_Model_isInChain 35 g_Model_isInChain_35 := (zq_S (zs_iconst (n := 0) (by decide +kernel) (by decide)) (gS_Model_isInChain_36 hw))
def g_Model_isInChain_26 : z_T := (zq 28 (zi_iload 4 28) (zb 31 35 (zi_if_lt 35 31) (zq 32 (zi_iconst 1 32) (zq 36 (zi_goto 36) g_Model_isInChain_36)) g_Model_isInChain_35))
theorem gS_Model_isInChain_26 (hw : z_Wd w) : z_S w zY_Model_isInChain 26 g_Model_isInChain_26 := (zq_S (zs_iload (by decide +kernel)) (zb_S (zs_if_lt (off := 7) (by decide +kernel) (by decide)) (zq_S (zs_iconst (n := 1) (by decide +kernel) (by decide)) (zq_S (zs_goto (off := 4) (by decide +kernel) (by decide)) (gS_Model_isInChain_36 hw))) (gS_Model_isInChain_35 hw)))
def g_Model_isInChain_21 : z_T := (zq 23 (zi_istore 4 23) (zi_goto 3))
theorem gS_Model_isInChain_21 (hw : z_Wd w) : z_S w zY_Model_isInChain 21 g_Model_isInChain_21 := (zq_S (zs_istore (by decide +kernel) (by decide)) (zs_goto (off := -20) (by decide +kernel) (by decide)))
def g_Model_isInChain_3 : z_T := (zq 5 (zi_iload 4 5) (zq 8 (zi_if_lt 26 8) (zq 10 (zi_iload 4 10) (zq 11 (zi_iload 3 11) (zq 14 (zi_icmp_eq 26 14) (zq 15 (zi_aload 0 15) (zq 16 (zi_iload 1 16) (zi_iload 4 18))))))))
theorem gS_Model_isInChain_3 (hw : z_Wd w) : z_S w zY_Model_isInChain 3 g_Model_isInChain_3 := (zq_S (zs_iload (by decide +kernel)) (zq_S (zs_if_lt (off := 21) (by decide +kernel) (by decide)) (zq_S (zs_iload (by decide +kernel)) (zq_S (zs_iload_n (k9 := 3) (by decide +kernel) rfl) (zq_S (zs_icmp_eq (off := 15) (by decide +kernel) (by decide)) (zq_S (zs_aload_n (k9 := 0) (by decide +kernel) rfl) (zq_S (zs_iload_n (k9 := 1) (by decide +kernel) rfl) (zs_iload (by decide +kernel)))))))))
def g_Model_isInChain_0 : z_T := (zq 1 (zi_iload 2 1) (zi_istore 4 3))
theorem gS_Model_isInChain_0 (hw : z_Wd w) : z_S w zY_Model_isInChain 0 g_Model_isInChain_0 := (zq_S (zs_iload_n (k9 := 2) (by decide +kernel) rfl) (zs_istore (by decide +kernel) (by decide)))
def g_Model_cut_35 : z_T := (zi_lret)
theorem gS_Model_cut_35 (hw : z_Wd w) : z_S w zY_Model_cut 35 g_Model_cut_35 := (zs_lret (by decide +kernel) rfl)
def g_Model_cut_34 : z_T := (zq 35 (zi_lload 0 35) g_Model_cut_35)
theorem gS_Model_cut_34 (hw : z_Wd w) : z_S w zY_Model_cut 34 g_Model_cut_34 := (zq_S (zs_lload_n (k9 := 0) (by decide +kernel) rfl) (gS_Model_cut_35 hw))
def g_Model_cut_23 : z_T := (zq 24 (zi_iload 2 24) (zq 25 (zi_iconst 2 25) (zb 28 34 (zi_icmp_ne 34 28) (zq 29 (zi_lload 0 29) (zq 30 (zi_l2i 30) (zq 31 (zi_i2l 31) (zq 35 (zi_goto 35) g_Model_cut_35)))) g_Model_cut_34)))
theorem gS_Model_cut_23 (hw : z_Wd w) : z_S w zY_Model_cut 23 g_Model_cut_23 := (zq_S (zs_iload_n (k9 := 2) (by decide +kernel) rfl) (zq_S (zs_iconst (n := 2) (by decide +kernel) (by decide)) (zb_S (zs_icmp_ne (off := 9) (by decide +kernel) (by decide)) (zq_S (zs_lload_n (k9 := 0) (by decide +kernel) rfl) (zq_S (zs_l2i (by decide +kernel)) (zq_S (zs_i2l (by decide +kernel)) (zq_S (zs_goto (off := 4) (by decide +kernel) (by decide)) (gS_Model_cut_35 hw))))) (gS_Model_cut_34 hw))))
def g_Model_cut_11 : z_T := (zq 12 (zi_iload 2 12) (zq 13 (zi_iconst 1 13) (zb 16 23 (zi_icmp_ne 23 16) (zq 17 (zi_lload 0 17) (zq 18 (zi_l2i 18) (zq 19 (zi_i2s 19) (zq 20 (zi_i2l 20) (zq 35 (zi_goto 35) g_Model_cut_35))))) g_Model_cut_23)))
theorem gS_Model_cut_11 (hw : z_Wd w) : z_S w zY_Model_cut 11 g_Model_cut_11 := (zq_S (zs_iload_n (k9 := 2) (by decide +kernel) rfl) (zq_S (zs_iconst (n := 1) (by decide +kernel) (by decide)) (zb_S (zs_icmp_ne (off := 10) (by decide +kernel) (by decide)) (zq_S (zs_lload_n (k9 := 0) (by decide +kernel) rfl) (zq_S (zs_l2i (by decide +kernel)) (zq_S (zs_i2s (by decide +kernel)) (zq_S (zs_i2l (by decide +kernel)) (zq_S (zs_goto (off := 15) (by decide +kernel) (by decide)) (gS_Model_cut_35 hw)))))) (gS_Model_cut_23 hw))))
def g_Model_cut_0 : z_T := (zq 1 (zi_iload 2 1) (zb 4 11 (zi_if_ne 11 4) (zq 5 (zi_lload 0 5) (zq 6 (zi_l2i 6) (zq 7 (zi_i2b 7) (zq 8 (zi_i2l 8) (zq 35 (zi_goto 35) g_Model_cut_35))))) g_Model_cut_11))
theorem gS_Model_cut_0 (hw : z_Wd w) : z_S w zY_Model_cut 0 g_Model_cut_0 := (zq_S (zs_iload_n (k9 := 2) (by decide +kernel) rfl) (zb_S (zs_if_ne (off := 10) (by decide +kernel) (by decide)) (zq_S (zs_lload_n (k9 := 0) (by decide +kernel) rfl) (zq_S (zs_l2i (by decide +kernel)) (zq_S (zs_i2b (by decide +kernel)) (zq_S (zs_i2l (by decide +kernel)) (zq_S (zs_goto (off := 27) (by decide +kernel) (by decide)) (gS_Model_cut_35 hw)))))) (gS_Model_cut_11 hw)))
def g_Model_fill_98 : z_T := (zi_vret)
theorem gS_Model_fill_98 (hw : z_Wd w) : z_S w zY_Model_fill 98 g_Model_fill_98 := (zs_vret (by decide +kernel) rfl)
def g_Model_fill_94 : z_T := (zq 95 (zi_istore 3 95) (zi_goto 7))
theorem gS_Model_fill_94 (hw : z_Wd w) : z_S w zY_Model_fill 94 g_Model_fill_94 := (zq_S (zs_istore_n (k9 := 3) (by decide +kernel) rfl (by decide)) (zs_goto (off := -88) (by decide +kernel) (by decide)))
def g_Model_fill_88 : z_T := (zq 89 (zi_aload 0 89) (zq 90 (zi_iload 2 90) (zi_iload 3 91)))
theorem gS_Model_fill_88 (hw : z_Wd w) : z_S w zY_Model_fill 88 g_Model_fill_88 := (zq_S (zs_aload_n (k9 := 0) (by decide +kernel) rfl) (zq_S (zs_iload_n (k9 := 2) (by decide +kernel) rfl) (zs_iload_n (k9 := 3) (by decide +kernel) rfl)))
def g_Model_fill_81 : z_T := (zq 82 (zi_last 82) (zq 85 (zi_iinc 5 1 85) (zi_goto 25)))
theorem gS_Model_fill_81 (hw : z_Wd w) : z_S w zY_Model_fill 81 g_Model_fill_81 := (zq_S (zs_last hw.1 (by decide +kernel)) (zq_S (zs_iinc (n := 1) (by decide +kernel) (by decide) (by decide)) (zs_goto (off := -60) (by decide +kernel) (by decide))))
def g_Model_fill_80 : z_T := (zq 81 (zi_lconst 0 81) g_Model_fill_81)
theorem gS_Model_fill_80 (hw : z_Wd w) : z_S w zY_Model_fill 80 g_Model_fill_80 := (zq_S (zs_lconst (n := 0) (by decide +kernel) (by decide)) (gS_Model_fill_81 hw))
def g_Model_fill_25 : z_T := (zq 27 (zi_iload 5 27) (zq 28 (zi_iconst 4 28) (zq 30 (zi_iload 4 30) (zq 31 (zi_imul 31) (zq 32 (zi_aload 0 32) (zq 35 (zi_get 7 4 35) (zq 37 (zi_iload 4 37) (zq 38 (zi_iald 38) (zq 39 (zi_iadd 39) (zb 42 88 (zi_icmp_ge 88 42) (zq 43 (zi_aload 0 43) (zq 46 (zi_get 7 10 46) (zq 48 (zi_bipush 60 48) (zq 49 (zi_iload 1 49) (zq 50 (zi_imul 50) (zq 52 (zi_bipush 10 52) (zq 53 (zi_iload 3 53) (zq 54 (zi_imul 54) (zq 55 (zi_iadd 55) (zq 56 (zi_aload 0 56) (zq 59 (zi_get 7 5 59) (zq 61 (zi_iload 5 61) (zq 62 (zi_iald 62) (zq 63 (zi_iadd 63) (zq 64 (zi_aload 0 64) (zq 67 (zi_get 7 6 67) (zq 69 (zi_iload 5 69) (zq 70 (zi_iald 70) (zq 71 (zi_iconst 4 71) (zb 74 80 (zi_icmp_ne 80 74) (zq 77 (zi_ldc2 (-1) 77) (zq 81 (zi_goto 81) g_Model_fill_81)) g_Model_fill_80)))))))))))))))))))) g_Model_fill_88))))))))))
theorem gS_Model_fill_25 (hw : z_Wd w) : z_S w zY_Model_fill 25 g_Model_fill_25 := (zq_S (zs_iload (by decide +kernel)) (zq_S (zs_iconst (n := 4) (by decide +kernel) (by decide)) (zq_S (zs_iload (by decide +kernel)) (zq_S (zs_imul (by decide +kernel)) (zq_S (zs_aload_n (k9 := 0) (by decide +kernel) rfl) (zq_S (zs_get hw.1 (by decide +kernel) (zf_Model_20 hw)) (zq_S (zs_iload (by decide +kernel)) (zq_S (zs_iald hw.1 (by decide +kernel)) (zq_S (zs_iadd (by decide +kernel)) (zb_S (zs_icmp_ge (off := 49) (by decide +kernel) (by decide)) (zq_S (zs_aload_n (k9 := 0) (by decide +kernel) rfl) (zq_S (zs_get hw.1 (by decide +kernel) (zf_Model_38 hw)) (zq_S (zs_bipush (n := 60) (by decide +kernel) (by decide)) (zq_S (zs_iload_n (k9 := 1) (by decide +kernel) rfl) (zq_S (zs_imul (by decide +kernel)) (zq_S (zs_bipush (n := 10) (by decide +kernel) (by decide)) (zq_S (zs_iload_n (k9 := 3) (by decide +kernel) rfl) (zq_S (zs_imul (by decide +kernel)) (zq_S (zs_iadd (by decide +kernel)) (zq_S (zs_aload_n (k9 := 0) (by decide +kernel) rfl) (zq_S (zs_get hw.1 (by decide +kernel) (zf_Model_23 hw)) (zq_S (zs_iload (by decide +kernel)) (zq_S (zs_iald hw.1 (by decide +kernel)) (zq_S (zs_iadd (by decide +kernel)) (zq_S (zs_aload_n (k9 := 0) (by decide +kernel) rfl) (zq_S (zs_get hw.1 (by decide +kernel) (zf_Model_26 hw)) (zq_S (zs_iload (by decide +kernel)) (zq_S (zs_iald hw.1 (by decide +kernel)) (zq_S (zs_iconst (n := 4) (by decide +kernel) (by decide)) (zb_S (zs_icmp_ne (off := 9) (by decide +kernel) (by decide)) (zq_S (zs_ldc2 (idx := 123) (by decide +kernel) (zw_842 hw)) (zq_S (zs_goto (off := 4) (by decide +kernel) (by decide)) (gS_Model_fill_81 hw))) (gS_Model_fill_80 hw))))))))))))))))))))) (gS_Model_fill_88 hw)))))))))))
def g_Model_fill_7 : z_T := (zq 8 (zi_iload 3 8) (zb 11 98 (zi_if_lt 98 11) (zq 13 (zi_bipush 6 13) (zq 14 (zi_iload 2 14) (zq 15 (zi_imul 15) (zq 16 (zi_iload 3 16) (zq 17 (zi_iadd 17) (zq 19 (zi_istore 4 19) (zq 20 (zi_iconst 4 20) (zq 22 (zi_iload 4 22) (zq 23 (zi_imul 23) (zi_istore 5 25)))))))))) g_Model_fill_98))
theorem gS_Model_fill_7 (hw : z_Wd w) : z_S w zY_Model_fill 7 g_Model_fill_7 := (zq_S (zs_iload_n (k9 := 3) (by decide +kernel) rfl) (zb_S (zs_if_lt (off := 90) (by decide +kernel) (by decide)) (zq_S (zs_bipush (n := 6) (by decide +kernel) (by decide)) (zq_S (zs_iload_n (k9 := 2) (by decide +kernel) rfl) (zq_S (zs_imul (by decide +kernel)) (zq_S (zs_iload_n (k9 := 3) (by decide +kernel) rfl) (zq_S (zs_iadd (by decide +kernel)) (zq_S (zs_istore (by decide +kernel) (by decide)) (zq_S (zs_iconst (n := 4) (by decide +kernel) (by decide)) (zq_S (zs_iload (by decide +kernel)) (zq_S (zs_imul (by decide +kernel)) (zs_istore (by decide +kernel) (by decide))))))))))) (gS_Model_fill_98 hw)))
def g_Model_fill_0 : z_T := (zq 1 (zi_aload 0 1) (zq 4 (zi_get 7 8 4) (zq 5 (zi_iload 1 5) (zq 6 (zi_iald 6) (zi_istore 3 7)))))
theorem gS_Model_fill_0 (hw : z_Wd w) : z_S w zY_Model_fill 0 g_Model_fill_0 := (zq_S (zs_aload_n (k9 := 0) (by decide +kernel) rfl) (zq_S (zs_get hw.1 (by decide +kernel) (zf_Model_32 hw)) (zq_S (zs_iload_n (k9 := 1) (by decide +kernel) rfl) (zq_S (zs_iald hw.1 (by decide +kernel)) (zs_istore_n (k9 := 3) (by decide +kernel) rfl (by decide))))))
def g_Model_build_63 : z_T := (zq 64 (zi_aload 0 64) (zq 67 (zi_get 7 7 67) (zq 68 (zi_iconst 0 68) (zq 69 (zi_dup2 69) (zq 70 (zi_iald 70) (zq 71 (zi_iconst 1 71) (zq 72 (zi_iadd 72) (zq 73 (zi_iast 73) (zq 74 (zi_iload 2 74) (zi_iret))))))))))
theorem gS_Model_build_63 (hw : z_Wd w) : z_S w zY_Model_build 63 g_Model_build_63 := (zq_S (zs_aload_n (k9 := 0) (by decide +kernel) rfl) (zq_S (zs_get hw.1 (by decide +kernel) (zf_Model_29 hw)) (zq_S (zs_iconst (n := 0) (by decide +kernel) (by decide)) (zq_S (zs_dup2 (by decide +kernel)) (zq_S (zs_iald hw.1 (by decide +kernel)) (zq_S (zs_iconst (n := 1) (by decide +kernel) (by decide)) (zq_S (zs_iadd (by decide +kernel)) (zq_S (zs_iast hw.1 (by decide +kernel)) (zq_S (zs_iload_n (k9 := 2) (by decide +kernel) rfl) (zs_iret (by decide +kernel) rfl))))))))))
def g_Model_build_36 : z_T := (zq 37 (zi_aload 0 37) (zq 40 (zi_get 7 7 40) (zq 41 (zi_iconst 0 41) (zq 42 (zi_iald 42) (zq 43 (zi_istore 2 43) (zq 44 (zi_aload 0 44) (zq 47 (zi_get 7 8 47) (zq 48 (zi_iload 2 48) (zq 49 (zi_iload 1 49) (zq 50 (zi_iast 50) (zq 51 (zi_aload 0 51) (zq 54 (zi_get 7 9 54) (zq 55 (zi_iload 2 55) (zq 56 (zi_iconst (-1) 56) (zq 57 (zi_iast 57) (zq 58 (zi_aload 0 58) (zq 59 (zi_iload 2 59) (zi_iconst 0 60))))))))))))))))))
theorem gS_Model_build_36 (hw : z_Wd w) : z_S w zY_Model_build 36 g_Model_build_36 := (zq_S (zs_aload_n (k9 := 0) (by decide +kernel) rfl) (zq_S (zs_get hw.1 (by decide +kernel) (zf_Model_29 hw)) (zq_S (zs_iconst (n := 0) (by decide +kernel) (by decide)) (zq_S (zs_iald hw.1 (by decide +kernel)) (zq_S (zs_istore_n (k9 := 2) (by decide +kernel) rfl (by decide)) (zq_S (zs_aload_n (k9 := 0) (by decide +kernel) rfl) (zq_S (zs_get hw.1 (by decide +kernel) (zf_Model_32 hw)) (zq_S (zs_iload_n (k9 := 2) (by decide +kernel) rfl) (zq_S (zs_iload_n (k9 := 1) (by decide +kernel) rfl) (zq_S (zs_iast hw.1 (by decide +kernel)) (zq_S (zs_aload_n (k9 := 0) (by decide +kernel) rfl) (zq_S (zs_get hw.1 (by decide +kernel) (zf_Model_35 hw)) (zq_S (zs_iload_n (k9 := 2) (by decide +kernel) rfl) (zq_S (zs_iconst (n := (-1)) (by decide +kernel) (by decide)) (zq_S (zs_iast hw.1 (by decide +kernel)) (zq_S (zs_aload_n (k9 := 0) (by decide +kernel) rfl) (zq_S (zs_iload_n (k9 := 2) (by decide +kernel) rfl) (zs_iconst (n := 0) (by decide +kernel) (by decide)))))))))))))))))))
def g_Model_build_34 : z_T := (zq 35 (zi_iconst (-1) 35) (zi_iret))
theorem gS_Model_build_34 (hw : z_Wd w) : z_S w zY_Model_build 34 g_Model_build_34 := (zq_S (zs_iconst (n := (-1)) (by decide +kernel) (by decide)) (zs_iret (by decide +kernel) rfl))
def g_Model_build_11 : z_T := (zb 14 34 (zi_if_eq 34 14) (zq 15 (zi_aload 0 15) (zq 18 (zi_get 7 1 18) (zq 19 (zi_iload 1 19) (zq 20 (zi_zald 20) (zb 23 34 (zi_if_eq 34 23) (zq 24 (zi_aload 0 24) (zq 27 (zi_get 7 7 27) (zq 28 (zi_iconst 0 28) (zq 29 (zi_iald 29) (zq 31 (zi_bipush 24 31) (zb 34 36 (zi_icmp_ne 36 34) g_Model_build_34 g_Model_build_36)))))) g_Model_build_34))))) g_Model_build_34)
theorem gS_Model_build_11 (hw : z_Wd w) : z_S w zY_Model_build 11 g_Model_build_11 := (zb_S (zs_if_eq (off := 23) (by decide +kernel) (by decide)) (zq_S (zs_aload_n (k9 := 0) (by decide +kernel) rfl) (zq_S (zs_get hw.1 (by decide +kernel) (zf_Model_7 hw)) (zq_S (zs_iload_n (k9 := 1) (by decide +kernel) rfl) (zq_S (zs_zald hw.1 (by decide +kernel)) (zb_S (zs_if_eq (off := 14) (by decide +kernel) (by decide)) (zq_S (zs_aload_n (k9 := 0) (by decide +kernel) rfl) (zq_S (zs_get hw.1 (by decide +kernel) (zf_Model_29 hw)) (zq_S (zs_iconst (n := 0) (by decide +kernel) (by decide)) (zq_S (zs_iald hw.1 (by decide +kernel)) (zq_S (zs_bipush (n := 24) (by decide +kernel) (by decide)) (zb_S (zs_icmp_ne (off := 5) (by decide +kernel) (by decide)) (gS_Model_build_34 hw) (gS_Model_build_36 hw))))))) (gS_Model_build_34 hw)))))) (gS_Model_build_34 hw))
def g_Model_build_0 : z_T := (zq 1 (zi_aload 0 1) (zq 2 (zi_iconst 0 2) (zq 5 (zi_put 7 0 (.int) 5) (zq 6 (zi_iload 1 6) (zq 7 (zi_iconst 0 7) (zi_iconst 5 8))))))
theorem gS_Model_build_0 (hw : z_Wd w) : z_S w zY_Model_build 0 g_Model_build_0 := (zq_S (zs_aload_n (k9 := 0) (by decide +kernel) rfl) (zq_S (zs_iconst (n := 0) (by decide +kernel) (by decide)) (zq_S (zs_put hw.1 (by decide +kernel) (zp_Model_106 hw) (fun h => by cases h)) (zq_S (zs_iload_n (k9 := 1) (by decide +kernel) rfl) (zq_S (zs_iconst (n := 0) (by decide +kernel) (by decide)) (zs_iconst (n := 5) (by decide +kernel) (by decide)))))))
def g_Model_row_72 : z_T := (zq 73 (zi_aload 0 73) (zq 76 (zi_get 7 7 76) (zq 77 (zi_iconst 0 77) (zq 78 (zi_dup2 78) (zq 79 (zi_iald 79) (zq 80 (zi_iconst 1 80) (zq 81 (zi_iadd 81) (zq 82 (zi_iast 82) (zq 83 (zi_iload 2 83) (zi_iret))))))))))
theorem gS_Model_row_72 (hw : z_Wd w) : z_S w zY_Model_row 72 g_Model_row_72 := (zq_S (zs_aload_n (k9 := 0) (by decide +kernel) rfl) (zq_S (zs_get hw.1 (by decide +kernel) (zf_Model_29 hw)) (zq_S (zs_iconst (n := 0) (by decide +kernel) (by decide)) (zq_S (zs_dup2 (by decide +kernel)) (zq_S (zs_iald hw.1 (by decide +kernel)) (zq_S (zs_iconst (n := 1) (by decide +kernel) (by decide)) (zq_S (zs_iadd (by decide +kernel)) (zq_S (zs_iast hw.1 (by decide +kernel)) (zq_S (zs_iload_n (k9 := 2) (by decide +kernel) rfl) (zs_iret (by decide +kernel) rfl))))))))))
def g_Model_row_50 : z_T := (zq 51 (zi_iload 3 51) (zq 52 (zi_iconst 5 52) (zb 55 72 (zi_icmp_ge 72 55) (zq 56 (zi_aload 0 56) (zq 59 (zi_get 7 11 59) (zq 60 (zi_iconst 5 60) (zq 61 (zi_iload 2 61) (zq 62 (zi_imul 62) (zq 63 (zi_iload 3 63) (zq 64 (zi_iadd 64) (zq 65 (zi_iconst (-1) 65) (zq 66 (zi_iast 66) (zq 69 (zi_iinc 3 1 69) (zi_goto 50))))))))))) g_Model_row_72)))
theorem gS_Model_row_50 (hw : z_Wd w) : z_S w zY_Model_row 50 g_Model_row_50 := (zq_S (zs_iload_n (k9 := 3) (by decide +kernel) rfl) (zq_S (zs_iconst (n := 5) (by decide +kernel) (by decide)) (zb_S (zs_icmp_ge (off := 20) (by decide +kernel) (by decide)) (zq_S (zs_aload_n (k9 := 0) (by decide +kernel) rfl) (zq_S (zs_get hw.1 (by decide +kernel) (zf_Model_42 hw)) (zq_S (zs_iconst (n := 5) (by decide +kernel) (by decide)) (zq_S (zs_iload_n (k9 := 2) (by decide +kernel) rfl) (zq_S (zs_imul (by decide +kernel)) (zq_S (zs_iload_n (k9 := 3) (by decide +kernel) rfl) (zq_S (zs_iadd (by decide +kernel)) (zq_S (zs_iconst (n := (-1)) (by decide +kernel) (by decide)) (zq_S (zs_iast hw.1 (by decide +kernel)) (zq_S (zs_iinc (n := 1) (by decide +kernel) (by decide) (by decide)) (zs_goto (off := -19) (by decide +kernel) (by decide)))))))))))) (gS_Model_row_72 hw))))
def g_Model_row_27 : z_T := (zq 28 (zi_aload 0 28) (zq 31 (zi_get 7 7 31) (zq 32 (zi_iconst 0 32) (zq 33 (zi_iald 33) (zq 34 (zi_istore 2 34) (zq 35 (zi_aload 0 35) (zq 38 (zi_get 7 8 38) (zq 39 (zi_iload 2 39) (zq 40 (zi_iconst (-1) 40) (zq 41 (zi_iast 41) (zq 42 (zi_aload 0 42) (zq 45 (zi_get 7 9 45) (zq 46 (zi_iload 2 46) (zq 47 (zi_iload 1 47) (zq 48 (zi_iast 48) (zq 49 (zi_iconst 0 49) (zi_istore 3 50)))))))))))))))))
theorem gS_Model_row_27 (hw : z_Wd w) : z_S w zY_Model_row 27 g_Model_row_27 := (zq_S (zs_aload_n (k9 := 0) (by decide +kernel) rfl) (zq_S (zs_get hw.1 (by decide +kernel) (zf_Model_29 hw)) (zq_S (zs_iconst (n := 0) (by decide +kernel) (by decide)) (zq_S (zs_iald hw.1 (by decide +kernel)) (zq_S (zs_istore_n (k9 := 2) (by decide +kernel) rfl (by decide)) (zq_S (zs_aload_n (k9 := 0) (by decide +kernel) rfl) (zq_S (zs_get hw.1 (by decide +kernel) (zf_Model_32 hw)) (zq_S (zs_iload_n (k9 := 2) (by decide +kernel) rfl) (zq_S (zs_iconst (n := (-1)) (by decide +kernel) (by decide)) (zq_S (zs_iast hw.1 (by decide +kernel)) (zq_S (zs_aload_n (k9 := 0) (by decide +kernel) rfl) (zq_S (zs_get hw.1 (by decide +kernel) (zf_Model_35 hw)) (zq_S (zs_iload_n (k9 := 2) (by decide +kernel) rfl) (zq_S (zs_iload_n (k9 := 1) (by decide +kernel) rfl) (zq_S (zs_iast hw.1 (by decide +kernel)) (zq_S (zs_iconst (n := 0) (by decide +kernel) (by decide)) (zs_istore_n (k9 := 3) (by decide +kernel) rfl (by decide))))))))))))))))))
def g_Model_row_25 : z_T := (zq 26 (zi_iconst (-1) 26) (zi_iret))
theorem gS_Model_row_25 (hw : z_Wd w) : z_S w zY_Model_row 25 g_Model_row_25 := (zq_S (zs_iconst (n := (-1)) (by decide +kernel) (by decide)) (zs_iret (by decide +kernel) rfl))
def g_Model_row_11 : z_T := (zb 14 25 (zi_if_eq 25 14) (zq 15 (zi_aload 0 15) (zq 18 (zi_get 7 7 18) (zq 19 (zi_iconst 0 19) (zq 20 (zi_iald 20) (zq 22 (zi_bipush 24 22) (zb 25 27 (zi_icmp_ne 27 25) g_Model_row_25 g_Model_row_27)))))) g_Model_row_25)
theorem gS_Model_row_11 (hw : z_Wd w) : z_S w zY_Model_row 11 g_Model_row_11 := (zb_S (zs_if_eq (off := 14) (by decide +kernel) (by decide)) (zq_S (zs_aload_n (k9 := 0) (by decide +kernel) rfl) (zq_S (zs_get hw.1 (by decide +kernel) (zf_Model_29 hw)) (zq_S (zs_iconst (n := 0) (by decide +kernel) (by decide)) (zq_S (zs_iald hw.1 (by decide +kernel)) (zq_S (zs_bipush (n := 24) (by decide +kernel) (by decide)) (zb_S (zs_icmp_ne (off := 5) (by decide +kernel) (by decide)) (gS_Model_row_25 hw) (gS_Model_row_27 hw))))))) (gS_Model_row_25 hw))
def g_Model_row_0 : z_T := (zq 1 (zi_aload 0 1) (zq 2 (zi_iconst 0 2) (zq 5 (zi_put 7 0 (.int) 5) (zq 6 (zi_iload 1 6) (zq 7 (zi_iconst 0 7) (zi_iconst 5 8))))))
theorem gS_Model_row_0 (hw : z_Wd w) : z_S w zY_Model_row 0 g_Model_row_0 := (zq_S (zs_aload_n (k9 := 0) (by decide +kernel) rfl) (zq_S (zs_iconst (n := 0) (by decide +kernel) (by decide)) (zq_S (zs_put hw.1 (by decide +kernel) (zp_Model_106 hw) (fun h => by cases h)) (zq_S (zs_iload_n (k9 := 1) (by decide +kernel) rfl) (zq_S (zs_iconst (n := 0) (by decide +kernel) (by decide)) (zs_iconst (n := 5) (by decide +kernel) (by decide)))))))
def g_Model_isThing_28 : z_T := (zi_zret)
theorem gS_Model_isThing_28 (hw : z_Wd w) : z_S w zY_Model_isThing 28 g_Model_isThing_28 := (zs_zret (by decide +kernel) rfl)
def g_Model_isThing_27 : z_T := (zq 28 (zi_iconst 0 28) g_Model_isThing_28)
theorem gS_Model_isThing_27 (hw : z_Wd w) : z_S w zY_Model_isThing 27 g_Model_isThing_27 := (zq_S (zs_iconst (n := 0) (by decide +kernel) (by decide)) (gS_Model_isThing_28 hw))
def g_Model_isThing_6 : z_T := (zb 9 27 (zi_if_eq 27 9) (zq 10 (zi_iload 2 10) (zb 13 27 (zi_if_lt 27 13) (zq 14 (zi_iload 2 14) (zq 15 (zi_aload 0 15) (zq 18 (zi_get 7 7 18) (zq 19 (zi_iload 1 19) (zq 20 (zi_iald 20) (zb 23 27 (zi_icmp_ge 27 23) (zq 24 (zi_iconst 1 24) (zq 28 (zi_goto 28) g_Model_isThing_28)) g_Model_isThing_27)))))) g_Model_isThing_27)) g_Model_isThing_27)
theorem gS_Model_isThing_6 (hw : z_Wd w) : z_S w zY_Model_isThing 6 g_Model_isThing_6 := (zb_S (zs_if_eq (off := 21) (by decide +kernel) (by decide)) (zq_S (zs_iload_n (k9 := 2) (by decide +kernel) rfl) (zb_S (zs_if_lt (off := 17) (by decide +kernel) (by decide)) (zq_S (zs_iload_n (k9 := 2) (by decide +kernel) rfl) (zq_S (zs_aload_n (k9 := 0) (by decide +kernel) rfl) (zq_S (zs_get hw.1 (by decide +kernel) (zf_Model_29 hw)) (zq_S (zs_iload_n (k9 := 1) (by decide +kernel) rfl) (zq_S (zs_iald hw.1 (by decide +kernel)) (zb_S (zs_icmp_ge (off := 7) (by decide +kernel) (by decide)) (zq_S (zs_iconst (n := 1) (by decide +kernel) (by decide)) (zq_S (zs_goto (off := 4) (by decide +kernel) (by decide)) (gS_Model_isThing_28 hw))) (gS_Model_isThing_27 hw))))))) (gS_Model_isThing_27 hw))) (gS_Model_isThing_27 hw))
def g_Model_isThing_0 : z_T := (zq 1 (zi_iload 1 1) (zq 2 (zi_iconst 0 2) (zi_iconst 1 3)))
theorem gS_Model_isThing_0 (hw : z_Wd w) : z_S w zY_Model_isThing 0 g_Model_isThing_0 := (zq_S (zs_iload_n (k9 := 1) (by decide +kernel) rfl) (zq_S (zs_iconst (n := 0) (by decide +kernel) (by decide)) (zs_iconst (n := 1) (by decide +kernel) (by decide))))
def g_Model_fieldIn_66 : z_T := (zi_iret)
theorem gS_Model_fieldIn_66 (hw : z_Wd w) : z_S w zY_Model_fieldIn 66 g_Model_fieldIn_66 := (zs_iret (by decide +kernel) rfl)
def g_Model_fieldIn_54 : z_T := (zq 55 (zi_aload 0 55) (zq 57 (zi_bipush 6 57) (zq 58 (zi_iload 1 58) (zq 59 (zi_imul 59) (zq 60 (zi_iload 3 60) (zq 61 (zi_iadd 61) (zi_iload 4 63)))))))
theorem gS_Model_fieldIn_54 (hw : z_Wd w) : z_S w zY_Model_fieldIn 54 g_Model_fieldIn_54 := (zq_S (zs_aload_n (k9 := 0) (by decide +kernel) rfl) (zq_S (zs_bipush (n := 6) (by decide +kernel) (by decide)) (zq_S (zs_iload_n (k9 := 1) (by decide +kernel) rfl) (zq_S (zs_imul (by decide +kernel)) (zq_S (zs_iload_n (k9 := 3) (by decide +kernel) rfl) (zq_S (zs_iadd (by decide +kernel)) (zs_iload (by decide +kernel))))))))
def g_Model_fieldIn_52 : z_T := (zq 53 (zi_iconst (-1) 53) (zi_iret))
theorem gS_Model_fieldIn_52 (hw : z_Wd w) : z_S w zY_Model_fieldIn 52 g_Model_fieldIn_52 := (zq_S (zs_iconst (n := (-1)) (by decide +kernel) (by decide)) (zs_iret (by decide +kernel) rfl))
def g_Model_fieldIn_49 : z_T := (zb 52 54 (zi_if_ne 54 52) g_Model_fieldIn_52 g_Model_fieldIn_54)
theorem gS_Model_fieldIn_49 (hw : z_Wd w) : z_S w zY_Model_fieldIn 49 g_Model_fieldIn_49 := (zb_S (zs_if_ne (off := 5) (by decide +kernel) (by decide)) (gS_Model_fieldIn_52 hw) (gS_Model_fieldIn_54 hw))
def g_Model_fieldIn_29 : z_T := (zb 32 52 (zi_if_eq 52 32) (zq 33 (zi_aload 0 33) (zq 34 (zi_iload 1 34) (zq 35 (zi_aload 0 35) (zq 38 (zi_get 7 8 38) (zq 40 (zi_bipush 40 40) (zq 41 (zi_iload 1 41) (zq 42 (zi_imul 42) (zq 43 (zi_iload 2 43) (zq 44 (zi_iadd 44) (zq 45 (zi_iald 45) (zi_iload 3 46))))))))))) g_Model_fieldIn_52)
theorem gS_Model_fieldIn_29 (hw : z_Wd w) : z_S w zY_Model_fieldIn 29 g_Model_fieldIn_29 := (zb_S (zs_if_eq (off := 23) (by decide +kernel) (by decide)) (zq_S (zs_aload_n (k9 := 0) (by decide +kernel) rfl) (zq_S (zs_iload_n (k9 := 1) (by decide +kernel) rfl) (zq_S (zs_aload_n (k9 := 0) (by decide +kernel) rfl) (zq_S (zs_get hw.1 (by decide +kernel) (zf_Model_32 hw)) (zq_S (zs_bipush (n := 40) (by decide +kernel) (by decide)) (zq_S (zs_iload_n (k9 := 1) (by decide +kernel) rfl) (zq_S (zs_imul (by decide +kernel)) (zq_S (zs_iload_n (k9 := 2) (by decide +kernel) rfl) (zq_S (zs_iadd (by decide +kernel)) (zq_S (zs_iald hw.1 (by decide +kernel)) (zs_iload_n (k9 := 3) (by decide +kernel) rfl))))))))))) (gS_Model_fieldIn_52 hw))
def g_Model_fieldIn_6 : z_T := (zb 9 52 (zi_if_eq 52 9) (zq 10 (zi_aload 0 10) (zq 13 (zi_get 7 8 13) (zq 15 (zi_bipush 40 15) (zq 16 (zi_iload 1 16) (zq 17 (zi_imul 17) (zq 18 (zi_iload 2 18) (zq 19 (zi_iadd 19) (zq 20 (zi_iald 20) (zb 23 52 (zi_if_lt 52 23) (zq 24 (zi_iload 3 24) (zq 25 (zi_iconst 0 25) (zi_iconst 5 26))) g_Model_fieldIn_52))))))))) g_Model_fieldIn_52)
theorem gS_Model_fieldIn_6 (hw : z_Wd w) : z_S w zY_Model_fieldIn 6 g_Model_fieldIn_6 := (zb_S (zs_if_eq (off := 46) (by decide +kernel) (by decide)) (zq_S (zs_aload_n (k9 := 0) (by decide +kernel) rfl) (zq_S (zs_get hw.1 (by decide +kernel) (zf_Model_32 hw)) (zq_S (zs_bipush (n := 40) (by decide +kernel) (by decide)) (zq_S (zs_iload_n (k9 := 1) (by decide +kernel) rfl) (zq_S (zs_imul (by decide +kernel)) (zq_S (zs_iload_n (k9 := 2) (by decide +kernel) rfl) (zq_S (zs_iadd (by decide +kernel)) (zq_S (zs_iald hw.1 (by decide +kernel)) (zb_S (zs_if_lt (off := 32) (by decide +kernel) (by decide)) (zq_S (zs_iload_n (k9 := 3) (by decide +kernel) rfl) (zq_S (zs_iconst (n := 0) (by decide +kernel) (by decide)) (zs_iconst (n := 5) (by decide +kernel) (by decide)))) (gS_Model_fieldIn_52 hw)))))))))) (gS_Model_fieldIn_52 hw))
def g_Model_fieldIn_0 : z_T := (zq 1 (zi_aload 0 1) (zq 2 (zi_iload 1 2) (zi_iload 2 3)))
theorem gS_Model_fieldIn_0 (hw : z_Wd w) : z_S w zY_Model_fieldIn 0 g_Model_fieldIn_0 := (zq_S (zs_aload_n (k9 := 0) (by decide +kernel) rfl) (zq_S (zs_iload_n (k9 := 1) (by decide +kernel) rfl) (zs_iload_n (k9 := 2) (by decide +kernel) rfl)))
def g_Model_set_98 : z_T := (zq 99 (zi_last 99) (zq 100 (zi_iconst 1 100) (zi_zret)))
theorem gS_Model_set_98 (hw : z_Wd w) : z_S w zY_Model_set 98 g_Model_set_98 := (zq_S (zs_last hw.1 (by decide +kernel)) (zq_S (zs_iconst (n := 1) (by decide +kernel) (by decide)) (zs_zret (by decide +kernel) rfl)))
def g_Model_set_86 : z_T := (zq 88 (zi_lload 4 88) (zq 89 (zi_aload 0 89) (zq 92 (zi_get 7 6 92) (zq 94 (zi_iload 6 94) (zi_iald 95)))))
theorem gS_Model_set_86 (hw : z_Wd w) : z_S w zY_Model_set 86 g_Model_set_86 := (zq_S (zs_lload (by decide +kernel)) (zq_S (zs_aload_n (k9 := 0) (by decide +kernel) rfl) (zq_S (zs_get hw.1 (by decide +kernel) (zf_Model_26 hw)) (zq_S (zs_iload (by decide +kernel)) (zs_iald hw.1 (by decide +kernel))))))
def g_Model_set_55 : z_T := (zq 56 (zi_aload 0 56) (zq 59 (zi_get 7 10 59) (zq 61 (zi_bipush 60 61) (zq 62 (zi_iload 1 62) (zq 63 (zi_imul 63) (zq 65 (zi_bipush 10 65) (zq 66 (zi_iload 2 66) (zq 67 (zi_imul 67) (zq 68 (zi_iadd 68) (zq 69 (zi_iload 3 69) (zq 70 (zi_iadd 70) (zq 71 (zi_aload 0 71) (zq 74 (zi_get 7 6 74) (zq 76 (zi_iload 6 76) (zq 77 (zi_iald 77) (zq 78 (zi_iconst 4 78) (zb 81 86 (zi_icmp_ne 86 81) (zq 83 (zi_lload 4 83) (zq 98 (zi_goto 98) g_Model_set_98)) g_Model_set_86)))))))))))))))))
theorem gS_Model_set_55 (hw : z_Wd w) : z_S w zY_Model_set 55 g_Model_set_55 := (zq_S (zs_aload_n (k9 := 0) (by decide +kernel) rfl) (zq_S (zs_get hw.1 (by decide +kernel) (zf_Model_38 hw)) (zq_S (zs_bipush (n := 60) (by decide +kernel) (by decide)) (zq_S (zs_iload_n (k9 := 1) (by decide +kernel) rfl) (zq_S (zs_imul (by decide +kernel)) (zq_S (zs_bipush (n := 10) (by decide +kernel) (by decide)) (zq_S (zs_iload_n (k9 := 2) (by decide +kernel) rfl) (zq_S (zs_imul (by decide +kernel)) (zq_S (zs_iadd (by decide +kernel)) (zq_S (zs_iload_n (k9 := 3) (by decide +kernel) rfl) (zq_S (zs_iadd (by decide +kernel)) (zq_S (zs_aload_n (k9 := 0) (by decide +kernel) rfl) (zq_S (zs_get hw.1 (by decide +kernel) (zf_Model_26 hw)) (zq_S (zs_iload (by decide +kernel)) (zq_S (zs_iald hw.1 (by decide +kernel)) (zq_S (zs_iconst (n := 4) (by decide +kernel) (by decide)) (zb_S (zs_icmp_ne (off := 8) (by decide +kernel) (by decide)) (zq_S (zs_lload (by decide +kernel)) (zq_S (zs_goto (off := 15) (by decide +kernel) (by decide)) (gS_Model_set_98 hw))) (gS_Model_set_86 hw))))))))))))))))))
def g_Model_set_53 : z_T := (zq 54 (zi_iconst 0 54) (zi_zret))
theorem gS_Model_set_53 (hw : z_Wd w) : z_S w zY_Model_set 53 g_Model_set_53 := (zq_S (zs_iconst (n := 0) (by decide +kernel) (by decide)) (zs_zret (by decide +kernel) rfl))
def g_Model_set_13 : z_T := (zq 15 (zi_istore 6 15) (zq 17 (zi_iload 6 17) (zb 20 53 (zi_if_lt 53 20) (zq 21 (zi_aload 0 21) (zq 24 (zi_get 7 6 24) (zq 26 (zi_iload 6 26) (zq 27 (zi_iald 27) (zq 28 (zi_iconst 4 28) (zq 31 (zi_icmp_ne 55 31) (zq 33 (zi_lload 4 33) (zq 36 (zi_ldc2 (-1) 36) (zq 37 (zi_lcmp 37) (zb 40 53 (zi_if_lt 53 40) (zq 42 (zi_lload 4 42) (zq 43 (zi_aload 0 43) (zq 46 (zi_get 7 7 46) (zq 47 (zi_iconst 0 47) (zq 48 (zi_iald 48) (zq 49 (zi_i2l 49) (zq 50 (zi_lcmp 50) (zq 53 (zi_if_lt 55 53) g_Model_set_53)))))))) g_Model_set_53)))))))))) g_Model_set_53)))
theorem gS_Model_set_13 (hw : z_Wd w) : z_S w zY_Model_set 13 g_Model_set_13 := (zq_S (zs_istore (by decide +kernel) (by decide)) (zq_S (zs_iload (by decide +kernel)) (zb_S (zs_if_lt (off := 36) (by decide +kernel) (by decide)) (zq_S (zs_aload_n (k9 := 0) (by decide +kernel) rfl) (zq_S (zs_get hw.1 (by decide +kernel) (zf_Model_26 hw)) (zq_S (zs_iload (by decide +kernel)) (zq_S (zs_iald hw.1 (by decide +kernel)) (zq_S (zs_iconst (n := 4) (by decide +kernel) (by decide)) (zq_S (zs_icmp_ne (off := 27) (by decide +kernel) (by decide)) (zq_S (zs_lload (by decide +kernel)) (zq_S (zs_ldc2 (idx := 123) (by decide +kernel) (zw_842 hw)) (zq_S (zs_lcmp (by decide +kernel)) (zb_S (zs_if_lt (off := 16) (by decide +kernel) (by decide)) (zq_S (zs_lload (by decide +kernel)) (zq_S (zs_aload_n (k9 := 0) (by decide +kernel) rfl) (zq_S (zs_get hw.1 (by decide +kernel) (zf_Model_29 hw)) (zq_S (zs_iconst (n := 0) (by decide +kernel) (by decide)) (zq_S (zs_iald hw.1 (by decide +kernel)) (zq_S (zs_i2l (by decide +kernel)) (zq_S (zs_lcmp (by decide +kernel)) (zq_S (zs_if_lt (off := 5) (by decide +kernel) (by decide)) (gS_Model_set_53 hw))))))))) (gS_Model_set_53 hw))))))))))) (gS_Model_set_53 hw))))
def g_Model_set_0 : z_T := (zq 1 (zi_aload 0 1) (zq 2 (zi_iconst 0 2) (zq 5 (zi_put 7 0 (.int) 5) (zq 6 (zi_aload 0 6) (zq 7 (zi_iconst 0 7) (zq 8 (zi_iload 1 8) (zq 9 (zi_iload 2 9) (zi_iload 3 10))))))))
theorem gS_Model_set_0 (hw : z_Wd w) : z_S w zY_Model_set 0 g_Model_set_0 := (zq_S (zs_aload_n (k9 := 0) (by decide +kernel) rfl) (zq_S (zs_iconst (n := 0) (by decide +kernel) (by decide)) (zq_S (zs_put hw.1 (by decide +kernel) (zp_Model_106 hw) (fun h => by cases h)) (zq_S (zs_aload_n (k9 := 0) (by decide +kernel) rfl) (zq_S (zs_iconst (n := 0) (by decide +kernel) (by decide)) (zq_S (zs_iload_n (k9 := 1) (by decide +kernel) rfl) (zq_S (zs_iload_n (k9 := 2) (by decide +kernel) rfl) (zs_iload_n (k9 := 3) (by decide +kernel) rfl))))))))
def g_Model_link_45 : z_T := (zq 46 (zi_aload 0 46) (zq 49 (zi_get 7 11 49) (zq 50 (zi_iconst 5 50) (zq 51 (zi_iload 1 51) (zq 52 (zi_imul 52) (zq 53 (zi_iload 2 53) (zq 54 (zi_iadd 54) (zq 55 (zi_iload 3 55) (zq 56 (zi_iast 56) (zq 57 (zi_iconst 1 57) (zi_zret)))))))))))
theorem gS_Model_link_45 (hw : z_Wd w) : z_S w zY_Model_link 45 g_Model_link_45 := (zq_S (zs_aload_n (k9 := 0) (by decide +kernel) rfl) (zq_S (zs_get hw.1 (by decide +kernel) (zf_Model_42 hw)) (zq_S (zs_iconst (n := 5) (by decide +kernel) (by decide)) (zq_S (zs_iload_n (k9 := 1) (by decide +kernel) rfl) (zq_S (zs_imul (by decide +kernel)) (zq_S (zs_iload_n (k9 := 2) (by decide +kernel) rfl) (zq_S (zs_iadd (by decide +kernel)) (zq_S (zs_iload_n (k9 := 3) (by decide +kernel) rfl) (zq_S (zs_iast hw.1 (by decide +kernel)) (zq_S (zs_iconst (n := 1) (by decide +kernel) (by decide)) (zs_zret (by decide +kernel) rfl)))))))))))
def g_Model_link_43 : z_T := (zq 44 (zi_iconst 0 44) (zi_zret))
theorem gS_Model_link_43 (hw : z_Wd w) : z_S w zY_Model_link 43 g_Model_link_43 := (zq_S (zs_iconst (n := 0) (by decide +kernel) (by decide)) (zs_zret (by decide +kernel) rfl))
def g_Model_link_11 : z_T := (zb 14 43 (zi_if_eq 43 14) (zq 15 (zi_iload 2 15) (zb 18 43 (zi_if_lt 43 18) (zq 19 (zi_iload 2 19) (zq 20 (zi_aload 0 20) (zq 23 (zi_get 7 9 23) (zq 24 (zi_iload 1 24) (zq 25 (zi_iald 25) (zb 28 43 (zi_icmp_ge 43 28) (zq 29 (zi_iload 3 29) (zq 30 (zi_iconst (-1) 30) (zb 33 43 (zi_icmp_lt 43 33) (zq 34 (zi_iload 3 34) (zq 35 (zi_aload 0 35) (zq 38 (zi_get 7 7 38) (zq 39 (zi_iconst 0 39) (zq 40 (zi_iald 40) (zb 43 45 (zi_icmp_lt 45 43) g_Model_link_43 g_Model_link_45)))))) g_Model_link_43))) g_Model_link_43)))))) g_Model_link_43)) g_Model_link_43)
theorem gS_Model_link_11 (hw : z_Wd w) : z_S w zY_Model_link 11 g_Model_link_11 := (zb_S (zs_if_eq (off := 32) (by decide +kernel) (by decide)) (zq_S (zs_iload_n (k9 := 2) (by decide +kernel) rfl) (zb_S (zs_if_lt (off := 28) (by decide +kernel) (by decide)) (zq_S (zs_iload_n (k9 := 2) (by decide +kernel) rfl) (zq_S (zs_aload_n (k9 := 0) (by decide +kernel) rfl) (zq_S (zs_get hw.1 (by decide +kernel) (zf_Model_35 hw)) (zq_S (zs_iload_n (k9 := 1) (by decide +kernel) rfl) (zq_S (zs_iald hw.1 (by decide +kernel)) (zb_S (zs_icmp_ge (off := 18) (by decide +kernel) (by decide)) (zq_S (zs_iload_n (k9 := 3) (by decide +kernel) rfl) (zq_S (zs_iconst (n := (-1)) (by decide +kernel) (by decide)) (zb_S (zs_icmp_lt (off := 13) (by decide +kernel) (by decide)) (zq_S (zs_iload_n (k9 := 3) (by decide +kernel) rfl) (zq_S (zs_aload_n (k9 := 0) (by decide +kernel) rfl) (zq_S (zs_get hw.1 (by decide +kernel) (zf_Model_29 hw)) (zq_S (zs_iconst (n := 0) (by decide +kernel) (by decide)) (zq_S (zs_iald hw.1 (by decide +kernel)) (zb_S (zs_icmp_lt (off := 5) (by decide +kernel) (by decide)) (gS_Model_link_43 hw) (gS_Model_link_45 hw))))))) (gS_Model_link_43 hw)))) (gS_Model_link_43 hw))))))) (gS_Model_link_43 hw))) (gS_Model_link_43 hw))
def g_Model_link_0 : z_T := (zq 1 (zi_aload 0 1) (zq 2 (zi_iconst 0 2) (zq 5 (zi_put 7 0 (.int) 5) (zq 6 (zi_aload 0 6) (zq 7 (zi_iconst 0 7) (zi_iload 1 8))))))
theorem gS_Model_link_0 (hw : z_Wd w) : z_S w zY_Model_link 0 g_Model_link_0 := (zq_S (zs_aload_n (k9 := 0) (by decide +kernel) rfl) (zq_S (zs_iconst (n := 0) (by decide +kernel) (by decide)) (zq_S (zs_put hw.1 (by decide +kernel) (zp_Model_106 hw) (fun h => by cases h)) (zq_S (zs_aload_n (k9 := 0) (by decide +kernel) rfl) (zq_S (zs_iconst (n := 0) (by decide +kernel) (by decide)) (zs_iload_n (k9 := 1) (by decide +kernel) rfl))))))
def g_Model_clear_0 : z_T := (zq 1 (zi_aload 0 1) (zq 2 (zi_iconst 0 2) (zq 5 (zi_put 7 0 (.int) 5) (zq 6 (zi_aload 0 6) (zq 9 (zi_get 7 7 9) (zq 10 (zi_iconst 0 10) (zq 11 (zi_iconst 0 11) (zq 12 (zi_iast 12) (zi_vret)))))))))
theorem gS_Model_clear_0 (hw : z_Wd w) : z_S w zY_Model_clear 0 g_Model_clear_0 := (zq_S (zs_aload_n (k9 := 0) (by decide +kernel) rfl) (zq_S (zs_iconst (n := 0) (by decide +kernel) (by decide)) (zq_S (zs_put hw.1 (by decide +kernel) (zp_Model_106 hw) (fun h => by cases h)) (zq_S (zs_aload_n (k9 := 0) (by decide +kernel) rfl) (zq_S (zs_get hw.1 (by decide +kernel) (zf_Model_29 hw)) (zq_S (zs_iconst (n := 0) (by decide +kernel) (by decide)) (zq_S (zs_iconst (n := 0) (by decide +kernel) (by decide)) (zq_S (zs_iast hw.1 (by decide +kernel)) (zs_vret (by decide +kernel) rfl)))))))))
def g_Model_say_24 : z_T := (zq 25 (zi_aload 0 25) (zq 26 (zi_dup 26) (zq 29 (zi_get 7 12 29) (zq 30 (zi_iconst 1 30) (zq 31 (zi_iadd 31) (zq 34 (zi_put 7 12 (.int) 34) (zi_vret)))))))
theorem gS_Model_say_24 (hw : z_Wd w) : z_S w zY_Model_say 24 g_Model_say_24 := (zq_S (zs_aload_n (k9 := 0) (by decide +kernel) rfl) (zq_S (zs_dup (by decide +kernel)) (zq_S (zs_get hw.1 (by decide +kernel) (zf_Model_144 hw)) (zq_S (zs_iconst (n := 1) (by decide +kernel) (by decide)) (zq_S (zs_iadd (by decide +kernel)) (zq_S (zs_put hw.1 (by decide +kernel) (zp_Model_144 hw) (fun h => by cases h)) (zs_vret (by decide +kernel) rfl)))))))
def g_Model_say_0 : z_T := (zq 1 (zi_aload 0 1) (zq 4 (zi_get 7 12 4) (zq 7 (zi_sipush 1000 7) (zq 10 (zi_icmp_ge 24 10) (zq 11 (zi_aload 0 11) (zq 14 (zi_get 7 13 14) (zq 15 (zi_aload 0 15) (zq 18 (zi_get 7 12 18) (zq 19 (zi_iload 1 19) (zq 22 (zi_sipush 255 22) (zq 23 (zi_iand 23) (zi_iast 24))))))))))))
theorem gS_Model_say_0 (hw : z_Wd w) : z_S w zY_Model_say 0 g_Model_say_0 := (zq_S (zs_aload_n (k9 := 0) (by decide +kernel) rfl) (zq_S (zs_get hw.1 (by decide +kernel) (zf_Model_144 hw)) (zq_S (zs_sipush (n := 1000) (by decide +kernel) (by decide)) (zq_S (zs_icmp_ge (off := 17) (by decide +kernel) (by decide)) (zq_S (zs_aload_n (k9 := 0) (by decide +kernel) rfl) (zq_S (zs_get hw.1 (by decide +kernel) (zf_Model_45 hw)) (zq_S (zs_aload_n (k9 := 0) (by decide +kernel) rfl) (zq_S (zs_get hw.1 (by decide +kernel) (zf_Model_144 hw)) (zq_S (zs_iload_n (k9 := 1) (by decide +kernel) rfl) (zq_S (zs_sipush (n := 255) (by decide +kernel) (by decide)) (zq_S (zs_iand (by decide +kernel)) (zs_iast hw.1 (by decide +kernel)))))))))))))
def g_Model_sayHandle_19 : z_T := (zi_vret)
theorem gS_Model_sayHandle_19 (hw : z_Wd w) : z_S w zY_Model_sayHandle 19 g_Model_sayHandle_19 := (zs_vret (by decide +kernel) rfl)
def g_Model_sayHandle_14 : z_T := (zq 15 (zi_aload 0 15) (zi_iload 1 16))
theorem gS_Model_sayHandle_14 (hw : z_Wd w) : z_S w zY_Model_sayHandle 14 g_Model_sayHandle_14 := (zq_S (zs_aload_n (k9 := 0) (by decide +kernel) rfl) (zs_iload_n (k9 := 1) (by decide +kernel) rfl))
def g_Model_sayHandle_6 : z_T := (zq 7 (zi_aload 0 7) (zq 8 (zi_iload 1 8) (zq 10 (zi_bipush 8 10) (zi_ishr 11))))
theorem gS_Model_sayHandle_6 (hw : z_Wd w) : z_S w zY_Model_sayHandle 6 g_Model_sayHandle_6 := (zq_S (zs_aload_n (k9 := 0) (by decide +kernel) rfl) (zq_S (zs_iload_n (k9 := 1) (by decide +kernel) rfl) (zq_S (zs_bipush (n := 8) (by decide +kernel) (by decide)) (zs_ishr (by decide +kernel)))))
def g_Model_sayHandle_0 : z_T := (zq 1 (zi_aload 0 1) (zi_bipush 113 3))
theorem gS_Model_sayHandle_0 (hw : z_Wd w) : z_S w zY_Model_sayHandle 0 g_Model_sayHandle_0 := (zq_S (zs_aload_n (k9 := 0) (by decide +kernel) rfl) (zs_bipush (n := 113) (by decide +kernel) (by decide)))
def g_Model_sayNumber_38 : z_T := (zi_vret)
theorem gS_Model_sayNumber_38 (hw : z_Wd w) : z_S w zY_Model_sayNumber 38 g_Model_sayNumber_38 := (zs_vret (by decide +kernel) rfl)
def g_Model_sayNumber_32 : z_T := (zq 35 (zi_iinc 5 (-1) 35) (zi_goto 11))
theorem gS_Model_sayNumber_32 (hw : z_Wd w) : z_S w zY_Model_sayNumber 32 g_Model_sayNumber_32 := (zq_S (zs_iinc (n := (-1)) (by decide +kernel) (by decide) (by decide)) (zs_goto (off := -24) (by decide +kernel) (by decide)))
def g_Model_sayNumber_11 : z_T := (zq 13 (zi_iload 5 13) (zb 16 38 (zi_if_lt 38 16) (zq 17 (zi_aload 0 17) (zq 18 (zi_lload 1 18) (zq 20 (zi_bipush 8 20) (zq 22 (zi_iload 5 22) (zq 23 (zi_imul 23) (zq 24 (zi_lshr 24) (zq 27 (zi_ldc2 255 27) (zq 28 (zi_land 28) (zi_l2i 29))))))))) g_Model_sayNumber_38))
theorem gS_Model_sayNumber_11 (hw : z_Wd w) : z_S w zY_Model_sayNumber 11 g_Model_sayNumber_11 := (zq_S (zs_iload (by decide +kernel)) (zb_S (zs_if_lt (off := 25) (by decide +kernel) (by decide)) (zq_S (zs_aload_n (k9 := 0) (by decide +kernel) rfl) (zq_S (zs_lload_n (k9 := 1) (by decide +kernel) rfl) (zq_S (zs_bipush (n := 8) (by decide +kernel) (by decide)) (zq_S (zs_iload (by decide +kernel)) (zq_S (zs_imul (by decide +kernel)) (zq_S (zs_lshr (by decide +kernel)) (zq_S (zs_ldc2 (idx := 151) (by decide +kernel) (zw_902 hw)) (zq_S (zs_land (by decide +kernel)) (zs_l2i (by decide +kernel)))))))))) (gS_Model_sayNumber_38 hw)))
def g_Model_sayNumber_0 : z_T := (zq 1 (zi_iconst 1 1) (zq 2 (zi_iload 3 2) (zq 3 (zi_ishl 3) (zq 5 (zi_istore 4 5) (zq 7 (zi_iload 4 7) (zq 8 (zi_iconst 1 8) (zq 9 (zi_isub 9) (zi_istore 5 11))))))))
theorem gS_Model_sayNumber_0 (hw : z_Wd w) : z_S w zY_Model_sayNumber 0 g_Model_sayNumber_0 := (zq_S (zs_iconst (n := 1) (by decide +kernel) (by decide)) (zq_S (zs_iload_n (k9 := 3) (by decide +kernel) rfl) (zq_S (zs_ishl (by decide +kernel)) (zq_S (zs_istore (by decide +kernel) (by decide)) (zq_S (zs_iload (by decide +kernel)) (zq_S (zs_iconst (n := 1) (by decide +kernel) (by decide)) (zq_S (zs_isub (by decide +kernel)) (zs_istore (by decide +kernel) (by decide)))))))))
def g_Model_sayDescription_139 : z_T := (zi_vret)
theorem gS_Model_sayDescription_139 (hw : z_Wd w) : z_S w zY_Model_sayDescription 139 g_Model_sayDescription_139 := (zs_vret (by decide +kernel) rfl)
def g_Model_sayDescription_133 : z_T := (zq 134 (zi_aload 0 134) (zi_bipush 112 136))
theorem gS_Model_sayDescription_133 (hw : z_Wd w) : z_S w zY_Model_sayDescription 133 g_Model_sayDescription_133 := (zq_S (zs_aload_n (k9 := 0) (by decide +kernel) rfl) (zs_bipush (n := 112) (by decide +kernel) (by decide)))
def g_Model_sayDescription_129 : z_T := (zq 130 (zi_istore 2 130) (zi_goto 2))
theorem gS_Model_sayDescription_129 (hw : z_Wd w) : z_S w zY_Model_sayDescription 129 g_Model_sayDescription_129 := (zq_S (zs_istore_n (k9 := 2) (by decide +kernel) rfl (by decide)) (zs_goto (off := -128) (by decide +kernel) (by decide)))
def g_Model_sayDescription_103 : z_T := (zq 104 (zi_aload 0 104) (zq 107 (zi_get 7 17 107) (zq 108 (zi_iload 2 108) (zq 109 (zi_aload 0 109) (zq 112 (zi_get 7 16 112) (zq 113 (zi_iast 113) (zq 114 (zi_aload 0 114) (zq 115 (zi_dup 115) (zq 118 (zi_get 7 16 118) (zq 119 (zi_iconst 1 119) (zq 120 (zi_iadd 120) (zq 123 (zi_put 7 16 (.int) 123) (zq 124 (zi_aload 0 124) (zq 125 (zi_iconst 0 125) (zi_iload 2 126)))))))))))))))
theorem gS_Model_sayDescription_103 (hw : z_Wd w) : z_S w zY_Model_sayDescription 103 g_Model_sayDescription_103 := (zq_S (zs_aload_n (k9 := 0) (by decide +kernel) rfl) (zq_S (zs_get hw.1 (by decide +kernel) (zf_Model_55 hw)) (zq_S (zs_iload_n (k9 := 2) (by decide +kernel) rfl) (zq_S (zs_aload_n (k9 := 0) (by decide +kernel) rfl) (zq_S (zs_get hw.1 (by decide +kernel) (zf_Model_160 hw)) (zq_S (zs_iast hw.1 (by decide +kernel)) (zq_S (zs_aload_n (k9 := 0) (by decide +kernel) rfl) (zq_S (zs_dup (by decide +kernel)) (zq_S (zs_get hw.1 (by decide +kernel) (zf_Model_160 hw)) (zq_S (zs_iconst (n := 1) (by decide +kernel) (by decide)) (zq_S (zs_iadd (by decide +kernel)) (zq_S (zs_put hw.1 (by decide +kernel) (zp_Model_160 hw) (fun h => by cases h)) (zq_S (zs_aload_n (k9 := 0) (by decide +kernel) rfl) (zq_S (zs_iconst (n := 0) (by decide +kernel) (by decide)) (zs_iload_n (k9 := 2) (by decide +kernel) rfl)))))))))))))))
def g_Model_sayDescription_97 : z_T := (zq 100 (zi_iinc 3 1 100) (zi_goto 63))
theorem gS_Model_sayDescription_97 (hw : z_Wd w) : z_S w zY_Model_sayDescription 97 g_Model_sayDescription_97 := (zq_S (zs_iinc (n := 1) (by decide +kernel) (by decide) (by decide)) (zs_goto (off := -37) (by decide +kernel) (by decide)))
def g_Model_sayDescription_87 : z_T := (zq 88 (zi_aload 0 88) (zq 89 (zi_aload 0 89) (zq 92 (zi_get 7 6 92) (zq 93 (zi_iload 3 93) (zi_iald 94)))))
theorem gS_Model_sayDescription_87 (hw : z_Wd w) : z_S w zY_Model_sayDescription 87 g_Model_sayDescription_87 := (zq_S (zs_aload_n (k9 := 0) (by decide +kernel) rfl) (zq_S (zs_aload_n (k9 := 0) (by decide +kernel) rfl) (zq_S (zs_get hw.1 (by decide +kernel) (zf_Model_26 hw)) (zq_S (zs_iload_n (k9 := 3) (by decide +kernel) rfl) (zs_iald hw.1 (by decide +kernel))))))
def g_Model_sayDescription_63 : z_T := (zq 64 (zi_iload 3 64) (zq 65 (zi_iconst 4 65) (zq 66 (zi_iload 2 66) (zq 67 (zi_imul 67) (zq 68 (zi_aload 0 68) (zq 71 (zi_get 7 4 71) (zq 72 (zi_iload 2 72) (zq 73 (zi_iald 73) (zq 74 (zi_iadd 74) (zb 77 103 (zi_icmp_ge 103 77) (zq 78 (zi_aload 0 78) (zq 79 (zi_aload 0 79) (zq 82 (zi_get 7 5 82) (zq 83 (zi_iload 3 83) (zi_iald 84))))) g_Model_sayDescription_103))))))))))
theorem gS_Model_sayDescription_63 (hw : z_Wd w) : z_S w zY_Model_sayDescription 63 g_Model_sayDescription_63 := (zq_S (zs_iload_n (k9 := 3) (by decide +kernel) rfl) (zq_S (zs_iconst (n := 4) (by decide +kernel) (by decide)) (zq_S (zs_iload_n (k9 := 2) (by decide +kernel) rfl) (zq_S (zs_imul (by decide +kernel)) (zq_S (zs_aload_n (k9 := 0) (by decide +kernel) rfl) (zq_S (zs_get hw.1 (by decide +kernel) (zf_Model_20 hw)) (zq_S (zs_iload_n (k9 := 2) (by decide +kernel) rfl) (zq_S (zs_iald hw.1 (by decide +kernel)) (zq_S (zs_iadd (by decide +kernel)) (zb_S (zs_icmp_ge (off := 29) (by decide +kernel) (by decide)) (zq_S (zs_aload_n (k9 := 0) (by decide +kernel) rfl) (zq_S (zs_aload_n (k9 := 0) (by decide +kernel) rfl) (zq_S (zs_get hw.1 (by decide +kernel) (zf_Model_23 hw)) (zq_S (zs_iload_n (k9 := 3) (by decide +kernel) rfl) (zs_iald hw.1 (by decide +kernel)))))) (gS_Model_sayDescription_103 hw)))))))))))
def g_Model_sayDescription_59 : z_T := (zq 60 (zi_iconst 4 60) (zq 61 (zi_iload 2 61) (zq 62 (zi_imul 62) (zi_istore 3 63))))
theorem gS_Model_sayDescription_59 (hw : z_Wd w) : z_S w zY_Model_sayDescription 59 g_Model_sayDescription_59 := (zq_S (zs_iconst (n := 4) (by decide +kernel) (by decide)) (zq_S (zs_iload_n (k9 := 2) (by decide +kernel) rfl) (zq_S (zs_imul (by decide +kernel)) (zs_istore_n (k9 := 3) (by decide +kernel) rfl (by decide)))))
def g_Model_sayDescription_49 : z_T := (zq 50 (zi_aload 0 50) (zq 51 (zi_aload 0 51) (zq 54 (zi_get 7 4 54) (zq 55 (zi_iload 2 55) (zi_iald 56)))))
theorem gS_Model_sayDescription_49 (hw : z_Wd w) : z_S w zY_Model_sayDescription 49 g_Model_sayDescription_49 := (zq_S (zs_aload_n (k9 := 0) (by decide +kernel) rfl) (zq_S (zs_aload_n (k9 := 0) (by decide +kernel) rfl) (zq_S (zs_get hw.1 (by decide +kernel) (zf_Model_20 hw)) (zq_S (zs_iload_n (k9 := 2) (by decide +kernel) rfl) (zs_iald hw.1 (by decide +kernel))))))
def g_Model_sayDescription_37 : z_T := (zq 38 (zi_aload 0 38) (zq 39 (zi_aload 0 39) (zq 42 (zi_get 7 3 42) (zq 43 (zi_iload 2 43) (zq 44 (zi_iald 44) (zq 45 (zi_i2l 45) (zi_iconst 2 46)))))))
theorem gS_Model_sayDescription_37 (hw : z_Wd w) : z_S w zY_Model_sayDescription 37 g_Model_sayDescription_37 := (zq_S (zs_aload_n (k9 := 0) (by decide +kernel) rfl) (zq_S (zs_aload_n (k9 := 0) (by decide +kernel) rfl) (zq_S (zs_get hw.1 (by decide +kernel) (zf_Model_17 hw)) (zq_S (zs_iload_n (k9 := 2) (by decide +kernel) rfl) (zq_S (zs_iald hw.1 (by decide +kernel)) (zq_S (zs_i2l (by decide +kernel)) (zs_iconst (n := 2) (by decide +kernel) (by decide))))))))
def g_Model_sayDescription_32 : z_T := (zq 33 (zi_aload 0 33) (zi_iload 2 34))
theorem gS_Model_sayDescription_32 (hw : z_Wd w) : z_S w zY_Model_sayDescription 32 g_Model_sayDescription_32 := (zq_S (zs_aload_n (k9 := 0) (by decide +kernel) rfl) (zs_iload_n (k9 := 2) (by decide +kernel) rfl))
def g_Model_sayDescription_26 : z_T := (zq 27 (zi_aload 0 27) (zi_bipush 114 29))
theorem gS_Model_sayDescription_26 (hw : z_Wd w) : z_S w zY_Model_sayDescription 26 g_Model_sayDescription_26 := (zq_S (zs_aload_n (k9 := 0) (by decide +kernel) rfl) (zs_bipush (n := 114) (by decide +kernel) (by decide)))
def g_Model_sayDescription_25 : z_T := (zi_vret)
theorem gS_Model_sayDescription_25 (hw : z_Wd w) : z_S w zY_Model_sayDescription 25 g_Model_sayDescription_25 := (zs_vret (by decide +kernel) rfl)
def g_Model_sayDescription_2 : z_T := (zq 3 (zi_iload 2 3) (zb 6 133 (zi_if_lt 133 6) (zq 7 (zi_aload 0 7) (zq 10 (zi_get 7 17 10) (zq 11 (zi_iload 2 11) (zq 12 (zi_iald 12) (zb 15 26 (zi_if_lt 26 15) (zq 16 (zi_aload 0 16) (zq 17 (zi_aload 0 17) (zq 20 (zi_get 7 17 20) (zq 21 (zi_iload 2 21) (zi_iald 22))))) g_Model_sayDescription_26))))) g_Model_sayDescription_133))
theorem gS_Model_sayDescription_2 (hw : z_Wd w) : z_S w zY_Model_sayDescription 2 g_Model_sayDescription_2 := (zq_S (zs_iload_n (k9 := 2) (by decide +kernel) rfl) (zb_S (zs_if_lt (off := 130) (by decide +kernel) (by decide)) (zq_S (zs_aload_n (k9 := 0) (by decide +kernel) rfl) (zq_S (zs_get hw.1 (by decide +kernel) (zf_Model_55 hw)) (zq_S (zs_iload_n (k9 := 2) (by decide +kernel) rfl) (zq_S (zs_iald hw.1 (by decide +kernel)) (zb_S (zs_if_lt (off := 14) (by decide +kernel) (by decide)) (zq_S (zs_aload_n (k9 := 0) (by decide +kernel) rfl) (zq_S (zs_aload_n (k9 := 0) (by decide +kernel) rfl) (zq_S (zs_get hw.1 (by decide +kernel) (zf_Model_55 hw)) (zq_S (zs_iload_n (k9 := 2) (by decide +kernel) rfl) (zs_iald hw.1 (by decide +kernel)))))) (gS_Model_sayDescription_26 hw)))))) (gS_Model_sayDescription_133 hw)))
def g_Model_sayDescription_0 : z_T := (zq 1 (zi_iload 1 1) (zi_istore 2 2))
theorem gS_Model_sayDescription_0 (hw : z_Wd w) : z_S w zY_Model_sayDescription 0 g_Model_sayDescription_0 := (zq_S (zs_iload_n (k9 := 1) (by decide +kernel) rfl) (zs_istore_n (k9 := 2) (by decide +kernel) rfl (by decide)))
def g_Model_sayValue_75 : z_T := (zq 76 (zi_aload 0 76) (zq 79 (zi_get 7 18 79) (zq 80 (zi_iload 1 80) (zq 81 (zi_aload 0 81) (zq 84 (zi_get 7 16 84) (zq 85 (zi_iast 85) (zq 86 (zi_aload 0 86) (zq 87 (zi_dup 87) (zq 90 (zi_get 7 16 90) (zq 91 (zi_iconst 1 91) (zq 92 (zi_iadd 92) (zq 95 (zi_put 7 16 (.int) 95) (zq 96 (zi_aload 0 96) (zq 99 (zi_get 7 21 99) (zq 100 (zi_aload 0 100) (zq 103 (zi_get 7 20 103) (zq 104 (zi_iload 1 104) (zq 105 (zi_iast 105) (zq 106 (zi_aload 0 106) (zq 109 (zi_get 7 22 109) (zq 110 (zi_aload 0 110) (zq 113 (zi_get 7 20 113) (zq 114 (zi_iconst 0 114) (zq 115 (zi_iast 115) (zq 116 (zi_aload 0 116) (zq 117 (zi_dup 117) (zq 120 (zi_get 7 20 120) (zq 121 (zi_iconst 1 121) (zq 122 (zi_iadd 122) (zq 125 (zi_put 7 20 (.int) 125) (zi_vret)))))))))))))))))))))))))))))))
theorem gS_Model_sayValue_75 (hw : z_Wd w) : z_S w zY_Model_sayValue 75 g_Model_sayValue_75 := (zq_S (zs_aload_n (k9 := 0) (by decide +kernel) rfl) (zq_S (zs_get hw.1 (by decide +kernel) (zf_Model_58 hw)) (zq_S (zs_iload_n (k9 := 1) (by decide +kernel) rfl) (zq_S (zs_aload_n (k9 := 0) (by decide +kernel) rfl) (zq_S (zs_get hw.1 (by decide +kernel) (zf_Model_160 hw)) (zq_S (zs_iast hw.1 (by decide +kernel)) (zq_S (zs_aload_n (k9 := 0) (by decide +kernel) rfl) (zq_S (zs_dup (by decide +kernel)) (zq_S (zs_get hw.1 (by decide +kernel) (zf_Model_160 hw)) (zq_S (zs_iconst (n := 1) (by decide +kernel) (by decide)) (zq_S (zs_iadd (by decide +kernel)) (zq_S (zs_put hw.1 (by decide +kernel) (zp_Model_160 hw) (fun h => by cases h)) (zq_S (zs_aload_n (k9 := 0) (by decide +kernel) rfl) (zq_S (zs_get hw.1 (by decide +kernel) (zf_Model_64 hw)) (zq_S (zs_aload_n (k9 := 0) (by decide +kernel) rfl) (zq_S (zs_get hw.1 (by decide +kernel) (zf_Model_166 hw)) (zq_S (zs_iload_n (k9 := 1) (by decide +kernel) rfl) (zq_S (zs_iast hw.1 (by decide +kernel)) (zq_S (zs_aload_n (k9 := 0) (by decide +kernel) rfl) (zq_S (zs_get hw.1 (by decide +kernel) (zf_Model_67 hw)) (zq_S (zs_aload_n (k9 := 0) (by decide +kernel) rfl) (zq_S (zs_get hw.1 (by decide +kernel) (zf_Model_166 hw)) (zq_S (zs_iconst (n := 0) (by decide +kernel) (by decide)) (zq_S (zs_iast hw.1 (by decide +kernel)) (zq_S (zs_aload_n (k9 := 0) (by decide +kernel) rfl) (zq_S (zs_dup (by decide +kernel)) (zq_S (zs_get hw.1 (by decide +kernel) (zf_Model_166 hw)) (zq_S (zs_iconst (n := 1) (by decide +kernel) (by decide)) (zq_S (zs_iadd (by decide +kernel)) (zq_S (zs_put hw.1 (by decide +kernel) (zp_Model_166 hw) (fun h => by cases h)) (zs_vret (by decide +kernel) rfl)))))))))))))))))))))))))))))))
def g_Model_sayValue_65 : z_T := (zq 66 (zi_aload 0 66) (zq 67 (zi_aload 0 67) (zq 70 (zi_get 7 8 70) (zq 71 (zi_iload 1 71) (zi_iald 72)))))
theorem gS_Model_sayValue_65 (hw : z_Wd w) : z_S w zY_Model_sayValue 65 g_Model_sayValue_65 := (zq_S (zs_aload_n (k9 := 0) (by decide +kernel) rfl) (zq_S (zs_aload_n (k9 := 0) (by decide +kernel) rfl) (zq_S (zs_get hw.1 (by decide +kernel) (zf_Model_32 hw)) (zq_S (zs_iload_n (k9 := 1) (by decide +kernel) rfl) (zs_iald hw.1 (by decide +kernel))))))
def g_Model_sayValue_59 : z_T := (zq 60 (zi_aload 0 60) (zi_bipush 115 62))
theorem gS_Model_sayValue_59 (hw : z_Wd w) : z_S w zY_Model_sayValue 59 g_Model_sayValue_59 := (zq_S (zs_aload_n (k9 := 0) (by decide +kernel) rfl) (zs_bipush (n := 115) (by decide +kernel) (by decide)))
def g_Model_sayValue_56 : z_T := (zq 75 (zi_goto 75) g_Model_sayValue_75)
theorem gS_Model_sayValue_56 (hw : z_Wd w) : z_S w zY_Model_sayValue 56 g_Model_sayValue_56 := (zq_S (zs_goto (off := 19) (by decide +kernel) (by decide)) (gS_Model_sayValue_75 hw))
def g_Model_sayValue_46 : z_T := (zq 47 (zi_aload 0 47) (zq 48 (zi_aload 0 48) (zq 51 (zi_get 7 9 51) (zq 52 (zi_iload 1 52) (zi_iald 53)))))
theorem gS_Model_sayValue_46 (hw : z_Wd w) : z_S w zY_Model_sayValue 46 g_Model_sayValue_46 := (zq_S (zs_aload_n (k9 := 0) (by decide +kernel) rfl) (zq_S (zs_aload_n (k9 := 0) (by decide +kernel) rfl) (zq_S (zs_get hw.1 (by decide +kernel) (zf_Model_35 hw)) (zq_S (zs_iload_n (k9 := 1) (by decide +kernel) rfl) (zs_iald hw.1 (by decide +kernel))))))
def g_Model_sayValue_31 : z_T := (zq 32 (zi_aload 0 32) (zq 35 (zi_get 7 8 35) (zq 36 (zi_iload 1 36) (zq 37 (zi_iald 37) (zb 40 59 (zi_if_ge 59 40) (zq 41 (zi_aload 0 41) (zi_bipush 117 43)) g_Model_sayValue_59)))))
theorem gS_Model_sayValue_31 (hw : z_Wd w) : z_S w zY_Model_sayValue 31 g_Model_sayValue_31 := (zq_S (zs_aload_n (k9 := 0) (by decide +kernel) rfl) (zq_S (zs_get hw.1 (by decide +kernel) (zf_Model_32 hw)) (zq_S (zs_iload_n (k9 := 1) (by decide +kernel) rfl) (zq_S (zs_iald hw.1 (by decide +kernel)) (zb_S (zs_if_ge (off := 22) (by decide +kernel) (by decide)) (zq_S (zs_aload_n (k9 := 0) (by decide +kernel) rfl) (zs_bipush (n := 117) (by decide +kernel) (by decide))) (gS_Model_sayValue_59 hw))))))
def g_Model_sayValue_30 : z_T := (zi_vret)
theorem gS_Model_sayValue_30 (hw : z_Wd w) : z_S w zY_Model_sayValue 30 g_Model_sayValue_30 := (zs_vret (by decide +kernel) rfl)
def g_Model_sayValue_11 : z_T := (zq 12 (zi_aload 0 12) (zq 15 (zi_get 7 18 15) (zq 16 (zi_iload 1 16) (zq 17 (zi_iald 17) (zb 20 31 (zi_if_lt 31 20) (zq 21 (zi_aload 0 21) (zq 22 (zi_aload 0 22) (zq 25 (zi_get 7 18 25) (zq 26 (zi_iload 1 26) (zi_iald 27))))) g_Model_sayValue_31)))))
theorem gS_Model_sayValue_11 (hw : z_Wd w) : z_S w zY_Model_sayValue 11 g_Model_sayValue_11 := (zq_S (zs_aload_n (k9 := 0) (by decide +kernel) rfl) (zq_S (zs_get hw.1 (by decide +kernel) (zf_Model_58 hw)) (zq_S (zs_iload_n (k9 := 1) (by decide +kernel) rfl) (zq_S (zs_iald hw.1 (by decide +kernel)) (zb_S (zs_if_lt (off := 14) (by decide +kernel) (by decide)) (zq_S (zs_aload_n (k9 := 0) (by decide +kernel) rfl) (zq_S (zs_aload_n (k9 := 0) (by decide +kernel) rfl) (zq_S (zs_get hw.1 (by decide +kernel) (zf_Model_58 hw)) (zq_S (zs_iload_n (k9 := 1) (by decide +kernel) rfl) (zs_iald hw.1 (by decide +kernel)))))) (gS_Model_sayValue_31 hw))))))
def g_Model_sayValue_10 : z_T := (zi_vret)
theorem gS_Model_sayValue_10 (hw : z_Wd w) : z_S w zY_Model_sayValue 10 g_Model_sayValue_10 := (zs_vret (by decide +kernel) rfl)
def g_Model_sayValue_0 : z_T := (zq 1 (zi_iload 1 1) (zb 4 11 (zi_if_ge 11 4) (zq 5 (zi_aload 0 5) (zi_bipush 112 7)) g_Model_sayValue_11))
theorem gS_Model_sayValue_0 (hw : z_Wd w) : z_S w zY_Model_sayValue 0 g_Model_sayValue_0 := (zq_S (zs_iload_n (k9 := 1) (by decide +kernel) rfl) (zb_S (zs_if_ge (off := 10) (by decide +kernel) (by decide)) (zq_S (zs_aload_n (k9 := 0) (by decide +kernel) rfl) (zs_bipush (n := 112) (by decide +kernel) (by decide))) (gS_Model_sayValue_11 hw)))
def g_Model_fieldNumber_89 : z_T := (zq 90 (zi_iconst (-1) 90) (zi_iret))
theorem gS_Model_fieldNumber_89 (hw : z_Wd w) : z_S w zY_Model_fieldNumber 89 g_Model_fieldNumber_89 := (zq_S (zs_iconst (n := (-1)) (by decide +kernel) (by decide)) (zs_iret (by decide +kernel) rfl))
def g_Model_fieldNumber_72 : z_T := (zq 73 (zi_iload 3 73) (zq 74 (zi_aload 0 74) (zq 77 (zi_get 7 4 77) (zq 79 (zi_iload 5 79) (zq 80 (zi_iald 80) (zq 81 (zi_isub 81) (zq 82 (zi_istore 3 82) (zq 84 (zi_iload 5 84) (zq 86 (zi_istore 4 86) (zi_goto 5))))))))))
theorem gS_Model_fieldNumber_72 (hw : z_Wd w) : z_S w zY_Model_fieldNumber 72 g_Model_fieldNumber_72 := (zq_S (zs_iload_n (k9 := 3) (by decide +kernel) rfl) (zq_S (zs_aload_n (k9 := 0) (by decide +kernel) rfl) (zq_S (zs_get hw.1 (by decide +kernel) (zf_Model_20 hw)) (zq_S (zs_iload (by decide +kernel)) (zq_S (zs_iald hw.1 (by decide +kernel)) (zq_S (zs_isub (by decide +kernel)) (zq_S (zs_istore_n (k9 := 3) (by decide +kernel) rfl (by decide)) (zq_S (zs_iload (by decide +kernel)) (zq_S (zs_istore (by decide +kernel) (by decide)) (zs_goto (off := -81) (by decide +kernel) (by decide)))))))))))
def g_Model_fieldNumber_48 : z_T := (zq 49 (zi_iload 3 49) (zq 50 (zi_aload 0 50) (zq 53 (zi_get 7 4 53) (zq 55 (zi_iload 5 55) (zq 56 (zi_iald 56) (zb 59 72 (zi_icmp_ge 72 59) (zq 61 (zi_bipush 100 61) (zq 63 (zi_iload 5 63) (zq 64 (zi_imul 64) (zq 65 (zi_iconst 4 65) (zq 67 (zi_iload 5 67) (zq 68 (zi_imul 68) (zq 69 (zi_iadd 69) (zq 70 (zi_iload 3 70) (zq 71 (zi_iadd 71) (zi_iret)))))))))) g_Model_fieldNumber_72))))))
theorem gS_Model_fieldNumber_48 (hw : z_Wd w) : z_S w zY_Model_fieldNumber 48 g_Model_fieldNumber_48 := (zq_S (zs_iload_n (k9 := 3) (by decide +kernel) rfl) (zq_S (zs_aload_n (k9 := 0) (by decide +kernel) rfl) (zq_S (zs_get hw.1 (by decide +kernel) (zf_Model_20 hw)) (zq_S (zs_iload (by decide +kernel)) (zq_S (zs_iald hw.1 (by decide +kernel)) (zb_S (zs_icmp_ge (off := 16) (by decide +kernel) (by decide)) (zq_S (zs_bipush (n := 100) (by decide +kernel) (by decide)) (zq_S (zs_iload (by decide +kernel)) (zq_S (zs_imul (by decide +kernel)) (zq_S (zs_iconst (n := 4) (by decide +kernel) (by decide)) (zq_S (zs_iload (by decide +kernel)) (zq_S (zs_imul (by decide +kernel)) (zq_S (zs_iadd (by decide +kernel)) (zq_S (zs_iload_n (k9 := 3) (by decide +kernel) rfl) (zq_S (zs_iadd (by decide +kernel)) (zs_iret (by decide +kernel) rfl)))))))))) (gS_Model_fieldNumber_72 hw)))))))
def g_Model_fieldNumber_43 : z_T := (zq 45 (zi_istore 5 45) (zi_goto 14))
theorem gS_Model_fieldNumber_43 (hw : z_Wd w) : z_S w zY_Model_fieldNumber 43 g_Model_fieldNumber_43 := (zq_S (zs_istore (by decide +kernel) (by decide)) (zs_goto (off := -31) (by decide +kernel) (by decide)))
def g_Model_fieldNumber_31 : z_T := (zq 33 (zi_iload 4 33) (zq 36 (zi_icmp_eq 48 36) (zq 37 (zi_aload 0 37) (zq 38 (zi_iconst 0 38) (zi_iload 5 40)))))
theorem gS_Model_fieldNumber_31 (hw : z_Wd w) : z_S w zY_Model_fieldNumber 31 g_Model_fieldNumber_31 := (zq_S (zs_iload (by decide +kernel)) (zq_S (zs_icmp_eq (off := 15) (by decide +kernel) (by decide)) (zq_S (zs_aload_n (k9 := 0) (by decide +kernel) rfl) (zq_S (zs_iconst (n := 0) (by decide +kernel) (by decide)) (zs_iload (by decide +kernel))))))
def g_Model_fieldNumber_21 : z_T := (zq 24 (zi_if_lt 48 24) (zq 25 (zi_aload 0 25) (zq 26 (zi_iconst 0 26) (zi_iload 5 28))))
theorem gS_Model_fieldNumber_21 (hw : z_Wd w) : z_S w zY_Model_fieldNumber 21 g_Model_fieldNumber_21 := (zq_S (zs_if_lt (off := 27) (by decide +kernel) (by decide)) (zq_S (zs_aload_n (k9 := 0) (by decide +kernel) rfl) (zq_S (zs_iconst (n := 0) (by decide +kernel) (by decide)) (zs_iload (by decide +kernel)))))
def g_Model_fieldNumber_14 : z_T := (zq 15 (zi_aload 0 15) (zq 16 (zi_iconst 0 16) (zi_iload 5 18)))
theorem gS_Model_fieldNumber_14 (hw : z_Wd w) : z_S w zY_Model_fieldNumber 14 g_Model_fieldNumber_14 := (zq_S (zs_aload_n (k9 := 0) (by decide +kernel) rfl) (zq_S (zs_iconst (n := 0) (by decide +kernel) (by decide)) (zs_iload (by decide +kernel))))
def g_Model_fieldNumber_5 : z_T := (zq 7 (zi_iload 4 7) (zq 8 (zi_iload 1 8) (zb 11 89 (zi_icmp_eq 89 11) (zq 12 (zi_iload 1 12) (zi_istore 5 14)) g_Model_fieldNumber_89)))
theorem gS_Model_fieldNumber_5 (hw : z_Wd w) : z_S w zY_Model_fieldNumber 5 g_Model_fieldNumber_5 := (zq_S (zs_iload (by decide +kernel)) (zq_S (zs_iload_n (k9 := 1) (by decide +kernel) rfl) (zb_S (zs_icmp_eq (off := 81) (by decide +kernel) (by decide)) (zq_S (zs_iload_n (k9 := 1) (by decide +kernel) rfl) (zs_istore (by decide +kernel) (by decide))) (gS_Model_fieldNumber_89 hw))))
def g_Model_fieldNumber_0 : z_T := (zq 1 (zi_iload 2 1) (zq 2 (zi_istore 3 2) (zq 3 (zi_iconst (-1) 3) (zi_istore 4 5))))
theorem gS_Model_fieldNumber_0 (hw : z_Wd w) : z_S w zY_Model_fieldNumber 0 g_Model_fieldNumber_0 := (zq_S (zs_iload_n (k9 := 2) (by decide +kernel) rfl) (zq_S (zs_istore_n (k9 := 3) (by decide +kernel) rfl (by decide)) (zq_S (zs_iconst (n := (-1)) (by decide +kernel) (by decide)) (zs_istore (by decide +kernel) (by decide)))))
def g_Model_sayMore_184 : z_T := (zi_vret)
theorem gS_Model_sayMore_184 (hw : z_Wd w) : z_S w zY_Model_sayMore 184 g_Model_sayMore_184 := (zs_vret (by decide +kernel) rfl)
def g_Model_sayMore_171 : z_T := (zq 172 (zi_aload 0 172) (zq 174 (zi_lload 6 174) (zq 175 (zi_aload 0 175) (zq 178 (zi_get 7 6 178) (zq 180 (zi_iload 5 180) (zi_iald 181))))))
theorem gS_Model_sayMore_171 (hw : z_Wd w) : z_S w zY_Model_sayMore 171 g_Model_sayMore_171 := (zq_S (zs_aload_n (k9 := 0) (by decide +kernel) rfl) (zq_S (zs_lload (by decide +kernel)) (zq_S (zs_aload_n (k9 := 0) (by decide +kernel) rfl) (zq_S (zs_get hw.1 (by decide +kernel) (zf_Model_26 hw)) (zq_S (zs_iload (by decide +kernel)) (zs_iald hw.1 (by decide +kernel)))))))
def g_Model_sayMore_168 : z_T := (zq 184 (zi_goto 184) g_Model_sayMore_184)
theorem gS_Model_sayMore_168 (hw : z_Wd w) : z_S w zY_Model_sayMore 168 g_Model_sayMore_168 := (zq_S (zs_goto (off := 16) (by decide +kernel) (by decide)) (gS_Model_sayMore_184 hw))
def g_Model_sayMore_113 : z_T := (zq 114 (zi_iload 3 114) (zq 116 (zi_bipush 100 116) (zq 117 (zi_idiv 117) (zq 119 (zi_istore 4 119) (zq 120 (zi_iload 3 120) (zq 122 (zi_bipush 100 122) (zq 123 (zi_irem 123) (zq 125 (zi_istore 5 125) (zq 126 (zi_aload 0 126) (zq 129 (zi_get 7 10 129) (zq 131 (zi_bipush 60 131) (zq 132 (zi_iload 1 132) (zq 133 (zi_imul 133) (zq 135 (zi_bipush 10 135) (zq 137 (zi_iload 4 137) (zq 138 (zi_imul 138) (zq 139 (zi_iadd 139) (zq 140 (zi_aload 0 140) (zq 143 (zi_get 7 5 143) (zq 145 (zi_iload 5 145) (zq 146 (zi_iald 146) (zq 147 (zi_iadd 147) (zq 148 (zi_lald 148) (zq 150 (zi_lstore 6 150) (zq 151 (zi_aload 0 151) (zq 154 (zi_get 7 6 154) (zq 156 (zi_iload 5 156) (zq 157 (zi_iald 157) (zq 158 (zi_iconst 4 158) (zb 161 171 (zi_icmp_ne 171 161) (zq 162 (zi_aload 0 162) (zq 164 (zi_lload 6 164) (zi_l2i 165))) g_Model_sayMore_171))))))))))))))))))))))))))))))
theorem gS_Model_sayMore_113 (hw : z_Wd w) : z_S w zY_Model_sayMore 113 g_Model_sayMore_113 := (zq_S (zs_iload_n (k9 := 3) (by decide +kernel) rfl) (zq_S (zs_bipush (n := 100) (by decide +kernel) (by decide)) (zq_S (zs_idiv (by decide +kernel)) (zq_S (zs_istore (by decide +kernel) (by decide)) (zq_S (zs_iload_n (k9 := 3) (by decide +kernel) rfl) (zq_S (zs_bipush (n := 100) (by decide +kernel) (by decide)) (zq_S (zs_irem (by decide +kernel)) (zq_S (zs_istore (by decide +kernel) (by decide)) (zq_S (zs_aload_n (k9 := 0) (by decide +kernel) rfl) (zq_S (zs_get hw.1 (by decide +kernel) (zf_Model_38 hw)) (zq_S (zs_bipush (n := 60) (by decide +kernel) (by decide)) (zq_S (zs_iload_n (k9 := 1) (by decide +kernel) rfl) (zq_S (zs_imul (by decide +kernel)) (zq_S (zs_bipush (n := 10) (by decide +kernel) (by decide)) (zq_S (zs_iload (by decide +kernel)) (zq_S (zs_imul (by decide +kernel)) (zq_S (zs_iadd (by decide +kernel)) (zq_S (zs_aload_n (k9 := 0) (by decide +kernel) rfl) (zq_S (zs_get hw.1 (by decide +kernel) (zf_Model_23 hw)) (zq_S (zs_iload (by decide +kernel)) (zq_S (zs_iald hw.1 (by decide +kernel)) (zq_S (zs_iadd (by decide +kernel)) (zq_S (zs_lald hw.1 (by decide +kernel)) (zq_S (zs_lstore (by decide +kernel) (by decide)) (zq_S (zs_aload_n (k9 := 0) (by decide +kernel) rfl) (zq_S (zs_get hw.1 (by decide +kernel) (zf_Model_26 hw)) (zq_S (zs_iload (by decide +kernel)) (zq_S (zs_iald hw.1 (by decide +kernel)) (zq_S (zs_iconst (n := 4) (by decide +kernel) (by decide)) (zb_S (zs_icmp_ne (off := 13) (by decide +kernel) (by decide)) (zq_S (zs_aload_n (k9 := 0) (by decide +kernel) rfl) (zq_S (zs_lload (by decide +kernel)) (zs_l2i (by decide +kernel)))) (gS_Model_sayMore_171 hw)))))))))))))))))))))))))))))))
def g_Model_sayMore_97 : z_T := (zq 98 (zi_istore 3 98) (zq 99 (zi_iload 3 99) (zb 102 113 (zi_if_ge 113 102) (zq 103 (zi_aload 0 103) (zq 104 (zi_dup 104) (zq 107 (zi_get 7 20 107) (zq 108 (zi_iconst 1 108) (zq 109 (zi_isub 109) (zq 112 (zi_put 7 20 (.int) 112) (zi_vret))))))) g_Model_sayMore_113)))
theorem gS_Model_sayMore_97 (hw : z_Wd w) : z_S w zY_Model_sayMore 97 g_Model_sayMore_97 := (zq_S (zs_istore_n (k9 := 3) (by decide +kernel) rfl (by decide)) (zq_S (zs_iload_n (k9 := 3) (by decide +kernel) rfl) (zb_S (zs_if_ge (off := 14) (by decide +kernel) (by decide)) (zq_S (zs_aload_n (k9 := 0) (by decide +kernel) rfl) (zq_S (zs_dup (by decide +kernel)) (zq_S (zs_get hw.1 (by decide +kernel) (zf_Model_166 hw)) (zq_S (zs_iconst (n := 1) (by decide +kernel) (by decide)) (zq_S (zs_isub (by decide +kernel)) (zq_S (zs_put hw.1 (by decide +kernel) (zp_Model_166 hw) (fun h => by cases h)) (zs_vret (by decide +kernel) rfl))))))) (gS_Model_sayMore_113 hw))))
def g_Model_sayMore_86 : z_T := (zq 87 (zi_aload 0 87) (zq 88 (zi_aload 0 88) (zq 91 (zi_get 7 8 91) (zq 92 (zi_iload 1 92) (zq 93 (zi_iald 93) (zi_iload 2 94))))))
theorem gS_Model_sayMore_86 (hw : z_Wd w) : z_S w zY_Model_sayMore 86 g_Model_sayMore_86 := (zq_S (zs_aload_n (k9 := 0) (by decide +kernel) rfl) (zq_S (zs_aload_n (k9 := 0) (by decide +kernel) rfl) (zq_S (zs_get hw.1 (by decide +kernel) (zf_Model_32 hw)) (zq_S (zs_iload_n (k9 := 1) (by decide +kernel) rfl) (zq_S (zs_iald hw.1 (by decide +kernel)) (zs_iload_n (k9 := 2) (by decide +kernel) rfl))))))
def g_Model_sayMore_85 : z_T := (zi_vret)
theorem gS_Model_sayMore_85 (hw : z_Wd w) : z_S w zY_Model_sayMore 85 g_Model_sayMore_85 := (zs_vret (by decide +kernel) rfl)
def g_Model_sayMore_71 : z_T := (zq 72 (zi_aload 0 72) (zq 73 (zi_aload 0 73) (zq 76 (zi_get 7 11 76) (zq 77 (zi_iconst 5 77) (zq 78 (zi_iload 1 78) (zq 79 (zi_imul 79) (zq 80 (zi_iload 2 80) (zq 81 (zi_iadd 81) (zi_iald 82)))))))))
theorem gS_Model_sayMore_71 (hw : z_Wd w) : z_S w zY_Model_sayMore 71 g_Model_sayMore_71 := (zq_S (zs_aload_n (k9 := 0) (by decide +kernel) rfl) (zq_S (zs_aload_n (k9 := 0) (by decide +kernel) rfl) (zq_S (zs_get hw.1 (by decide +kernel) (zf_Model_42 hw)) (zq_S (zs_iconst (n := 5) (by decide +kernel) (by decide)) (zq_S (zs_iload_n (k9 := 1) (by decide +kernel) rfl) (zq_S (zs_imul (by decide +kernel)) (zq_S (zs_iload_n (k9 := 2) (by decide +kernel) rfl) (zq_S (zs_iadd (by decide +kernel)) (zs_iald hw.1 (by decide +kernel))))))))))
def g_Model_sayMore_0 : z_T := (zq 1 (zi_aload 0 1) (zq 4 (zi_get 7 21 4) (zq 5 (zi_aload 0 5) (zq 8 (zi_get 7 20 8) (zq 9 (zi_iconst 1 9) (zq 10 (zi_isub 10) (zq 11 (zi_iald 11) (zq 12 (zi_istore 1 12) (zq 13 (zi_aload 0 13) (zq 16 (zi_get 7 22 16) (zq 17 (zi_aload 0 17) (zq 20 (zi_get 7 20 20) (zq 21 (zi_iconst 1 21) (zq 22 (zi_isub 22) (zq 23 (zi_iald 23) (zq 24 (zi_istore 2 24) (zq 25 (zi_aload 0 25) (zq 28 (zi_get 7 22 28) (zq 29 (zi_aload 0 29) (zq 32 (zi_get 7 20 32) (zq 33 (zi_iconst 1 33) (zq 34 (zi_isub 34) (zq 35 (zi_dup2 35) (zq 36 (zi_iald 36) (zq 37 (zi_iconst 1 37) (zq 38 (zi_iadd 38) (zq 39 (zi_iast 39) (zq 40 (zi_aload 0 40) (zq 43 (zi_get 7 8 43) (zq 44 (zi_iload 1 44) (zq 45 (zi_iald 45) (zb 48 86 (zi_if_ge 86 48) (zq 49 (zi_iload 2 49) (zq 50 (zi_aload 0 50) (zq 53 (zi_get 7 9 53) (zq 54 (zi_iload 1 54) (zq 55 (zi_iald 55) (zb 58 71 (zi_icmp_ne 71 58) (zq 59 (zi_aload 0 59) (zq 60 (zi_dup 60) (zq 63 (zi_get 7 20 63) (zq 64 (zi_iconst 1 64) (zq 65 (zi_isub 65) (zq 68 (zi_put 7 20 (.int) 68) (zq 85 (zi_goto 85) g_Model_sayMore_85))))))) g_Model_sayMore_71)))))) g_Model_sayMore_86))))))))))))))))))))))))))))))))
theorem gS_Model_sayMore_0 (hw : z_Wd w) : z_S w zY_Model_sayMore 0 g_Model_sayMore_0 := (zq_S (zs_aload_n (k9 := 0) (by decide +kernel) rfl) (zq_S (zs_get hw.1 (by decide +kernel) (zf_Model_64 hw)) (zq_S (zs_aload_n (k9 := 0) (by decide +kernel) rfl) (zq_S (zs_get hw.1 (by decide +kernel) (zf_Model_166 hw)) (zq_S (zs_iconst (n := 1) (by decide +kernel) (by decide)) (zq_S (zs_isub (by decide +kernel)) (zq_S (zs_iald hw.1 (by decide +kernel)) (zq_S (zs_istore_n (k9 := 1) (by decide +kernel) rfl (by decide)) (zq_S (zs_aload_n (k9 := 0) (by decide +kernel) rfl) (zq_S (zs_get hw.1 (by decide +kernel) (zf_Model_67 hw)) (zq_S (zs_aload_n (k9 := 0) (by decide +kernel) rfl) (zq_S (zs_get hw.1 (by decide +kernel) (zf_Model_166 hw)) (zq_S (zs_iconst (n := 1) (by decide +kernel) (by decide)) (zq_S (zs_isub (by decide +kernel)) (zq_S (zs_iald hw.1 (by decide +kernel)) (zq_S (zs_istore_n (k9 := 2) (by decide +kernel) rfl (by decide)) (zq_S (zs_aload_n (k9 := 0) (by decide +kernel) rfl) (zq_S (zs_get hw.1 (by decide +kernel) (zf_Model_67 hw)) (zq_S (zs_aload_n (k9 := 0) (by decide +kernel) rfl) (zq_S (zs_get hw.1 (by decide +kernel) (zf_Model_166 hw)) (zq_S (zs_iconst (n := 1) (by decide +kernel) (by decide)) (zq_S (zs_isub (by decide +kernel)) (zq_S (zs_dup2 (by decide +kernel)) (zq_S (zs_iald hw.1 (by decide +kernel)) (zq_S (zs_iconst (n := 1) (by decide +kernel) (by decide)) (zq_S (zs_iadd (by decide +kernel)) (zq_S (zs_iast hw.1 (by decide +kernel)) (zq_S (zs_aload_n (k9 := 0) (by decide +kernel) rfl) (zq_S (zs_get hw.1 (by decide +kernel) (zf_Model_32 hw)) (zq_S (zs_iload_n (k9 := 1) (by decide +kernel) rfl) (zq_S (zs_iald hw.1 (by decide +kernel)) (zb_S (zs_if_ge (off := 41) (by decide +kernel) (by decide)) (zq_S (zs_iload_n (k9 := 2) (by decide +kernel) rfl) (zq_S (zs_aload_n (k9 := 0) (by decide +kernel) rfl) (zq_S (zs_get hw.1 (by decide +kernel) (zf_Model_35 hw)) (zq_S (zs_iload_n (k9 := 1) (by decide +kernel) rfl) (zq_S (zs_iald hw.1 (by decide +kernel)) (zb_S (zs_icmp_ne (off := 16) (by decide +kernel) (by decide)) (zq_S (zs_aload_n (k9 := 0) (by decide +kernel) rfl) (zq_S (zs_dup (by decide +kernel)) (zq_S (zs_get hw.1 (by decide +kernel) (zf_Model_166 hw)) (zq_S (zs_iconst (n := 1) (by decide +kernel) (by decide)) (zq_S (zs_isub (by decide +kernel)) (zq_S (zs_put hw.1 (by decide +kernel) (zp_Model_166 hw) (fun h => by cases h)) (zq_S (zs_goto (off := 17) (by decide +kernel) (by decide)) (gS_Model_sayMore_85 hw)))))))) (gS_Model_sayMore_71 hw))))))) (gS_Model_sayMore_86 hw)))))))))))))))))))))))))))))))))
def g_Model_write_125 : z_T := (zq 128 (zi_put 7 12 (.int) 128) (zq 129 (zi_aload 0 129) (zq 132 (zi_get 7 12 132) (zi_iret))))
theorem gS_Model_write_125 (hw : z_Wd w) : z_S w zY_Model_write 125 g_Model_write_125 := (zq_S (zs_put hw.1 (by decide +kernel) (zp_Model_144 hw) (fun h => by cases h)) (zq_S (zs_aload_n (k9 := 0) (by decide +kernel) rfl) (zq_S (zs_get hw.1 (by decide +kernel) (zf_Model_144 hw)) (zs_iret (by decide +kernel) rfl))))
def g_Model_write_121 : z_T := (zq 122 (zi_aload 0 122) (zi_get 7 12 125))
theorem gS_Model_write_121 (hw : z_Wd w) : z_S w zY_Model_write 121 g_Model_write_121 := (zq_S (zs_aload_n (k9 := 0) (by decide +kernel) rfl) (zs_get hw.1 (by decide +kernel) (zf_Model_144 hw)))
def g_Model_write_106 : z_T := (zq 107 (zi_aload 0 107) (zq 108 (zi_aload 0 108) (zq 111 (zi_get 7 12 111) (zq 114 (zi_sipush 1000 114) (zb 117 121 (zi_icmp_le 121 117) (zq 118 (zi_iconst 0 118) (zi_goto 125)) g_Model_write_121)))))
theorem gS_Model_write_106 (hw : z_Wd w) : z_S w zY_Model_write 106 g_Model_write_106 := (zq_S (zs_aload_n (k9 := 0) (by decide +kernel) rfl) (zq_S (zs_aload_n (k9 := 0) (by decide +kernel) rfl) (zq_S (zs_get hw.1 (by decide +kernel) (zf_Model_144 hw)) (zq_S (zs_sipush (n := 1000) (by decide +kernel) (by decide)) (zb_S (zs_icmp_le (off := 7) (by decide +kernel) (by decide)) (zq_S (zs_iconst (n := 0) (by decide +kernel) (by decide)) (zs_goto (off := 7) (by decide +kernel) (by decide))) (gS_Model_write_121 hw))))))
def g_Model_write_103 : z_T := (zi_goto 92)
theorem gS_Model_write_103 (hw : z_Wd w) : z_S w zY_Model_write 103 g_Model_write_103 := (zs_goto (off := -11) (by decide +kernel) (by decide))
def g_Model_write_92 : z_T := (zq 93 (zi_aload 0 93) (zq 96 (zi_get 7 20 96) (zb 99 106 (zi_if_le 106 99) (zi_aload 0 100) g_Model_write_106)))
theorem gS_Model_write_92 (hw : z_Wd w) : z_S w zY_Model_write 92 g_Model_write_92 := (zq_S (zs_aload_n (k9 := 0) (by decide +kernel) rfl) (zq_S (zs_get hw.1 (by decide +kernel) (zf_Model_166 hw)) (zb_S (zs_if_le (off := 10) (by decide +kernel) (by decide)) (zs_aload_n (k9 := 0) (by decide +kernel) rfl) (gS_Model_write_106 hw))))
def g_Model_write_87 : z_T := (zq 88 (zi_aload 0 88) (zi_iload 1 89))
theorem gS_Model_write_87 (hw : z_Wd w) : z_S w zY_Model_write 87 g_Model_write_87 := (zq_S (zs_aload_n (k9 := 0) (by decide +kernel) rfl) (zs_iload_n (k9 := 1) (by decide +kernel) rfl))
def g_Model_write_80 : z_T := (zq 81 (zi_aload 0 81) (zi_sipush 237 84))
theorem gS_Model_write_80 (hw : z_Wd w) : z_S w zY_Model_write 80 g_Model_write_80 := (zq_S (zs_aload_n (k9 := 0) (by decide +kernel) rfl) (zs_sipush (n := 237) (by decide +kernel) (by decide)))
def g_Model_write_73 : z_T := (zq 74 (zi_aload 0 74) (zi_sipush 172 77))
theorem gS_Model_write_73 (hw : z_Wd w) : z_S w zY_Model_write 73 g_Model_write_73 := (zq_S (zs_aload_n (k9 := 0) (by decide +kernel) rfl) (zs_sipush (n := 172) (by decide +kernel) (by decide)))
def g_Model_write_54 : z_T := (zq 55 (zi_iload 2 55) (zq 57 (zi_bipush 24 57) (zb 60 73 (zi_icmp_ge 73 60) (zq 61 (zi_aload 0 61) (zq 64 (zi_get 7 18 64) (zq 65 (zi_iload 2 65) (zq 66 (zi_iconst (-1) 66) (zq 67 (zi_iast 67) (zq 70 (zi_iinc 2 1 70) (zi_goto 54))))))) g_Model_write_73)))
theorem gS_Model_write_54 (hw : z_Wd w) : z_S w zY_Model_write 54 g_Model_write_54 := (zq_S (zs_iload_n (k9 := 2) (by decide +kernel) rfl) (zq_S (zs_bipush (n := 24) (by decide +kernel) (by decide)) (zb_S (zs_icmp_ge (off := 16) (by decide +kernel) (by decide)) (zq_S (zs_aload_n (k9 := 0) (by decide +kernel) rfl) (zq_S (zs_get hw.1 (by decide +kernel) (zf_Model_58 hw)) (zq_S (zs_iload_n (k9 := 2) (by decide +kernel) rfl) (zq_S (zs_iconst (n := (-1)) (by decide +kernel) (by decide)) (zq_S (zs_iast hw.1 (by decide +kernel)) (zq_S (zs_iinc (n := 1) (by decide +kernel) (by decide) (by decide)) (zs_goto (off := -16) (by decide +kernel) (by decide)))))))) (gS_Model_write_73 hw))))
def g_Model_write_52 : z_T := (zq 53 (zi_iconst 0 53) (zi_istore 2 54))
theorem gS_Model_write_52 (hw : z_Wd w) : z_S w zY_Model_write 52 g_Model_write_52 := (zq_S (zs_iconst (n := 0) (by decide +kernel) (by decide)) (zs_istore_n (k9 := 2) (by decide +kernel) rfl (by decide)))
def g_Model_write_33 : z_T := (zq 34 (zi_iload 2 34) (zq 36 (zi_bipush 6 36) (zb 39 52 (zi_icmp_ge 52 39) (zq 40 (zi_aload 0 40) (zq 43 (zi_get 7 17 43) (zq 44 (zi_iload 2 44) (zq 45 (zi_iconst (-1) 45) (zq 46 (zi_iast 46) (zq 49 (zi_iinc 2 1 49) (zi_goto 33))))))) g_Model_write_52)))
theorem gS_Model_write_33 (hw : z_Wd w) : z_S w zY_Model_write 33 g_Model_write_33 := (zq_S (zs_iload_n (k9 := 2) (by decide +kernel) rfl) (zq_S (zs_bipush (n := 6) (by decide +kernel) (by decide)) (zb_S (zs_icmp_ge (off := 16) (by decide +kernel) (by decide)) (zq_S (zs_aload_n (k9 := 0) (by decide +kernel) rfl) (zq_S (zs_get hw.1 (by decide +kernel) (zf_Model_55 hw)) (zq_S (zs_iload_n (k9 := 2) (by decide +kernel) rfl) (zq_S (zs_iconst (n := (-1)) (by decide +kernel) (by decide)) (zq_S (zs_iast hw.1 (by decide +kernel)) (zq_S (zs_iinc (n := 1) (by decide +kernel) (by decide) (by decide)) (zs_goto (off := -16) (by decide +kernel) (by decide)))))))) (gS_Model_write_52 hw))))
def g_Model_write_16 : z_T := (zq 17 (zi_aload 0 17) (zq 18 (zi_iconst 0 18) (zq 21 (zi_put 7 12 (.int) 21) (zq 22 (zi_aload 0 22) (zq 23 (zi_iconst 0 23) (zq 26 (zi_put 7 16 (.int) 26) (zq 27 (zi_aload 0 27) (zq 28 (zi_iconst 0 28) (zq 31 (zi_put 7 20 (.int) 31) (zq 32 (zi_iconst 0 32) (zi_istore 2 33)))))))))))
theorem gS_Model_write_16 (hw : z_Wd w) : z_S w zY_Model_write 16 g_Model_write_16 := (zq_S (zs_aload_n (k9 := 0) (by decide +kernel) rfl) (zq_S (zs_iconst (n := 0) (by decide +kernel) (by decide)) (zq_S (zs_put hw.1 (by decide +kernel) (zp_Model_144 hw) (fun h => by cases h)) (zq_S (zs_aload_n (k9 := 0) (by decide +kernel) rfl) (zq_S (zs_iconst (n := 0) (by decide +kernel) (by decide)) (zq_S (zs_put hw.1 (by decide +kernel) (zp_Model_160 hw) (fun h => by cases h)) (zq_S (zs_aload_n (k9 := 0) (by decide +kernel) rfl) (zq_S (zs_iconst (n := 0) (by decide +kernel) (by decide)) (zq_S (zs_put hw.1 (by decide +kernel) (zp_Model_166 hw) (fun h => by cases h)) (zq_S (zs_iconst (n := 0) (by decide +kernel) (by decide)) (zs_istore_n (k9 := 2) (by decide +kernel) rfl (by decide))))))))))))
def g_Model_write_11 : z_T := (zb 14 16 (zi_if_ne 16 14) (zq 15 (zi_iconst (-1) 15) (zi_iret)) g_Model_write_16)
theorem gS_Model_write_11 (hw : z_Wd w) : z_S w zY_Model_write 11 g_Model_write_11 := (zb_S (zs_if_ne (off := 5) (by decide +kernel) (by decide)) (zq_S (zs_iconst (n := (-1)) (by decide +kernel) (by decide)) (zs_iret (by decide +kernel) rfl)) (gS_Model_write_16 hw))
def g_Model_write_0 : z_T := (zq 1 (zi_aload 0 1) (zq 2 (zi_iconst 0 2) (zq 5 (zi_put 7 0 (.int) 5) (zq 6 (zi_aload 0 6) (zq 7 (zi_iconst 0 7) (zi_iload 1 8))))))
theorem gS_Model_write_0 (hw : z_Wd w) : z_S w zY_Model_write 0 g_Model_write_0 := (zq_S (zs_aload_n (k9 := 0) (by decide +kernel) rfl) (zq_S (zs_iconst (n := 0) (by decide +kernel) (by decide)) (zq_S (zs_put hw.1 (by decide +kernel) (zp_Model_106 hw) (fun h => by cases h)) (zq_S (zs_aload_n (k9 := 0) (by decide +kernel) rfl) (zq_S (zs_iconst (n := 0) (by decide +kernel) (by decide)) (zs_iload_n (k9 := 1) (by decide +kernel) rfl))))))
def g_Model_at_41 : z_T := (zi_iret)
theorem gS_Model_at_41 (hw : z_Wd w) : z_S w zY_Model_at 41 g_Model_at_41 := (zs_iret (by decide +kernel) rfl)
def g_Model_at_40 : z_T := (zq 41 (zi_iconst (-1) 41) g_Model_at_41)
theorem gS_Model_at_40 (hw : z_Wd w) : z_S w zY_Model_at 40 g_Model_at_40 := (zq_S (zs_iconst (n := (-1)) (by decide +kernel) (by decide)) (gS_Model_at_41 hw))
def g_Model_at_28 : z_T := (zb 31 40 (zi_if_eq 40 31) (zq 32 (zi_aload 0 32) (zq 35 (zi_get 7 13 35) (zq 36 (zi_iload 1 36) (zq 37 (zi_iald 37) (zq 41 (zi_goto 41) g_Model_at_41))))) g_Model_at_40)
theorem gS_Model_at_28 (hw : z_Wd w) : z_S w zY_Model_at 28 g_Model_at_28 := (zb_S (zs_if_eq (off := 12) (by decide +kernel) (by decide)) (zq_S (zs_aload_n (k9 := 0) (by decide +kernel) rfl) (zq_S (zs_get hw.1 (by decide +kernel) (zf_Model_45 hw)) (zq_S (zs_iload_n (k9 := 1) (by decide +kernel) rfl) (zq_S (zs_iald hw.1 (by decide +kernel)) (zq_S (zs_goto (off := 4) (by decide +kernel) (by decide)) (gS_Model_at_41 hw)))))) (gS_Model_at_40 hw))
def g_Model_at_17 : z_T := (zq 18 (zi_iload 1 18) (zq 19 (zi_iconst 0 19) (zq 20 (zi_aload 0 20) (zq 23 (zi_get 7 12 23) (zq 24 (zi_iconst 1 24) (zi_isub 25))))))
theorem gS_Model_at_17 (hw : z_Wd w) : z_S w zY_Model_at 17 g_Model_at_17 := (zq_S (zs_iload_n (k9 := 1) (by decide +kernel) rfl) (zq_S (zs_iconst (n := 0) (by decide +kernel) (by decide)) (zq_S (zs_aload_n (k9 := 0) (by decide +kernel) rfl) (zq_S (zs_get hw.1 (by decide +kernel) (zf_Model_144 hw)) (zq_S (zs_iconst (n := 1) (by decide +kernel) (by decide)) (zs_isub (by decide +kernel)))))))
def g_Model_at_0 : z_T := (zq 1 (zi_aload 0 1) (zq 2 (zi_iconst 0 2) (zq 5 (zi_put 7 0 (.int) 5) (zq 6 (zi_iload 1 6) (zq 7 (zi_iconst (-1) 7) (zb 10 17 (zi_icmp_ne 17 10) (zq 11 (zi_aload 0 11) (zq 14 (zi_get 7 12 14) (zq 41 (zi_goto 41) g_Model_at_41))) g_Model_at_17))))))
theorem gS_Model_at_0 (hw : z_Wd w) : z_S w zY_Model_at 0 g_Model_at_0 := (zq_S (zs_aload_n (k9 := 0) (by decide +kernel) rfl) (zq_S (zs_iconst (n := 0) (by decide +kernel) (by decide)) (zq_S (zs_put hw.1 (by decide +kernel) (zp_Model_106 hw) (fun h => by cases h)) (zq_S (zs_iload_n (k9 := 1) (by decide +kernel) rfl) (zq_S (zs_iconst (n := (-1)) (by decide +kernel) (by decide)) (zb_S (zs_icmp_ne (off := 10) (by decide +kernel) (by decide)) (zq_S (zs_aload_n (k9 := 0) (by decide +kernel) rfl) (zq_S (zs_get hw.1 (by decide +kernel) (zf_Model_144 hw)) (zq_S (zs_goto (off := 27) (by decide +kernel) (by decide)) (gS_Model_at_41 hw)))) (gS_Model_at_17 hw)))))))
def g_Model_put_59 : z_T := (zq 62 (zi_put 7 12 (.int) 62) (zq 63 (zi_iconst 1 63) (zi_zret)))
theorem gS_Model_put_59 (hw : z_Wd w) : z_S w zY_Model_put 59 g_Model_put_59 := (zq_S (zs_put hw.1 (by decide +kernel) (zp_Model_144 hw) (fun h => by cases h)) (zq_S (zs_iconst (n := 1) (by decide +kernel) (by decide)) (zs_zret (by decide +kernel) rfl)))
def g_Model_put_55 : z_T := (zq 56 (zi_aload 0 56) (zq 59 (zi_get 7 12 59) g_Model_put_59))
theorem gS_Model_put_55 (hw : z_Wd w) : z_S w zY_Model_put 55 g_Model_put_55 := (zq_S (zs_aload_n (k9 := 0) (by decide +kernel) rfl) (zq_S (zs_get hw.1 (by decide +kernel) (zf_Model_144 hw)) (gS_Model_put_59 hw)))
def g_Model_put_26 : z_T := (zq 27 (zi_aload 0 27) (zq 30 (zi_get 7 13 30) (zq 31 (zi_iload 1 31) (zq 32 (zi_iload 2 32) (zq 35 (zi_sipush 255 35) (zq 36 (zi_iand 36) (zq 37 (zi_iast 37) (zq 38 (zi_aload 0 38) (zq 39 (zi_iload 1 39) (zq 40 (zi_aload 0 40) (zq 43 (zi_get 7 12 43) (zb 46 55 (zi_icmp_ne 55 46) (zq 47 (zi_aload 0 47) (zq 50 (zi_get 7 12 50) (zq 51 (zi_iconst 1 51) (zq 52 (zi_iadd 52) (zq 59 (zi_goto 59) g_Model_put_59))))) g_Model_put_55))))))))))))
theorem gS_Model_put_26 (hw : z_Wd w) : z_S w zY_Model_put 26 g_Model_put_26 := (zq_S (zs_aload_n (k9 := 0) (by decide +kernel) rfl) (zq_S (zs_get hw.1 (by decide +kernel) (zf_Model_45 hw)) (zq_S (zs_iload_n (k9 := 1) (by decide +kernel) rfl) (zq_S (zs_iload_n (k9 := 2) (by decide +kernel) rfl) (zq_S (zs_sipush (n := 255) (by decide +kernel) (by decide)) (zq_S (zs_iand (by decide +kernel)) (zq_S (zs_iast hw.1 (by decide +kernel)) (zq_S (zs_aload_n (k9 := 0) (by decide +kernel) rfl) (zq_S (zs_iload_n (k9 := 1) (by decide +kernel) rfl) (zq_S (zs_aload_n (k9 := 0) (by decide +kernel) rfl) (zq_S (zs_get hw.1 (by decide +kernel) (zf_Model_144 hw)) (zb_S (zs_icmp_ne (off := 12) (by decide +kernel) (by decide)) (zq_S (zs_aload_n (k9 := 0) (by decide +kernel) rfl) (zq_S (zs_get hw.1 (by decide +kernel) (zf_Model_144 hw)) (zq_S (zs_iconst (n := 1) (by decide +kernel) (by decide)) (zq_S (zs_iadd (by decide +kernel)) (zq_S (zs_goto (off := 7) (by decide +kernel) (by decide)) (gS_Model_put_59 hw)))))) (gS_Model_put_55 hw)))))))))))))
def g_Model_put_24 : z_T := (zq 25 (zi_iconst 0 25) (zi_zret))
theorem gS_Model_put_24 (hw : z_Wd w) : z_S w zY_Model_put 24 g_Model_put_24 := (zq_S (zs_iconst (n := 0) (by decide +kernel) (by decide)) (zs_zret (by decide +kernel) rfl))
def g_Model_put_0 : z_T := (zq 1 (zi_aload 0 1) (zq 2 (zi_iconst 0 2) (zq 5 (zi_put 7 0 (.int) 5) (zq 6 (zi_iload 1 6) (zb 9 24 (zi_if_lt 24 9) (zq 10 (zi_iload 1 10) (zq 11 (zi_aload 0 11) (zq 14 (zi_get 7 12 14) (zb 17 24 (zi_icmp_gt 24 17) (zq 18 (zi_iload 1 18) (zq 21 (zi_sipush 1000 21) (zb 24 26 (zi_icmp_ne 26 24) g_Model_put_24 g_Model_put_26))) g_Model_put_24)))) g_Model_put_24)))))
theorem gS_Model_put_0 (hw : z_Wd w) : z_S w zY_Model_put 0 g_Model_put_0 := (zq_S (zs_aload_n (k9 := 0) (by decide +kernel) rfl) (zq_S (zs_iconst (n := 0) (by decide +kernel) (by decide)) (zq_S (zs_put hw.1 (by decide +kernel) (zp_Model_106 hw) (fun h => by cases h)) (zq_S (zs_iload_n (k9 := 1) (by decide +kernel) rfl) (zb_S (zs_if_lt (off := 18) (by decide +kernel) (by decide)) (zq_S (zs_iload_n (k9 := 1) (by decide +kernel) rfl) (zq_S (zs_aload_n (k9 := 0) (by decide +kernel) rfl) (zq_S (zs_get hw.1 (by decide +kernel) (zf_Model_144 hw)) (zb_S (zs_icmp_gt (off := 10) (by decide +kernel) (by decide)) (zq_S (zs_iload_n (k9 := 1) (by decide +kernel) rfl) (zq_S (zs_sipush (n := 1000) (by decide +kernel) (by decide)) (zb_S (zs_icmp_ne (off := 5) (by decide +kernel) (by decide)) (gS_Model_put_24 hw) (gS_Model_put_26 hw)))) (gS_Model_put_24 hw))))) (gS_Model_put_24 hw))))))
def g_Model_cut2_19 : z_T := (zq 20 (zi_aload 0 20) (zq 21 (zi_iload 1 21) (zq 24 (zi_put 7 12 (.int) 24) (zq 25 (zi_iconst 1 25) (zi_zret)))))
theorem gS_Model_cut2_19 (hw : z_Wd w) : z_S w zY_Model_cut2 19 g_Model_cut2_19 := (zq_S (zs_aload_n (k9 := 0) (by decide +kernel) rfl) (zq_S (zs_iload_n (k9 := 1) (by decide +kernel) rfl) (zq_S (zs_put hw.1 (by decide +kernel) (zp_Model_144 hw) (fun h => by cases h)) (zq_S (zs_iconst (n := 1) (by decide +kernel) (by decide)) (zs_zret (by decide +kernel) rfl)))))
def g_Model_cut2_14 : z_T := (zb 17 19 (zi_if_ne 19 17) (zq 18 (zi_iconst 0 18) (zi_zret)) g_Model_cut2_19)
theorem gS_Model_cut2_14 (hw : z_Wd w) : z_S w zY_Model_cut2 14 g_Model_cut2_14 := (zb_S (zs_if_ne (off := 5) (by decide +kernel) (by decide)) (zq_S (zs_iconst (n := 0) (by decide +kernel) (by decide)) (zs_zret (by decide +kernel) rfl)) (gS_Model_cut2_19 hw))
def g_Model_cut2_0 : z_T := (zq 1 (zi_aload 0 1) (zq 2 (zi_iconst 0 2) (zq 5 (zi_put 7 0 (.int) 5) (zq 6 (zi_iload 1 6) (zq 7 (zi_iconst 0 7) (zq 8 (zi_aload 0 8) (zi_get 7 12 11)))))))
theorem gS_Model_cut2_0 (hw : z_Wd w) : z_S w zY_Model_cut2 0 g_Model_cut2_0 := (zq_S (zs_aload_n (k9 := 0) (by decide +kernel) rfl) (zq_S (zs_iconst (n := 0) (by decide +kernel) (by decide)) (zq_S (zs_put hw.1 (by decide +kernel) (zp_Model_106 hw) (fun h => by cases h)) (zq_S (zs_iload_n (k9 := 1) (by decide +kernel) rfl) (zq_S (zs_iconst (n := 0) (by decide +kernel) (by decide)) (zq_S (zs_aload_n (k9 := 0) (by decide +kernel) rfl) (zs_get hw.1 (by decide +kernel) (zf_Model_144 hw))))))))
def g_Model_limit_57 : z_T := (zq 58 (zi_aload 0 58) (zq 61 (zi_get 7 14 61) (zq 62 (zi_iload 1 62) (zq 63 (zi_iload 2 63) (zq 64 (zi_iast 64) (zq 65 (zi_iconst 1 65) (zi_zret)))))))
theorem gS_Model_limit_57 (hw : z_Wd w) : z_S w zY_Model_limit 57 g_Model_limit_57 := (zq_S (zs_aload_n (k9 := 0) (by decide +kernel) rfl) (zq_S (zs_get hw.1 (by decide +kernel) (zf_Model_48 hw)) (zq_S (zs_iload_n (k9 := 1) (by decide +kernel) rfl) (zq_S (zs_iload_n (k9 := 2) (by decide +kernel) rfl) (zq_S (zs_iast hw.1 (by decide +kernel)) (zq_S (zs_iconst (n := 1) (by decide +kernel) (by decide)) (zs_zret (by decide +kernel) rfl)))))))
def g_Model_limit_55 : z_T := (zq 56 (zi_iconst 0 56) (zi_zret))
theorem gS_Model_limit_55 (hw : z_Wd w) : z_S w zY_Model_limit 55 g_Model_limit_55 := (zq_S (zs_iconst (n := 0) (by decide +kernel) (by decide)) (zs_zret (by decide +kernel) rfl))
def g_Model_limit_52 : z_T := (zb 55 57 (zi_if_ne 57 55) g_Model_limit_55 g_Model_limit_57)
theorem gS_Model_limit_52 (hw : z_Wd w) : z_S w zY_Model_limit 52 g_Model_limit_52 := (zb_S (zs_if_ne (off := 5) (by decide +kernel) (by decide)) (gS_Model_limit_55 hw) (gS_Model_limit_57 hw))
def g_Model_limit_43 : z_T := (zb 46 55 (zi_if_eq 55 46) (zq 47 (zi_iload 2 47) (zq 48 (zi_iconst 0 48) (zi_iload 3 49))) g_Model_limit_55)
theorem gS_Model_limit_43 (hw : z_Wd w) : z_S w zY_Model_limit 43 g_Model_limit_43 := (zb_S (zs_if_eq (off := 12) (by decide +kernel) (by decide)) (zq_S (zs_iload_n (k9 := 2) (by decide +kernel) rfl) (zq_S (zs_iconst (n := 0) (by decide +kernel) (by decide)) (zs_iload_n (k9 := 3) (by decide +kernel) rfl))) (gS_Model_limit_55 hw))
def g_Model_limit_36 : z_T := (zq 37 (zi_istore 3 37) (zq 38 (zi_iload 1 38) (zq 39 (zi_iconst 0 39) (zi_iconst 3 40))))
theorem gS_Model_limit_36 (hw : z_Wd w) : z_S w zY_Model_limit 36 g_Model_limit_36 := (zq_S (zs_istore_n (k9 := 3) (by decide +kernel) rfl (by decide)) (zq_S (zs_iload_n (k9 := 1) (by decide +kernel) rfl) (zq_S (zs_iconst (n := 0) (by decide +kernel) (by decide)) (zs_iconst (n := 3) (by decide +kernel) (by decide)))))
def g_Model_limit_34 : z_T := (zi_bipush 10 36)
theorem gS_Model_limit_34 (hw : z_Wd w) : z_S w zY_Model_limit 34 g_Model_limit_34 := (zs_bipush (n := 10) (by decide +kernel) (by decide))
def g_Model_limit_24 : z_T := (zq 25 (zi_iload 1 25) (zq 26 (zi_iconst 2 26) (zb 29 34 (zi_icmp_ne 34 29) (zq 31 (zi_bipush 40 31) (zi_goto 36)) g_Model_limit_34)))
theorem gS_Model_limit_24 (hw : z_Wd w) : z_S w zY_Model_limit 24 g_Model_limit_24 := (zq_S (zs_iload_n (k9 := 1) (by decide +kernel) rfl) (zq_S (zs_iconst (n := 2) (by decide +kernel) (by decide)) (zb_S (zs_icmp_ne (off := 8) (by decide +kernel) (by decide)) (zq_S (zs_bipush (n := 40) (by decide +kernel) (by decide)) (zs_goto (off := 5) (by decide +kernel) (by decide))) (gS_Model_limit_34 hw))))
def g_Model_limit_15 : z_T := (zq 16 (zi_iload 1 16) (zq 17 (zi_iconst 1 17) (zb 20 24 (zi_icmp_ne 24 20) (zq 21 (zi_iconst 5 21) (zi_goto 36)) g_Model_limit_24)))
theorem gS_Model_limit_15 (hw : z_Wd w) : z_S w zY_Model_limit 15 g_Model_limit_15 := (zq_S (zs_iload_n (k9 := 1) (by decide +kernel) rfl) (zq_S (zs_iconst (n := 1) (by decide +kernel) (by decide)) (zb_S (zs_icmp_ne (off := 7) (by decide +kernel) (by decide)) (zq_S (zs_iconst (n := 5) (by decide +kernel) (by decide)) (zs_goto (off := 15) (by decide +kernel) (by decide))) (gS_Model_limit_24 hw))))
def g_Model_limit_0 : z_T := (zq 1 (zi_aload 0 1) (zq 2 (zi_iconst 0 2) (zq 5 (zi_put 7 0 (.int) 5) (zq 6 (zi_iload 1 6) (zb 9 15 (zi_if_ne 15 9) (zq 12 (zi_sipush 1000 12) (zi_goto 36)) g_Model_limit_15)))))
theorem gS_Model_limit_0 (hw : z_Wd w) : z_S w zY_Model_limit 0 g_Model_limit_0 := (zq_S (zs_aload_n (k9 := 0) (by decide +kernel) rfl) (zq_S (zs_iconst (n := 0) (by decide +kernel) (by decide)) (zq_S (zs_put hw.1 (by decide +kernel) (zp_Model_106 hw) (fun h => by cases h)) (zq_S (zs_iload_n (k9 := 1) (by decide +kernel) rfl) (zb_S (zs_if_ne (off := 9) (by decide +kernel) (by decide)) (zq_S (zs_sipush (n := 1000) (by decide +kernel) (by decide)) (zs_goto (off := 24) (by decide +kernel) (by decide))) (gS_Model_limit_15 hw))))))
def g_Model_fail_35 : z_T := (zq 38 (zi_put 7 15 (.int) 38) (zq 39 (zi_iconst 0 39) (zi_zret)))
theorem gS_Model_fail_35 (hw : z_Wd w) : z_S w zY_Model_fail 35 g_Model_fail_35 := (zq_S (zs_put hw.1 (by decide +kernel) (zp_Model_51 hw) (fun h => by cases h)) (zq_S (zs_iconst (n := 0) (by decide +kernel) (by decide)) (zs_zret (by decide +kernel) rfl)))
def g_Model_fail_31 : z_T := (zq 32 (zi_aload 0 32) (zq 35 (zi_get 7 15 35) g_Model_fail_35))
theorem gS_Model_fail_31 (hw : z_Wd w) : z_S w zY_Model_fail 31 g_Model_fail_31 := (zq_S (zs_aload_n (k9 := 0) (by decide +kernel) rfl) (zq_S (zs_get hw.1 (by decide +kernel) (zf_Model_51 hw)) (gS_Model_fail_35 hw)))
def g_Model_fail_16 : z_T := (zq 19 (zi_put 7 24 (.int) 19) (zq 20 (zi_aload 0 20) (zq 21 (zi_aload 0 21) (zq 24 (zi_get 7 15 24) (zb 27 31 (zi_if_ge 31 27) (zq 28 (zi_iload 2 28) (zq 35 (zi_goto 35) g_Model_fail_35)) g_Model_fail_31)))))
theorem gS_Model_fail_16 (hw : z_Wd w) : z_S w zY_Model_fail 16 g_Model_fail_16 := (zq_S (zs_put hw.1 (by decide +kernel) (zp_Model_178 hw) (fun h => by cases h)) (zq_S (zs_aload_n (k9 := 0) (by decide +kernel) rfl) (zq_S (zs_aload_n (k9 := 0) (by decide +kernel) rfl) (zq_S (zs_get hw.1 (by decide +kernel) (zf_Model_51 hw)) (zb_S (zs_if_ge (off := 7) (by decide +kernel) (by decide)) (zq_S (zs_iload_n (k9 := 2) (by decide +kernel) rfl) (zq_S (zs_goto (off := 7) (by decide +kernel) (by decide)) (gS_Model_fail_35 hw))) (gS_Model_fail_31 hw))))))
def g_Model_fail_12 : z_T := (zq 13 (zi_aload 0 13) (zi_get 7 24 16))
theorem gS_Model_fail_12 (hw : z_Wd w) : z_S w zY_Model_fail 12 g_Model_fail_12 := (zq_S (zs_aload_n (k9 := 0) (by decide +kernel) rfl) (zs_get hw.1 (by decide +kernel) (zf_Model_178 hw)))
def g_Model_fail_0 : z_T := (zq 1 (zi_aload 0 1) (zq 2 (zi_aload 0 2) (zq 5 (zi_get 7 24 5) (zb 8 12 (zi_if_ne 12 8) (zq 9 (zi_iload 1 9) (zi_goto 16)) g_Model_fail_12))))
theorem gS_Model_fail_0 (hw : z_Wd w) : z_S w zY_Model_fail 0 g_Model_fail_0 := (zq_S (zs_aload_n (k9 := 0) (by decide +kernel) rfl) (zq_S (zs_aload_n (k9 := 0) (by decide +kernel) rfl) (zq_S (zs_get hw.1 (by decide +kernel) (zf_Model_178 hw)) (zb_S (zs_if_ne (off := 7) (by decide +kernel) (by decide)) (zq_S (zs_iload_n (k9 := 1) (by decide +kernel) rfl) (zs_goto (off := 7) (by decide +kernel) (by decide))) (gS_Model_fail_12 hw)))))
def g_Model_has_30 : z_T := (zi_zret)
theorem gS_Model_has_30 (hw : z_Wd w) : z_S w zY_Model_has 30 g_Model_has_30 := (zs_zret (by decide +kernel) rfl)
def g_Model_has_29 : z_T := (zq 30 (zi_iconst 0 30) g_Model_has_30)
theorem gS_Model_has_29 (hw : z_Wd w) : z_S w zY_Model_has 29 g_Model_has_29 := (zq_S (zs_iconst (n := 0) (by decide +kernel) (by decide)) (gS_Model_has_30 hw))
def g_Model_has_25 : z_T := (zq 26 (zi_iconst 1 26) (zq 30 (zi_goto 30) g_Model_has_30))
theorem gS_Model_has_25 (hw : z_Wd w) : z_S w zY_Model_has 25 g_Model_has_25 := (zq_S (zs_iconst (n := 1) (by decide +kernel) (by decide)) (zq_S (zs_goto (off := 4) (by decide +kernel) (by decide)) (gS_Model_has_30 hw)))
def g_Model_has_22 : z_T := (zb 25 29 (zi_if_eq 29 25) g_Model_has_25 g_Model_has_29)
theorem gS_Model_has_22 (hw : z_Wd w) : z_S w zY_Model_has 22 g_Model_has_22 := (zb_S (zs_if_eq (off := 7) (by decide +kernel) (by decide)) (gS_Model_has_25 hw) (gS_Model_has_29 hw))
def g_Model_has_0 : z_T := (zq 1 (zi_aload 0 1) (zq 4 (zi_get 7 23 4) (zq 5 (zi_iload 1 5) (zq 6 (zi_iadd 6) (zq 7 (zi_aload 0 7) (zq 10 (zi_get 7 12 10) (zb 13 25 (zi_icmp_le 25 13) (zq 14 (zi_aload 0 14) (zq 15 (zi_iconst 1 15) (zq 16 (zi_aload 0 16) (zi_get 7 12 19)))) g_Model_has_25)))))))
theorem gS_Model_has_0 (hw : z_Wd w) : z_S w zY_Model_has 0 g_Model_has_0 := (zq_S (zs_aload_n (k9 := 0) (by decide +kernel) rfl) (zq_S (zs_get hw.1 (by decide +kernel) (zf_Model_181 hw)) (zq_S (zs_iload_n (k9 := 1) (by decide +kernel) rfl) (zq_S (zs_iadd (by decide +kernel)) (zq_S (zs_aload_n (k9 := 0) (by decide +kernel) rfl) (zq_S (zs_get hw.1 (by decide +kernel) (zf_Model_144 hw)) (zb_S (zs_icmp_le (off := 15) (by decide +kernel) (by decide)) (zq_S (zs_aload_n (k9 := 0) (by decide +kernel) rfl) (zq_S (zs_iconst (n := 1) (by decide +kernel) (by decide)) (zq_S (zs_aload_n (k9 := 0) (by decide +kernel) rfl) (zs_get hw.1 (by decide +kernel) (zf_Model_144 hw))))) (gS_Model_has_25 hw))))))))
def g_Model_take_0 : z_T := (zq 1 (zi_aload 0 1) (zq 2 (zi_dup 2) (zq 5 (zi_get 7 23 5) (zq 6 (zi_iconst 1 6) (zq 7 (zi_iadd 7) (zq 10 (zi_put 7 23 (.int) 10) (zq 11 (zi_aload 0 11) (zq 14 (zi_get 7 13 14) (zq 15 (zi_aload 0 15) (zq 18 (zi_get 7 23 18) (zq 19 (zi_iconst 1 19) (zq 20 (zi_isub 20) (zq 21 (zi_iald 21) (zi_iret))))))))))))))
theorem gS_Model_take_0 (hw : z_Wd w) : z_S w zY_Model_take 0 g_Model_take_0 := (zq_S (zs_aload_n (k9 := 0) (by decide +kernel) rfl) (zq_S (zs_dup (by decide +kernel)) (zq_S (zs_get hw.1 (by decide +kernel) (zf_Model_181 hw)) (zq_S (zs_iconst (n := 1) (by decide +kernel) (by decide)) (zq_S (zs_iadd (by decide +kernel)) (zq_S (zs_put hw.1 (by decide +kernel) (zp_Model_181 hw) (fun h => by cases h)) (zq_S (zs_aload_n (k9 := 0) (by decide +kernel) rfl) (zq_S (zs_get hw.1 (by decide +kernel) (zf_Model_45 hw)) (zq_S (zs_aload_n (k9 := 0) (by decide +kernel) rfl) (zq_S (zs_get hw.1 (by decide +kernel) (zf_Model_181 hw)) (zq_S (zs_iconst (n := 1) (by decide +kernel) (by decide)) (zq_S (zs_isub (by decide +kernel)) (zq_S (zs_iald hw.1 (by decide +kernel)) (zs_iret (by decide +kernel) rfl))))))))))))))
def g_Model_takeNumber_37 : z_T := (zi_lret)
theorem gS_Model_takeNumber_37 (hw : z_Wd w) : z_S w zY_Model_takeNumber 37 g_Model_takeNumber_37 := (zs_lret (by decide +kernel) rfl)
def g_Model_takeNumber_32 : z_T := (zq 33 (zi_lload 3 33) (zi_iload 1 34))
theorem gS_Model_takeNumber_32 (hw : z_Wd w) : z_S w zY_Model_takeNumber 32 g_Model_takeNumber_32 := (zq_S (zs_lload_n (k9 := 3) (by decide +kernel) rfl) (zs_iload_n (k9 := 1) (by decide +kernel) rfl))
def g_Model_takeNumber_23 : z_T := (zq 24 (zi_i2l 24) (zq 25 (zi_lor 25) (zq 26 (zi_lstore 3 26) (zq 29 (zi_iinc 5 1 29) (zi_goto 9)))))
theorem gS_Model_takeNumber_23 (hw : z_Wd w) : z_S w zY_Model_takeNumber 23 g_Model_takeNumber_23 := (zq_S (zs_i2l (by decide +kernel)) (zq_S (zs_lor (by decide +kernel)) (zq_S (zs_lstore_n (k9 := 3) (by decide +kernel) rfl (by decide)) (zq_S (zs_iinc (n := 1) (by decide +kernel) (by decide) (by decide)) (zs_goto (off := -20) (by decide +kernel) (by decide))))))
def g_Model_takeNumber_9 : z_T := (zq 11 (zi_iload 5 11) (zq 12 (zi_iload 2 12) (zb 15 32 (zi_icmp_ge 32 15) (zq 16 (zi_lload 3 16) (zq 18 (zi_bipush 8 18) (zq 19 (zi_lshl 19) (zi_aload 0 20)))) g_Model_takeNumber_32)))
theorem gS_Model_takeNumber_9 (hw : z_Wd w) : z_S w zY_Model_takeNumber 9 g_Model_takeNumber_9 := (zq_S (zs_iload (by decide +kernel)) (zq_S (zs_iload_n (k9 := 2) (by decide +kernel) rfl) (zb_S (zs_icmp_ge (off := 20) (by decide +kernel) (by decide)) (zq_S (zs_lload_n (k9 := 3) (by decide +kernel) rfl) (zq_S (zs_bipush (n := 8) (by decide +kernel) (by decide)) (zq_S (zs_lshl (by decide +kernel)) (zs_aload_n (k9 := 0) (by decide +kernel) rfl)))) (gS_Model_takeNumber_32 hw))))
def g_Model_takeNumber_0 : z_T := (zq 1 (zi_iconst 1 1) (zq 2 (zi_iload 1 2) (zq 3 (zi_ishl 3) (zq 4 (zi_istore 2 4) (zq 5 (zi_lconst 0 5) (zq 6 (zi_lstore 3 6) (zq 7 (zi_iconst 0 7) (zi_istore 5 9))))))))
theorem gS_Model_takeNumber_0 (hw : z_Wd w) : z_S w zY_Model_takeNumber 0 g_Model_takeNumber_0 := (zq_S (zs_iconst (n := 1) (by decide +kernel) (by decide)) (zq_S (zs_iload_n (k9 := 1) (by decide +kernel) rfl) (zq_S (zs_ishl (by decide +kernel)) (zq_S (zs_istore_n (k9 := 2) (by decide +kernel) rfl (by decide)) (zq_S (zs_lconst (n := 0) (by decide +kernel) (by decide)) (zq_S (zs_lstore_n (k9 := 3) (by decide +kernel) rfl (by decide)) (zq_S (zs_iconst (n := 0) (by decide +kernel) (by decide)) (zs_istore (by decide +kernel) (by decide)))))))))
def g_Model_takeHandle_90 : z_T := (zi_iret)
theorem gS_Model_takeHandle_90 (hw : z_Wd w) : z_S w zY_Model_takeHandle 90 g_Model_takeHandle_90 := (zs_iret (by decide +kernel) rfl)
def g_Model_takeHandle_84 : z_T := (zq 85 (zi_aload 0 85) (zq 88 (zi_get 7 19 88) (zq 89 (zi_iload 2 89) (zq 90 (zi_iald 90) g_Model_takeHandle_90))))
theorem gS_Model_takeHandle_84 (hw : z_Wd w) : z_S w zY_Model_takeHandle 84 g_Model_takeHandle_84 := (zq_S (zs_aload_n (k9 := 0) (by decide +kernel) rfl) (zq_S (zs_get hw.1 (by decide +kernel) (zf_Model_61 hw)) (zq_S (zs_iload_n (k9 := 2) (by decide +kernel) rfl) (zq_S (zs_iald hw.1 (by decide +kernel)) (gS_Model_takeHandle_90 hw)))))
def g_Model_takeHandle_67 : z_T := (zq 68 (zi_iload 1 68) (zb 71 84 (zi_if_eq 84 71) (zq 72 (zi_aload 0 72) (zq 75 (zi_get 7 19 75) (zq 76 (zi_iload 2 76) (zq 77 (zi_iald 77) (zq 80 (zi_sipush 200 80) (zq 81 (zi_isub 81) (zq 90 (zi_goto 90) g_Model_takeHandle_90))))))) g_Model_takeHandle_84))
theorem gS_Model_takeHandle_67 (hw : z_Wd w) : z_S w zY_Model_takeHandle 67 g_Model_takeHandle_67 := (zq_S (zs_iload_n (k9 := 1) (by decide +kernel) rfl) (zb_S (zs_if_eq (off := 16) (by decide +kernel) (by decide)) (zq_S (zs_aload_n (k9 := 0) (by decide +kernel) rfl) (zq_S (zs_get hw.1 (by decide +kernel) (zf_Model_61 hw)) (zq_S (zs_iload_n (k9 := 2) (by decide +kernel) rfl) (zq_S (zs_iald hw.1 (by decide +kernel)) (zq_S (zs_sipush (n := 200) (by decide +kernel) (by decide)) (zq_S (zs_isub (by decide +kernel)) (zq_S (zs_goto (off := 9) (by decide +kernel) (by decide)) (gS_Model_takeHandle_90 hw)))))))) (gS_Model_takeHandle_84 hw)))
def g_Model_takeHandle_64 : z_T := (zq 65 (zi_istore 3 65) (zq 66 (zi_iconst (-1) 66) (zi_iret)))
theorem gS_Model_takeHandle_64 (hw : z_Wd w) : z_S w zY_Model_takeHandle 64 g_Model_takeHandle_64 := (zq_S (zs_istore_n (k9 := 3) (by decide +kernel) rfl (by decide)) (zq_S (zs_iconst (n := (-1)) (by decide +kernel) (by decide)) (zs_iret (by decide +kernel) rfl)))
def g_Model_takeHandle_53 : z_T := (zq 54 (zi_aload 0 54) (zq 55 (zi_iconst 1 55) (zq 56 (zi_aload 0 56) (zq 59 (zi_get 7 23 59) (zq 60 (zi_iconst 2 60) (zi_isub 61))))))
theorem gS_Model_takeHandle_53 (hw : z_Wd w) : z_S w zY_Model_takeHandle 53 g_Model_takeHandle_53 := (zq_S (zs_aload_n (k9 := 0) (by decide +kernel) rfl) (zq_S (zs_iconst (n := 1) (by decide +kernel) (by decide)) (zq_S (zs_aload_n (k9 := 0) (by decide +kernel) rfl) (zq_S (zs_get hw.1 (by decide +kernel) (zf_Model_181 hw)) (zq_S (zs_iconst (n := 2) (by decide +kernel) (by decide)) (zs_isub (by decide +kernel)))))))
def g_Model_takeHandle_49 : z_T := (zq 50 (zi_iload 1 50) (zq 67 (zi_icmp_eq 67 53) g_Model_takeHandle_67))
theorem gS_Model_takeHandle_49 (hw : z_Wd w) : z_S w zY_Model_takeHandle 49 g_Model_takeHandle_49 := (zq_S (zs_iload_n (k9 := 1) (by decide +kernel) rfl) (zq_S (zs_icmp_eq (off := 17) (by decide +kernel) (by decide)) (gS_Model_takeHandle_67 hw)))
def g_Model_takeHandle_48 : z_T := (zq 49 (zi_iconst 0 49) g_Model_takeHandle_49)
theorem gS_Model_takeHandle_48 (hw : z_Wd w) : z_S w zY_Model_takeHandle 48 g_Model_takeHandle_48 := (zq_S (zs_iconst (n := 0) (by decide +kernel) (by decide)) (gS_Model_takeHandle_49 hw))
def g_Model_takeHandle_22 : z_T := (zq 23 (zi_iadd 23) (zq 24 (zi_istore 2 24) (zq 25 (zi_iload 2 25) (zq 26 (zi_aload 0 26) (zq 29 (zi_get 7 16 29) (zq 32 (zi_icmp_ge 53 32) (zq 33 (zi_aload 0 33) (zq 36 (zi_get 7 19 36) (zq 37 (zi_iload 2 37) (zq 38 (zi_iald 38) (zq 41 (zi_sipush 200 41) (zb 44 48 (zi_icmp_lt 48 44) (zq 45 (zi_iconst 1 45) (zq 49 (zi_goto 49) g_Model_takeHandle_49)) g_Model_takeHandle_48))))))))))))
theorem gS_Model_takeHandle_22 (hw : z_Wd w) : z_S w zY_Model_takeHandle 22 g_Model_takeHandle_22 := (zq_S (zs_iadd (by decide +kernel)) (zq_S (zs_istore_n (k9 := 2) (by decide +kernel) rfl (by decide)) (zq_S (zs_iload_n (k9 := 2) (by decide +kernel) rfl) (zq_S (zs_aload_n (k9 := 0) (by decide +kernel) rfl) (zq_S (zs_get hw.1 (by decide +kernel) (zf_Model_160 hw)) (zq_S (zs_icmp_ge (off := 24) (by decide +kernel) (by decide)) (zq_S (zs_aload_n (k9 := 0) (by decide +kernel) rfl) (zq_S (zs_get hw.1 (by decide +kernel) (zf_Model_61 hw)) (zq_S (zs_iload_n (k9 := 2) (by decide +kernel) rfl) (zq_S (zs_iald hw.1 (by decide +kernel)) (zq_S (zs_sipush (n := 200) (by decide +kernel) (by decide)) (zb_S (zs_icmp_lt (off := 7) (by decide +kernel) (by decide)) (zq_S (zs_iconst (n := 1) (by decide +kernel) (by decide)) (zq_S (zs_goto (off := 4) (by decide +kernel) (by decide)) (gS_Model_takeHandle_49 hw))) (gS_Model_takeHandle_48 hw)))))))))))))
def g_Model_takeHandle_17 : z_T := (zq 18 (zi_imul 18) (zi_aload 0 19))
theorem gS_Model_takeHandle_17 (hw : z_Wd w) : z_S w zY_Model_takeHandle 17 g_Model_takeHandle_17 := (zq_S (zs_imul (by decide +kernel)) (zs_aload_n (k9 := 0) (by decide +kernel) rfl))
def g_Model_takeHandle_10 : z_T := (zq 13 (zi_sipush 256 13) (zi_aload 0 14))
theorem gS_Model_takeHandle_10 (hw : z_Wd w) : z_S w zY_Model_takeHandle 10 g_Model_takeHandle_10 := (zq_S (zs_sipush (n := 256) (by decide +kernel) (by decide)) (zs_aload_n (k9 := 0) (by decide +kernel) rfl))
def g_Model_takeHandle_5 : z_T := (zb 8 10 (zi_if_ne 10 8) (zq 9 (zi_iconst (-1) 9) (zi_iret)) g_Model_takeHandle_10)
theorem gS_Model_takeHandle_5 (hw : z_Wd w) : z_S w zY_Model_takeHandle 5 g_Model_takeHandle_5 := (zb_S (zs_if_ne (off := 5) (by decide +kernel) (by decide)) (zq_S (zs_iconst (n := (-1)) (by decide +kernel) (by decide)) (zs_iret (by decide +kernel) rfl)) (gS_Model_takeHandle_10 hw))
def g_Model_takeHandle_0 : z_T := (zq 1 (zi_aload 0 1) (zi_iconst 2 2))
theorem gS_Model_takeHandle_0 (hw : z_Wd w) : z_S w zY_Model_takeHandle 0 g_Model_takeHandle_0 := (zq_S (zs_aload_n (k9 := 0) (by decide +kernel) rfl) (zs_iconst (n := 2) (by decide +kernel) (by decide)))
def g_Model_describe_153 : z_T := (zq 154 (zi_aload 0 154) (zq 157 (zi_get 7 19 157) (zq 158 (zi_aload 0 158) (zq 161 (zi_get 7 16 161) (zq 162 (zi_iload 1 162) (zq 163 (zi_iast 163) (zq 164 (zi_aload 0 164) (zq 165 (zi_dup 165) (zq 168 (zi_get 7 16 168) (zq 169 (zi_iconst 1 169) (zq 170 (zi_iadd 170) (zq 173 (zi_put 7 16 (.int) 173) (zq 174 (zi_iconst 1 174) (zi_zret))))))))))))))
theorem gS_Model_describe_153 (hw : z_Wd w) : z_S w zY_Model_describe 153 g_Model_describe_153 := (zq_S (zs_aload_n (k9 := 0) (by decide +kernel) rfl) (zq_S (zs_get hw.1 (by decide +kernel) (zf_Model_61 hw)) (zq_S (zs_aload_n (k9 := 0) (by decide +kernel) rfl) (zq_S (zs_get hw.1 (by decide +kernel) (zf_Model_160 hw)) (zq_S (zs_iload_n (k9 := 1) (by decide +kernel) rfl) (zq_S (zs_iast hw.1 (by decide +kernel)) (zq_S (zs_aload_n (k9 := 0) (by decide +kernel) rfl) (zq_S (zs_dup (by decide +kernel)) (zq_S (zs_get hw.1 (by decide +kernel) (zf_Model_160 hw)) (zq_S (zs_iconst (n := 1) (by decide +kernel) (by decide)) (zq_S (zs_iadd (by decide +kernel)) (zq_S (zs_put hw.1 (by decide +kernel) (zp_Model_160 hw) (fun h => by cases h)) (zq_S (zs_iconst (n := 1) (by decide +kernel) (by decide)) (zs_zret (by decide +kernel) rfl))))))))))))))
def g_Model_describe_147 : z_T := (zq 150 (zi_iinc 3 1 150) (zi_goto 120))
theorem gS_Model_describe_147 (hw : z_Wd w) : z_S w zY_Model_describe 147 g_Model_describe_147 := (zq_S (zs_iinc (n := 1) (by decide +kernel) (by decide) (by decide)) (zs_goto (off := -30) (by decide +kernel) (by decide)))
def g_Model_describe_142 : z_T := (zb 145 147 (zi_if_ne 147 145) (zq 146 (zi_iconst 0 146) (zi_zret)) g_Model_describe_147)
theorem gS_Model_describe_142 (hw : z_Wd w) : z_S w zY_Model_describe 142 g_Model_describe_142 := (zb_S (zs_if_ne (off := 5) (by decide +kernel) (by decide)) (zq_S (zs_iconst (n := 0) (by decide +kernel) (by decide)) (zs_zret (by decide +kernel) rfl)) (gS_Model_describe_147 hw))
def g_Model_describe_120 : z_T := (zq 121 (zi_iload 3 121) (zq 122 (zi_iconst 4 122) (zq 123 (zi_iload 1 123) (zq 124 (zi_imul 124) (zq 125 (zi_aload 0 125) (zq 128 (zi_get 7 30 128) (zq 129 (zi_iload 1 129) (zq 130 (zi_iald 130) (zq 131 (zi_iadd 131) (zb 134 153 (zi_icmp_ge 153 134) (zq 135 (zi_aload 0 135) (zq 136 (zi_iload 3 136) (zq 137 (zi_iconst 4 137) (zq 138 (zi_iload 1 138) (zi_imul 139))))) g_Model_describe_153))))))))))
theorem gS_Model_describe_120 (hw : z_Wd w) : z_S w zY_Model_describe 120 g_Model_describe_120 := (zq_S (zs_iload_n (k9 := 3) (by decide +kernel) rfl) (zq_S (zs_iconst (n := 4) (by decide +kernel) (by decide)) (zq_S (zs_iload_n (k9 := 1) (by decide +kernel) rfl) (zq_S (zs_imul (by decide +kernel)) (zq_S (zs_aload_n (k9 := 0) (by decide +kernel) rfl) (zq_S (zs_get hw.1 (by decide +kernel) (zf_Model_82 hw)) (zq_S (zs_iload_n (k9 := 1) (by decide +kernel) rfl) (zq_S (zs_iald hw.1 (by decide +kernel)) (zq_S (zs_iadd (by decide +kernel)) (zb_S (zs_icmp_ge (off := 22) (by decide +kernel) (by decide)) (zq_S (zs_aload_n (k9 := 0) (by decide +kernel) rfl) (zq_S (zs_iload_n (k9 := 3) (by decide +kernel) rfl) (zq_S (zs_iconst (n := 4) (by decide +kernel) (by decide)) (zq_S (zs_iload_n (k9 := 1) (by decide +kernel) rfl) (zs_imul (by decide +kernel)))))) (gS_Model_describe_153 hw)))))))))))
def g_Model_describe_116 : z_T := (zq 117 (zi_iconst 4 117) (zq 118 (zi_iload 1 118) (zq 119 (zi_imul 119) (zi_istore 3 120))))
theorem gS_Model_describe_116 (hw : z_Wd w) : z_S w zY_Model_describe 116 g_Model_describe_116 := (zq_S (zs_iconst (n := 4) (by decide +kernel) (by decide)) (zq_S (zs_iload_n (k9 := 1) (by decide +kernel) rfl) (zq_S (zs_imul (by decide +kernel)) (zs_istore_n (k9 := 3) (by decide +kernel) rfl (by decide)))))
def g_Model_describe_115 : z_T := (zi_zret)
theorem gS_Model_describe_115 (hw : z_Wd w) : z_S w zY_Model_describe 115 g_Model_describe_115 := (zs_zret (by decide +kernel) rfl)
def g_Model_describe_93 : z_T := (zq 94 (zi_iast 94) (zq 95 (zi_aload 0 95) (zq 98 (zi_get 7 30 98) (zq 99 (zi_iload 1 99) (zq 100 (zi_iald 100) (zq 101 (zi_iconst 4 101) (zb 104 116 (zi_icmp_le 116 104) (zq 105 (zi_aload 0 105) (zq 106 (zi_iconst 1 106) (zq 107 (zi_aload 0 107) (zq 110 (zi_get 7 23 110) (zq 111 (zi_iconst 1 111) (zi_isub 112)))))) g_Model_describe_116)))))))
theorem gS_Model_describe_93 (hw : z_Wd w) : z_S w zY_Model_describe 93 g_Model_describe_93 := (zq_S (zs_iast hw.1 (by decide +kernel)) (zq_S (zs_aload_n (k9 := 0) (by decide +kernel) rfl) (zq_S (zs_get hw.1 (by decide +kernel) (zf_Model_82 hw)) (zq_S (zs_iload_n (k9 := 1) (by decide +kernel) rfl) (zq_S (zs_iald hw.1 (by decide +kernel)) (zq_S (zs_iconst (n := 4) (by decide +kernel) (by decide)) (zb_S (zs_icmp_le (off := 15) (by decide +kernel) (by decide)) (zq_S (zs_aload_n (k9 := 0) (by decide +kernel) rfl) (zq_S (zs_iconst (n := 1) (by decide +kernel) (by decide)) (zq_S (zs_aload_n (k9 := 0) (by decide +kernel) rfl) (zq_S (zs_get hw.1 (by decide +kernel) (zf_Model_181 hw)) (zq_S (zs_iconst (n := 1) (by decide +kernel) (by decide)) (zs_isub (by decide +kernel))))))) (gS_Model_describe_116 hw))))))))
def g_Model_describe_84 : z_T := (zq 85 (zi_aload 0 85) (zq 88 (zi_get 7 30 88) (zq 89 (zi_iload 1 89) (zi_aload 0 90))))
theorem gS_Model_describe_84 (hw : z_Wd w) : z_S w zY_Model_describe 84 g_Model_describe_84 := (zq_S (zs_aload_n (k9 := 0) (by decide +kernel) rfl) (zq_S (zs_get hw.1 (by decide +kernel) (zf_Model_82 hw)) (zq_S (zs_iload_n (k9 := 1) (by decide +kernel) rfl) (zs_aload_n (k9 := 0) (by decide +kernel) rfl))))
def g_Model_describe_79 : z_T := (zb 82 84 (zi_if_ne 84 82) (zq 83 (zi_iconst 0 83) (zi_zret)) g_Model_describe_84)
theorem gS_Model_describe_79 (hw : z_Wd w) : z_S w zY_Model_describe 79 g_Model_describe_79 := (zb_S (zs_if_ne (off := 5) (by decide +kernel) (by decide)) (zq_S (zs_iconst (n := 0) (by decide +kernel) (by decide)) (zs_zret (by decide +kernel) rfl)) (gS_Model_describe_84 hw))
def g_Model_describe_72 : z_T := (zq 73 (zi_l2i 73) (zq 74 (zi_iast 74) (zq 75 (zi_aload 0 75) (zi_iconst 1 76))))
theorem gS_Model_describe_72 (hw : z_Wd w) : z_S w zY_Model_describe 72 g_Model_describe_72 := (zq_S (zs_l2i (by decide +kernel)) (zq_S (zs_iast hw.1 (by decide +kernel)) (zq_S (zs_aload_n (k9 := 0) (by decide +kernel) rfl) (zs_iconst (n := 1) (by decide +kernel) (by decide)))))
def g_Model_describe_62 : z_T := (zq 63 (zi_aload 0 63) (zq 66 (zi_get 7 29 66) (zq 67 (zi_iload 1 67) (zq 68 (zi_aload 0 68) (zi_iconst 2 69)))))
theorem gS_Model_describe_62 (hw : z_Wd w) : z_S w zY_Model_describe 62 g_Model_describe_62 := (zq_S (zs_aload_n (k9 := 0) (by decide +kernel) rfl) (zq_S (zs_get hw.1 (by decide +kernel) (zf_Model_79 hw)) (zq_S (zs_iload_n (k9 := 1) (by decide +kernel) rfl) (zq_S (zs_aload_n (k9 := 0) (by decide +kernel) rfl) (zs_iconst (n := 2) (by decide +kernel) (by decide))))))
def g_Model_describe_57 : z_T := (zb 60 62 (zi_if_ne 62 60) (zq 61 (zi_iconst 0 61) (zi_zret)) g_Model_describe_62)
theorem gS_Model_describe_57 (hw : z_Wd w) : z_S w zY_Model_describe 57 g_Model_describe_57 := (zb_S (zs_if_ne (off := 5) (by decide +kernel) (by decide)) (zq_S (zs_iconst (n := 0) (by decide +kernel) (by decide)) (zs_zret (by decide +kernel) rfl)) (gS_Model_describe_62 hw))
def g_Model_describe_52 : z_T := (zq 53 (zi_aload 0 53) (zi_iconst 4 54))
theorem gS_Model_describe_52 (hw : z_Wd w) : z_S w zY_Model_describe 52 g_Model_describe_52 := (zq_S (zs_aload_n (k9 := 0) (by decide +kernel) rfl) (zs_iconst (n := 4) (by decide +kernel) (by decide)))
def g_Model_describe_51 : z_T := (zi_zret)
theorem gS_Model_describe_51 (hw : z_Wd w) : z_S w zY_Model_describe 51 g_Model_describe_51 := (zs_zret (by decide +kernel) rfl)
def g_Model_describe_40 : z_T := (zq 41 (zi_aload 0 41) (zq 42 (zi_iconst 1 42) (zq 43 (zi_aload 0 43) (zq 46 (zi_get 7 23 46) (zq 47 (zi_iconst 1 47) (zi_isub 48))))))
theorem gS_Model_describe_40 (hw : z_Wd w) : z_S w zY_Model_describe 40 g_Model_describe_40 := (zq_S (zs_aload_n (k9 := 0) (by decide +kernel) rfl) (zq_S (zs_iconst (n := 1) (by decide +kernel) (by decide)) (zq_S (zs_aload_n (k9 := 0) (by decide +kernel) rfl) (zq_S (zs_get hw.1 (by decide +kernel) (zf_Model_181 hw)) (zq_S (zs_iconst (n := 1) (by decide +kernel) (by decide)) (zs_isub (by decide +kernel)))))))
def g_Model_describe_19 : z_T := (zq 20 (zi_iast 20) (zq 21 (zi_aload 0 21) (zq 24 (zi_get 7 26 24) (zq 25 (zi_iload 1 25) (zq 26 (zi_iald 26) (zq 27 (zi_iconst 5 27) (zq 30 (zi_icmp_gt 40 30) (zq 31 (zi_aload 0 31) (zq 34 (zi_get 7 26 34) (zq 35 (zi_iload 1 35) (zq 36 (zi_iald 36) (zq 37 (zi_iload 2 37) (zq 52 (zi_icmp_lt 52 40) g_Model_describe_52)))))))))))))
theorem gS_Model_describe_19 (hw : z_Wd w) : z_S w zY_Model_describe 19 g_Model_describe_19 := (zq_S (zs_iast hw.1 (by decide +kernel)) (zq_S (zs_aload_n (k9 := 0) (by decide +kernel) rfl) (zq_S (zs_get hw.1 (by decide +kernel) (zf_Model_70 hw)) (zq_S (zs_iload_n (k9 := 1) (by decide +kernel) rfl) (zq_S (zs_iald hw.1 (by decide +kernel)) (zq_S (zs_iconst (n := 5) (by decide +kernel) (by decide)) (zq_S (zs_icmp_gt (off := 13) (by decide +kernel) (by decide)) (zq_S (zs_aload_n (k9 := 0) (by decide +kernel) rfl) (zq_S (zs_get hw.1 (by decide +kernel) (zf_Model_70 hw)) (zq_S (zs_iload_n (k9 := 1) (by decide +kernel) rfl) (zq_S (zs_iald hw.1 (by decide +kernel)) (zq_S (zs_iload_n (k9 := 2) (by decide +kernel) rfl) (zq_S (zs_icmp_lt (off := 15) (by decide +kernel) (by decide)) (gS_Model_describe_52 hw))))))))))))))
def g_Model_describe_10 : z_T := (zq 11 (zi_aload 0 11) (zq 14 (zi_get 7 26 14) (zq 15 (zi_iload 1 15) (zi_aload 0 16))))
theorem gS_Model_describe_10 (hw : z_Wd w) : z_S w zY_Model_describe 10 g_Model_describe_10 := (zq_S (zs_aload_n (k9 := 0) (by decide +kernel) rfl) (zq_S (zs_get hw.1 (by decide +kernel) (zf_Model_70 hw)) (zq_S (zs_iload_n (k9 := 1) (by decide +kernel) rfl) (zs_aload_n (k9 := 0) (by decide +kernel) rfl))))
def g_Model_describe_5 : z_T := (zb 8 10 (zi_if_ne 10 8) (zq 9 (zi_iconst 0 9) (zi_zret)) g_Model_describe_10)
theorem gS_Model_describe_5 (hw : z_Wd w) : z_S w zY_Model_describe 5 g_Model_describe_5 := (zb_S (zs_if_ne (off := 5) (by decide +kernel) (by decide)) (zq_S (zs_iconst (n := 0) (by decide +kernel) (by decide)) (zs_zret (by decide +kernel) rfl)) (gS_Model_describe_10 hw))
def g_Model_describe_0 : z_T := (zq 1 (zi_aload 0 1) (zi_iconst 1 2))
theorem gS_Model_describe_0 (hw : z_Wd w) : z_S w zY_Model_describe 0 g_Model_describe_0 := (zq_S (zs_aload_n (k9 := 0) (by decide +kernel) rfl) (zs_iconst (n := 1) (by decide +kernel) (by decide)))
def g_Model_describeField_185 : z_T := (zi_zret)
theorem gS_Model_describeField_185 (hw : z_Wd w) : z_S w zY_Model_describeField 185 g_Model_describeField_185 := (zs_zret (by decide +kernel) rfl)
def g_Model_describeField_184 : z_T := (zq 185 (zi_iconst 0 185) g_Model_describeField_185)
theorem gS_Model_describeField_184 (hw : z_Wd w) : z_S w zY_Model_describeField 184 g_Model_describeField_184 := (zq_S (zs_iconst (n := 0) (by decide +kernel) (by decide)) (gS_Model_describeField_185 hw))
def g_Model_describeField_180 : z_T := (zq 181 (zi_iconst 1 181) (zq 185 (zi_goto 185) g_Model_describeField_185))
theorem gS_Model_describeField_180 (hw : z_Wd w) : z_S w zY_Model_describeField 180 g_Model_describeField_180 := (zq_S (zs_iconst (n := 1) (by decide +kernel) (by decide)) (zq_S (zs_goto (off := 4) (by decide +kernel) (by decide)) (gS_Model_describeField_185 hw)))
def g_Model_describeField_177 : z_T := (zb 180 184 (zi_if_eq 184 180) g_Model_describeField_180 g_Model_describeField_184)
theorem gS_Model_describeField_177 (hw : z_Wd w) : z_S w zY_Model_describeField 177 g_Model_describeField_177 := (zb_S (zs_if_eq (off := 7) (by decide +kernel) (by decide)) (gS_Model_describeField_180 hw) (gS_Model_describeField_184 hw))
def g_Model_describeField_162 : z_T := (zq 163 (zi_iload 3 163) (zb 166 180 (zi_if_ne 180 166) (zq 167 (zi_aload 0 167) (zq 168 (zi_iconst 1 168) (zq 169 (zi_aload 0 169) (zq 172 (zi_get 7 23 172) (zq 173 (zi_iconst 1 173) (zi_isub 174)))))) g_Model_describeField_180))
theorem gS_Model_describeField_162 (hw : z_Wd w) : z_S w zY_Model_describeField 162 g_Model_describeField_162 := (zq_S (zs_iload_n (k9 := 3) (by decide +kernel) rfl) (zb_S (zs_if_ne (off := 17) (by decide +kernel) (by decide)) (zq_S (zs_aload_n (k9 := 0) (by decide +kernel) rfl) (zq_S (zs_iconst (n := 1) (by decide +kernel) (by decide)) (zq_S (zs_aload_n (k9 := 0) (by decide +kernel) rfl) (zq_S (zs_get hw.1 (by decide +kernel) (zf_Model_181 hw)) (zq_S (zs_iconst (n := 1) (by decide +kernel) (by decide)) (zs_isub (by decide +kernel))))))) (gS_Model_describeField_180 hw)))
def g_Model_describeField_155 : z_T := (zq 156 (zi_istore 3 156) (zq 159 (zi_iinc 4 1 159) (zi_goto 124)))
theorem gS_Model_describeField_155 (hw : z_Wd w) : z_S w zY_Model_describeField 155 g_Model_describeField_155 := (zq_S (zs_istore_n (k9 := 3) (by decide +kernel) rfl (by decide)) (zq_S (zs_iinc (n := 1) (by decide +kernel) (by decide) (by decide)) (zs_goto (off := -35) (by decide +kernel) (by decide))))
def g_Model_describeField_154 : z_T := (zq 155 (zi_iconst 0 155) g_Model_describeField_155)
theorem gS_Model_describeField_154 (hw : z_Wd w) : z_S w zY_Model_describeField 154 g_Model_describeField_154 := (zq_S (zs_iconst (n := 0) (by decide +kernel) (by decide)) (gS_Model_describeField_155 hw))
def g_Model_describeField_124 : z_T := (zq 126 (zi_iload 4 126) (zq 127 (zi_iload 1 127) (zb 130 162 (zi_icmp_ge 162 130) (zq 131 (zi_iload 3 131) (zb 134 154 (zi_if_eq 154 134) (zq 135 (zi_aload 0 135) (zq 138 (zi_get 7 31 138) (zq 140 (zi_iload 4 140) (zq 141 (zi_iald 141) (zq 142 (zi_aload 0 142) (zq 145 (zi_get 7 31 145) (zq 146 (zi_iload 1 146) (zq 147 (zi_iald 147) (zb 150 154 (zi_icmp_eq 154 150) (zq 151 (zi_iconst 1 151) (zq 155 (zi_goto 155) g_Model_describeField_155)) g_Model_describeField_154))))))))) g_Model_describeField_154)) g_Model_describeField_162)))
theorem gS_Model_describeField_124 (hw : z_Wd w) : z_S w zY_Model_describeField 124 g_Model_describeField_124 := (zq_S (zs_iload (by decide +kernel)) (zq_S (zs_iload_n (k9 := 1) (by decide +kernel) rfl) (zb_S (zs_icmp_ge (off := 35) (by decide +kernel) (by decide)) (zq_S (zs_iload_n (k9 := 3) (by decide +kernel) rfl) (zb_S (zs_if_eq (off := 23) (by decide +kernel) (by decide)) (zq_S (zs_aload_n (k9 := 0) (by decide +kernel) rfl) (zq_S (zs_get hw.1 (by decide +kernel) (zf_Model_85 hw)) (zq_S (zs_iload (by decide +kernel)) (zq_S (zs_iald hw.1 (by decide +kernel)) (zq_S (zs_aload_n (k9 := 0) (by decide +kernel) rfl) (zq_S (zs_get hw.1 (by decide +kernel) (zf_Model_85 hw)) (zq_S (zs_iload_n (k9 := 1) (by decide +kernel) rfl) (zq_S (zs_iald hw.1 (by decide +kernel)) (zb_S (zs_icmp_eq (off := 7) (by decide +kernel) (by decide)) (zq_S (zs_iconst (n := 1) (by decide +kernel) (by decide)) (zq_S (zs_goto (off := 4) (by decide +kernel) (by decide)) (gS_Model_describeField_155 hw))) (gS_Model_describeField_154 hw)))))))))) (gS_Model_describeField_154 hw))) (gS_Model_describeField_162 hw))))
def g_Model_describeField_120 : z_T := (zq 121 (zi_istore 3 121) (zq 122 (zi_iload 2 122) (zi_istore 4 124)))
theorem gS_Model_describeField_120 (hw : z_Wd w) : z_S w zY_Model_describeField 120 g_Model_describeField_120 := (zq_S (zs_istore_n (k9 := 3) (by decide +kernel) rfl (by decide)) (zq_S (zs_iload_n (k9 := 2) (by decide +kernel) rfl) (zs_istore (by decide +kernel) (by decide))))
def g_Model_describeField_119 : z_T := (zq 120 (zi_iconst 0 120) g_Model_describeField_120)
theorem gS_Model_describeField_119 (hw : z_Wd w) : z_S w zY_Model_describeField 119 g_Model_describeField_119 := (zq_S (zs_iconst (n := 0) (by decide +kernel) (by decide)) (gS_Model_describeField_120 hw))
def g_Model_describeField_115 : z_T := (zq 116 (zi_iconst 1 116) (zq 120 (zi_goto 120) g_Model_describeField_120))
theorem gS_Model_describeField_115 (hw : z_Wd w) : z_S w zY_Model_describeField 115 g_Model_describeField_115 := (zq_S (zs_iconst (n := 1) (by decide +kernel) (by decide)) (zq_S (zs_goto (off := 4) (by decide +kernel) (by decide)) (gS_Model_describeField_120 hw)))
def g_Model_describeField_112 : z_T := (zb 115 119 (zi_icmp_le 119 115) g_Model_describeField_115 g_Model_describeField_119)
theorem gS_Model_describeField_112 (hw : z_Wd w) : z_S w zY_Model_describeField 112 g_Model_describeField_112 := (zb_S (zs_icmp_le (off := 7) (by decide +kernel) (by decide)) (gS_Model_describeField_115 hw) (gS_Model_describeField_119 hw))
def g_Model_describeField_93 : z_T := (zq 94 (zi_aload 0 94) (zq 97 (zi_get 7 31 97) (zq 98 (zi_iload 1 98) (zq 99 (zi_iconst 1 99) (zq 100 (zi_isub 100) (zq 101 (zi_iald 101) (zq 102 (zi_aload 0 102) (zq 105 (zi_get 7 32 105) (zq 106 (zi_iload 1 106) (zq 107 (zi_iconst 1 107) (zq 108 (zi_isub 108) (zi_iald 109))))))))))))
theorem gS_Model_describeField_93 (hw : z_Wd w) : z_S w zY_Model_describeField 93 g_Model_describeField_93 := (zq_S (zs_aload_n (k9 := 0) (by decide +kernel) rfl) (zq_S (zs_get hw.1 (by decide +kernel) (zf_Model_85 hw)) (zq_S (zs_iload_n (k9 := 1) (by decide +kernel) rfl) (zq_S (zs_iconst (n := 1) (by decide +kernel) (by decide)) (zq_S (zs_isub (by decide +kernel)) (zq_S (zs_iald hw.1 (by decide +kernel)) (zq_S (zs_aload_n (k9 := 0) (by decide +kernel) rfl) (zq_S (zs_get hw.1 (by decide +kernel) (zf_Model_88 hw)) (zq_S (zs_iload_n (k9 := 1) (by decide +kernel) rfl) (zq_S (zs_iconst (n := 1) (by decide +kernel) (by decide)) (zq_S (zs_isub (by decide +kernel)) (zs_iald hw.1 (by decide +kernel)))))))))))))
def g_Model_describeField_62 : z_T := (zq 63 (zi_iast 63) (zq 64 (zi_aload 0 64) (zq 67 (zi_get 7 32 67) (zq 68 (zi_iload 1 68) (zq 69 (zi_iald 69) (zq 70 (zi_iconst 5 70) (zb 73 119 (zi_icmp_ge 119 73) (zq 74 (zi_iload 1 74) (zq 75 (zi_iload 2 75) (zb 78 115 (zi_icmp_eq 115 78) (zq 79 (zi_aload 0 79) (zq 82 (zi_get 7 31 82) (zq 83 (zi_iload 1 83) (zq 84 (zi_iald 84) (zq 85 (zi_aload 0 85) (zq 88 (zi_get 7 32 88) (zq 89 (zi_iload 1 89) (zi_iald 90)))))))) g_Model_describeField_115))) g_Model_describeField_119)))))))
theorem gS_Model_describeField_62 (hw : z_Wd w) : z_S w zY_Model_describeField 62 g_Model_describeField_62 := (zq_S (zs_iast hw.1 (by decide +kernel)) (zq_S (zs_aload_n (k9 := 0) (by decide +kernel) rfl) (zq_S (zs_get hw.1 (by decide +kernel) (zf_Model_88 hw)) (zq_S (zs_iload_n (k9 := 1) (by decide +kernel) rfl) (zq_S (zs_iald hw.1 (by decide +kernel)) (zq_S (zs_iconst (n := 5) (by decide +kernel) (by decide)) (zb_S (zs_icmp_ge (off := 49) (by decide +kernel) (by decide)) (zq_S (zs_iload_n (k9 := 1) (by decide +kernel) rfl) (zq_S (zs_iload_n (k9 := 2) (by decide +kernel) rfl) (zb_S (zs_icmp_eq (off := 40) (by decide +kernel) (by decide)) (zq_S (zs_aload_n (k9 := 0) (by decide +kernel) rfl) (zq_S (zs_get hw.1 (by decide +kernel) (zf_Model_85 hw)) (zq_S (zs_iload_n (k9 := 1) (by decide +kernel) rfl) (zq_S (zs_iald hw.1 (by decide +kernel)) (zq_S (zs_aload_n (k9 := 0) (by decide +kernel) rfl) (zq_S (zs_get hw.1 (by decide +kernel) (zf_Model_88 hw)) (zq_S (zs_iload_n (k9 := 1) (by decide +kernel) rfl) (zs_iald hw.1 (by decide +kernel))))))))) (gS_Model_describeField_115 hw)))) (gS_Model_describeField_119 hw))))))))
def g_Model_describeField_53 : z_T := (zq 54 (zi_aload 0 54) (zq 57 (zi_get 7 32 57) (zq 58 (zi_iload 1 58) (zi_aload 0 59))))
theorem gS_Model_describeField_53 (hw : z_Wd w) : z_S w zY_Model_describeField 53 g_Model_describeField_53 := (zq_S (zs_aload_n (k9 := 0) (by decide +kernel) rfl) (zq_S (zs_get hw.1 (by decide +kernel) (zf_Model_88 hw)) (zq_S (zs_iload_n (k9 := 1) (by decide +kernel) rfl) (zs_aload_n (k9 := 0) (by decide +kernel) rfl))))
def g_Model_describeField_48 : z_T := (zb 51 53 (zi_if_ne 53 51) (zq 52 (zi_iconst 0 52) (zi_zret)) g_Model_describeField_53)
theorem gS_Model_describeField_48 (hw : z_Wd w) : z_S w zY_Model_describeField 48 g_Model_describeField_48 := (zb_S (zs_if_ne (off := 5) (by decide +kernel) (by decide)) (zq_S (zs_iconst (n := 0) (by decide +kernel) (by decide)) (zs_zret (by decide +kernel) rfl)) (gS_Model_describeField_53 hw))
def g_Model_describeField_43 : z_T := (zq 44 (zi_aload 0 44) (zi_iconst 1 45))
theorem gS_Model_describeField_43 (hw : z_Wd w) : z_S w zY_Model_describeField 43 g_Model_describeField_43 := (zq_S (zs_aload_n (k9 := 0) (by decide +kernel) rfl) (zs_iconst (n := 1) (by decide +kernel) (by decide)))
def g_Model_describeField_42 : z_T := (zi_zret)
theorem gS_Model_describeField_42 (hw : z_Wd w) : z_S w zY_Model_describeField 42 g_Model_describeField_42 := (zs_zret (by decide +kernel) rfl)
def g_Model_describeField_19 : z_T := (zq 20 (zi_iast 20) (zq 21 (zi_aload 0 21) (zq 24 (zi_get 7 31 24) (zq 25 (zi_iload 1 25) (zq 26 (zi_iald 26) (zq 28 (zi_bipush 9 28) (zb 31 43 (zi_icmp_le 43 31) (zq 32 (zi_aload 0 32) (zq 33 (zi_iconst 1 33) (zq 34 (zi_aload 0 34) (zq 37 (zi_get 7 23 37) (zq 38 (zi_iconst 1 38) (zi_isub 39)))))) g_Model_describeField_43)))))))
theorem gS_Model_describeField_19 (hw : z_Wd w) : z_S w zY_Model_describeField 19 g_Model_describeField_19 := (zq_S (zs_iast hw.1 (by decide +kernel)) (zq_S (zs_aload_n (k9 := 0) (by decide +kernel) rfl) (zq_S (zs_get hw.1 (by decide +kernel) (zf_Model_85 hw)) (zq_S (zs_iload_n (k9 := 1) (by decide +kernel) rfl) (zq_S (zs_iald hw.1 (by decide +kernel)) (zq_S (zs_bipush (n := 9) (by decide +kernel) (by decide)) (zb_S (zs_icmp_le (off := 15) (by decide +kernel) (by decide)) (zq_S (zs_aload_n (k9 := 0) (by decide +kernel) rfl) (zq_S (zs_iconst (n := 1) (by decide +kernel) (by decide)) (zq_S (zs_aload_n (k9 := 0) (by decide +kernel) rfl) (zq_S (zs_get hw.1 (by decide +kernel) (zf_Model_181 hw)) (zq_S (zs_iconst (n := 1) (by decide +kernel) (by decide)) (zs_isub (by decide +kernel))))))) (gS_Model_describeField_43 hw))))))))
def g_Model_describeField_10 : z_T := (zq 11 (zi_aload 0 11) (zq 14 (zi_get 7 31 14) (zq 15 (zi_iload 1 15) (zi_aload 0 16))))
theorem gS_Model_describeField_10 (hw : z_Wd w) : z_S w zY_Model_describeField 10 g_Model_describeField_10 := (zq_S (zs_aload_n (k9 := 0) (by decide +kernel) rfl) (zq_S (zs_get hw.1 (by decide +kernel) (zf_Model_85 hw)) (zq_S (zs_iload_n (k9 := 1) (by decide +kernel) rfl) (zs_aload_n (k9 := 0) (by decide +kernel) rfl))))
def g_Model_describeField_5 : z_T := (zb 8 10 (zi_if_ne 10 8) (zq 9 (zi_iconst 0 9) (zi_zret)) g_Model_describeField_10)
theorem gS_Model_describeField_5 (hw : z_Wd w) : z_S w zY_Model_describeField 5 g_Model_describeField_5 := (zb_S (zs_if_ne (off := 5) (by decide +kernel) (by decide)) (zq_S (zs_iconst (n := 0) (by decide +kernel) (by decide)) (zs_zret (by decide +kernel) rfl)) (gS_Model_describeField_10 hw))
def g_Model_describeField_0 : z_T := (zq 1 (zi_aload 0 1) (zi_iconst 1 2))
theorem gS_Model_describeField_0 (hw : z_Wd w) : z_S w zY_Model_describeField 0 g_Model_describeField_0 := (zq_S (zs_aload_n (k9 := 0) (by decide +kernel) rfl) (zs_iconst (n := 1) (by decide +kernel) (by decide)))
def g_Model_agrees_144 : z_T := (zi_zret)
theorem gS_Model_agrees_144 (hw : z_Wd w) : z_S w zY_Model_agrees 144 g_Model_agrees_144 := (zs_zret (by decide +kernel) rfl)
def g_Model_agrees_143 : z_T := (zq 144 (zi_iconst 0 144) g_Model_agrees_144)
theorem gS_Model_agrees_143 (hw : z_Wd w) : z_S w zY_Model_agrees 143 g_Model_agrees_143 := (zq_S (zs_iconst (n := 0) (by decide +kernel) (by decide)) (gS_Model_agrees_144 hw))
def g_Model_agrees_139 : z_T := (zq 140 (zi_iconst 1 140) (zq 144 (zi_goto 144) g_Model_agrees_144))
theorem gS_Model_agrees_139 (hw : z_Wd w) : z_S w zY_Model_agrees 139 g_Model_agrees_139 := (zq_S (zs_iconst (n := 1) (by decide +kernel) (by decide)) (zq_S (zs_goto (off := 4) (by decide +kernel) (by decide)) (gS_Model_agrees_144 hw)))
def g_Model_agrees_136 : z_T := (zb 139 143 (zi_if_eq 143 139) g_Model_agrees_139 g_Model_agrees_143)
theorem gS_Model_agrees_136 (hw : z_Wd w) : z_S w zY_Model_agrees 136 g_Model_agrees_136 := (zb_S (zs_if_eq (off := 7) (by decide +kernel) (by decide)) (gS_Model_agrees_139 hw) (gS_Model_agrees_143 hw))
def g_Model_agrees_121 : z_T := (zq 122 (zi_iload 3 122) (zb 125 139 (zi_if_ne 139 125) (zq 126 (zi_aload 0 126) (zq 127 (zi_iconst 2 127) (zq 128 (zi_aload 0 128) (zq 131 (zi_get 7 27 131) (zq 132 (zi_iload 1 132) (zi_iald 133)))))) g_Model_agrees_139))
theorem gS_Model_agrees_121 (hw : z_Wd w) : z_S w zY_Model_agrees 121 g_Model_agrees_121 := (zq_S (zs_iload_n (k9 := 3) (by decide +kernel) rfl) (zb_S (zs_if_ne (off := 17) (by decide +kernel) (by decide)) (zq_S (zs_aload_n (k9 := 0) (by decide +kernel) rfl) (zq_S (zs_iconst (n := 2) (by decide +kernel) (by decide)) (zq_S (zs_aload_n (k9 := 0) (by decide +kernel) rfl) (zq_S (zs_get hw.1 (by decide +kernel) (zf_Model_73 hw)) (zq_S (zs_iload_n (k9 := 1) (by decide +kernel) rfl) (zs_iald hw.1 (by decide +kernel))))))) (gS_Model_agrees_139 hw)))
def g_Model_agrees_114 : z_T := (zq 115 (zi_istore 3 115) (zq 118 (zi_iinc 4 1 118) (zi_goto 45)))
theorem gS_Model_agrees_114 (hw : z_Wd w) : z_S w zY_Model_agrees 114 g_Model_agrees_114 := (zq_S (zs_istore_n (k9 := 3) (by decide +kernel) rfl (by decide)) (zq_S (zs_iinc (n := 1) (by decide +kernel) (by decide) (by decide)) (zs_goto (off := -73) (by decide +kernel) (by decide))))
def g_Model_agrees_113 : z_T := (zq 114 (zi_iconst 0 114) g_Model_agrees_114)
theorem gS_Model_agrees_113 (hw : z_Wd w) : z_S w zY_Model_agrees 113 g_Model_agrees_113 := (zq_S (zs_iconst (n := 0) (by decide +kernel) (by decide)) (gS_Model_agrees_114 hw))
def g_Model_agrees_109 : z_T := (zq 110 (zi_iconst 1 110) (zq 114 (zi_goto 114) g_Model_agrees_114))
theorem gS_Model_agrees_109 (hw : z_Wd w) : z_S w zY_Model_agrees 109 g_Model_agrees_109 := (zq_S (zs_iconst (n := 1) (by decide +kernel) (by decide)) (zq_S (zs_goto (off := 4) (by decide +kernel) (by decide)) (gS_Model_agrees_114 hw)))
def g_Model_agrees_81 : z_T := (zq 83 (zi_istore 5 83) (zq 84 (zi_iload 3 84) (zb 87 113 (zi_if_eq 113 87) (zq 89 (zi_iload 5 89) (zb 92 109 (zi_if_lt 109 92) (zq 93 (zi_aload 0 93) (zq 96 (zi_get 7 6 96) (zq 98 (zi_iload 5 98) (zq 99 (zi_iald 99) (zq 100 (zi_aload 0 100) (zq 103 (zi_get 7 32 103) (zq 105 (zi_iload 4 105) (zq 106 (zi_iald 106) (zb 109 113 (zi_icmp_ne 113 109) g_Model_agrees_109 g_Model_agrees_113))))))))) g_Model_agrees_109)) g_Model_agrees_113)))
theorem gS_Model_agrees_81 (hw : z_Wd w) : z_S w zY_Model_agrees 81 g_Model_agrees_81 := (zq_S (zs_istore (by decide +kernel) (by decide)) (zq_S (zs_iload_n (k9 := 3) (by decide +kernel) rfl) (zb_S (zs_if_eq (off := 29) (by decide +kernel) (by decide)) (zq_S (zs_iload (by decide +kernel)) (zb_S (zs_if_lt (off := 20) (by decide +kernel) (by decide)) (zq_S (zs_aload_n (k9 := 0) (by decide +kernel) rfl) (zq_S (zs_get hw.1 (by decide +kernel) (zf_Model_26 hw)) (zq_S (zs_iload (by decide +kernel)) (zq_S (zs_iald hw.1 (by decide +kernel)) (zq_S (zs_aload_n (k9 := 0) (by decide +kernel) rfl) (zq_S (zs_get hw.1 (by decide +kernel) (zf_Model_88 hw)) (zq_S (zs_iload (by decide +kernel)) (zq_S (zs_iald hw.1 (by decide +kernel)) (zb_S (zs_icmp_ne (off := 7) (by decide +kernel) (by decide)) (gS_Model_agrees_109 hw) (gS_Model_agrees_113 hw)))))))))) (gS_Model_agrees_109 hw))) (gS_Model_agrees_113 hw))))
def g_Model_agrees_45 : z_T := (zq 47 (zi_iload 4 47) (zq 48 (zi_iconst 4 48) (zq 49 (zi_iload 1 49) (zq 50 (zi_imul 50) (zq 51 (zi_aload 0 51) (zq 54 (zi_get 7 30 54) (zq 55 (zi_iload 1 55) (zq 56 (zi_iald 56) (zq 57 (zi_iadd 57) (zq 60 (zi_icmp_ge 121 60) (zq 61 (zi_aload 0 61) (zq 64 (zi_get 7 1 64) (zq 65 (zi_iload 2 65) (zq 66 (zi_zald 66) (zq 69 (zi_if_eq 121 69) (zq 70 (zi_aload 0 70) (zq 71 (zi_iload 2 71) (zq 72 (zi_aload 0 72) (zq 75 (zi_get 7 31 75) (zq 77 (zi_iload 4 77) (zi_iald 78)))))))))))))))))))))
theorem gS_Model_agrees_45 (hw : z_Wd w) : z_S w zY_Model_agrees 45 g_Model_agrees_45 := (zq_S (zs_iload (by decide +kernel)) (zq_S (zs_iconst (n := 4) (by decide +kernel) (by decide)) (zq_S (zs_iload_n (k9 := 1) (by decide +kernel) rfl) (zq_S (zs_imul (by decide +kernel)) (zq_S (zs_aload_n (k9 := 0) (by decide +kernel) rfl) (zq_S (zs_get hw.1 (by decide +kernel) (zf_Model_82 hw)) (zq_S (zs_iload_n (k9 := 1) (by decide +kernel) rfl) (zq_S (zs_iald hw.1 (by decide +kernel)) (zq_S (zs_iadd (by decide +kernel)) (zq_S (zs_icmp_ge (off := 64) (by decide +kernel) (by decide)) (zq_S (zs_aload_n (k9 := 0) (by decide +kernel) rfl) (zq_S (zs_get hw.1 (by decide +kernel) (zf_Model_7 hw)) (zq_S (zs_iload_n (k9 := 2) (by decide +kernel) rfl) (zq_S (zs_zald hw.1 (by decide +kernel)) (zq_S (zs_if_eq (off := 55) (by decide +kernel) (by decide)) (zq_S (zs_aload_n (k9 := 0) (by decide +kernel) rfl) (zq_S (zs_iload_n (k9 := 2) (by decide +kernel) rfl) (zq_S (zs_aload_n (k9 := 0) (by decide +kernel) rfl) (zq_S (zs_get hw.1 (by decide +kernel) (zf_Model_85 hw)) (zq_S (zs_iload (by decide +kernel)) (zs_iald hw.1 (by decide +kernel))))))))))))))))))))))
def g_Model_agrees_39 : z_T := (zq 40 (zi_istore 3 40) (zq 41 (zi_iconst 4 41) (zq 42 (zi_iload 1 42) (zq 43 (zi_imul 43) (zi_istore 4 45)))))
theorem gS_Model_agrees_39 (hw : z_Wd w) : z_S w zY_Model_agrees 39 g_Model_agrees_39 := (zq_S (zs_istore_n (k9 := 3) (by decide +kernel) rfl (by decide)) (zq_S (zs_iconst (n := 4) (by decide +kernel) (by decide)) (zq_S (zs_iload_n (k9 := 1) (by decide +kernel) rfl) (zq_S (zs_imul (by decide +kernel)) (zs_istore (by decide +kernel) (by decide))))))
def g_Model_agrees_38 : z_T := (zi_iconst 0 39)
theorem gS_Model_agrees_38 (hw : z_Wd w) : z_S w zY_Model_agrees 38 g_Model_agrees_38 := (zs_iconst (n := 0) (by decide +kernel) (by decide))
def g_Model_agrees_34 : z_T := (zq 35 (zi_iconst 1 35) (zi_goto 39))
theorem gS_Model_agrees_34 (hw : z_Wd w) : z_S w zY_Model_agrees 34 g_Model_agrees_34 := (zq_S (zs_iconst (n := 1) (by decide +kernel) (by decide)) (zs_goto (off := 4) (by decide +kernel) (by decide)))
def g_Model_agrees_0 : z_T := (zq 2 (zi_bipush 6 2) (zq 3 (zi_aload 0 3) (zq 6 (zi_get 7 26 6) (zq 7 (zi_iload 1 7) (zq 8 (zi_iald 8) (zq 9 (zi_iadd 9) (zq 10 (zi_istore 2 10) (zq 11 (zi_aload 0 11) (zq 14 (zi_get 7 1 14) (zq 15 (zi_iload 2 15) (zq 16 (zi_zald 16) (zb 19 34 (zi_if_eq 34 19) (zq 20 (zi_aload 0 20) (zq 23 (zi_get 7 3 23) (zq 24 (zi_iload 2 24) (zq 25 (zi_iald 25) (zq 26 (zi_aload 0 26) (zq 29 (zi_get 7 29 29) (zq 30 (zi_iload 1 30) (zq 31 (zi_iald 31) (zb 34 38 (zi_icmp_ne 38 34) g_Model_agrees_34 g_Model_agrees_38))))))))) g_Model_agrees_34))))))))))))
theorem gS_Model_agrees_0 (hw : z_Wd w) : z_S w zY_Model_agrees 0 g_Model_agrees_0 := (zq_S (zs_bipush (n := 6) (by decide +kernel) (by decide)) (zq_S (zs_aload_n (k9 := 0) (by decide +kernel) rfl) (zq_S (zs_get hw.1 (by decide +kernel) (zf_Model_70 hw)) (zq_S (zs_iload_n (k9 := 1) (by decide +kernel) rfl) (zq_S (zs_iald hw.1 (by decide +kernel)) (zq_S (zs_iadd (by decide +kernel)) (zq_S (zs_istore_n (k9 := 2) (by decide +kernel) rfl (by decide)) (zq_S (zs_aload_n (k9 := 0) (by decide +kernel) rfl) (zq_S (zs_get hw.1 (by decide +kernel) (zf_Model_7 hw)) (zq_S (zs_iload_n (k9 := 2) (by decide +kernel) rfl) (zq_S (zs_zald hw.1 (by decide +kernel)) (zb_S (zs_if_eq (off := 18) (by decide +kernel) (by decide)) (zq_S (zs_aload_n (k9 := 0) (by decide +kernel) rfl) (zq_S (zs_get hw.1 (by decide +kernel) (zf_Model_17 hw)) (zq_S (zs_iload_n (k9 := 2) (by decide +kernel) rfl) (zq_S (zs_iald hw.1 (by decide +kernel)) (zq_S (zs_aload_n (k9 := 0) (by decide +kernel) rfl) (zq_S (zs_get hw.1 (by decide +kernel) (zf_Model_79 hw)) (zq_S (zs_iload_n (k9 := 1) (by decide +kernel) rfl) (zq_S (zs_iald hw.1 (by decide +kernel)) (zb_S (zs_icmp_ne (off := 7) (by decide +kernel) (by decide)) (gS_Model_agrees_34 hw) (gS_Model_agrees_38 hw)))))))))) (gS_Model_agrees_34 hw)))))))))))))
def g_Model_description_281 : z_T := (zq 282 (zi_iload 2 282) (zi_iret))
theorem gS_Model_description_281 (hw : z_Wd w) : z_S w zY_Model_description 281 g_Model_description_281 := (zq_S (zs_iload_n (k9 := 2) (by decide +kernel) rfl) (zs_iret (by decide +kernel) rfl))
def g_Model_description_275 : z_T := (zq 278 (zi_iinc 6 (-1) 278) (zi_goto 257))
theorem gS_Model_description_275 (hw : z_Wd w) : z_S w zY_Model_description 275 g_Model_description_275 := (zq_S (zs_iinc (n := (-1)) (by decide +kernel) (by decide) (by decide)) (zs_goto (off := -21) (by decide +kernel) (by decide)))
def g_Model_description_269 : z_T := (zb 272 275 (zi_if_ne 275 272) (zq 274 (zi_bipush (-2) 274) (zi_iret)) g_Model_description_275)
theorem gS_Model_description_269 (hw : z_Wd w) : z_S w zY_Model_description 269 g_Model_description_269 := (zb_S (zs_if_ne (off := 6) (by decide +kernel) (by decide)) (zq_S (zs_bipush (n := (-2)) (by decide +kernel) (by decide)) (zs_iret (by decide +kernel) rfl)) (gS_Model_description_275 hw))
def g_Model_description_257 : z_T := (zq 259 (zi_iload 6 259) (zq 260 (zi_iload 1 260) (zb 263 281 (zi_icmp_lt 281 263) (zq 264 (zi_aload 0 264) (zi_iload 6 266)) g_Model_description_281)))
theorem gS_Model_description_257 (hw : z_Wd w) : z_S w zY_Model_description 257 g_Model_description_257 := (zq_S (zs_iload (by decide +kernel)) (zq_S (zs_iload_n (k9 := 1) (by decide +kernel) rfl) (zb_S (zs_icmp_lt (off := 21) (by decide +kernel) (by decide)) (zq_S (zs_aload_n (k9 := 0) (by decide +kernel) rfl) (zs_iload (by decide +kernel))) (gS_Model_description_281 hw))))
def g_Model_description_249 : z_T := (zq 250 (zi_aload 0 250) (zq 253 (zi_get 7 25 253) (zq 254 (zi_iconst 1 254) (zq 255 (zi_isub 255) (zi_istore 6 257)))))
theorem gS_Model_description_249 (hw : z_Wd w) : z_S w zY_Model_description 249 g_Model_description_249 := (zq_S (zs_aload_n (k9 := 0) (by decide +kernel) rfl) (zq_S (zs_get hw.1 (by decide +kernel) (zf_Model_205 hw)) (zq_S (zs_iconst (n := 1) (by decide +kernel) (by decide)) (zq_S (zs_isub (by decide +kernel)) (zs_istore (by decide +kernel) (by decide))))))
def g_Model_description_241 : z_T := (zq 243 (zi_istore 5 243) (zq 246 (zi_iinc 6 1 246) (zi_goto 27)))
theorem gS_Model_description_241 (hw : z_Wd w) : z_S w zY_Model_description 241 g_Model_description_241 := (zq_S (zs_istore (by decide +kernel) (by decide)) (zq_S (zs_iinc (n := 1) (by decide +kernel) (by decide) (by decide)) (zs_goto (off := -219) (by decide +kernel) (by decide))))
def g_Model_description_240 : z_T := (zq 241 (zi_iconst 0 241) g_Model_description_241)
theorem gS_Model_description_240 (hw : z_Wd w) : z_S w zY_Model_description 240 g_Model_description_240 := (zq_S (zs_iconst (n := 0) (by decide +kernel) (by decide)) (gS_Model_description_241 hw))
def g_Model_description_225 : z_T := (zq 227 (zi_iload 8 227) (zq 229 (zi_istore 4 229) (zq 231 (zi_iload 7 231) (zq 233 (zi_bipush 114 233) (zb 236 240 (zi_icmp_ne 240 236) (zq 237 (zi_iconst 1 237) (zq 241 (zi_goto 241) g_Model_description_241)) g_Model_description_240)))))
theorem gS_Model_description_225 (hw : z_Wd w) : z_S w zY_Model_description 225 g_Model_description_225 := (zq_S (zs_iload (by decide +kernel)) (zq_S (zs_istore (by decide +kernel) (by decide)) (zq_S (zs_iload (by decide +kernel)) (zq_S (zs_bipush (n := 114) (by decide +kernel) (by decide)) (zb_S (zs_icmp_ne (off := 7) (by decide +kernel) (by decide)) (zq_S (zs_iconst (n := 1) (by decide +kernel) (by decide)) (zq_S (zs_goto (off := 4) (by decide +kernel) (by decide)) (gS_Model_description_241 hw))) (gS_Model_description_240 hw))))))
def g_Model_description_210 : z_T := (zq 211 (zi_istore 2 211) (zq 213 (zi_iload 4 213) (zq 216 (zi_if_lt 225 216) (zq 217 (zi_aload 0 217) (zq 220 (zi_get 7 28 220) (zq 222 (zi_iload 4 222) (zq 224 (zi_iload 8 224) (zi_iast 225))))))))
theorem gS_Model_description_210 (hw : z_Wd w) : z_S w zY_Model_description 210 g_Model_description_210 := (zq_S (zs_istore_n (k9 := 2) (by decide +kernel) rfl (by decide)) (zq_S (zs_iload (by decide +kernel)) (zq_S (zs_if_lt (off := 12) (by decide +kernel) (by decide)) (zq_S (zs_aload_n (k9 := 0) (by decide +kernel) rfl) (zq_S (zs_get hw.1 (by decide +kernel) (zf_Model_76 hw)) (zq_S (zs_iload (by decide +kernel)) (zq_S (zs_iload (by decide +kernel)) (zs_iast hw.1 (by decide +kernel)))))))))
def g_Model_description_209 : z_T := (zi_iload 2 210)
theorem gS_Model_description_209 (hw : z_Wd w) : z_S w zY_Model_description 209 g_Model_description_209 := (zs_iload_n (k9 := 2) (by decide +kernel) rfl)
def g_Model_description_199 : z_T := (zq 201 (zi_iload 4 201) (zb 204 209 (zi_if_ge 209 204) (zq 206 (zi_iload 8 206) (zi_goto 210)) g_Model_description_209))
theorem gS_Model_description_199 (hw : z_Wd w) : z_S w zY_Model_description 199 g_Model_description_199 := (zq_S (zs_iload (by decide +kernel)) (zb_S (zs_if_ge (off := 8) (by decide +kernel) (by decide)) (zq_S (zs_iload (by decide +kernel)) (zs_goto (off := 4) (by decide +kernel) (by decide))) (gS_Model_description_209 hw)))
def g_Model_description_194 : z_T := (zq 196 (zi_istore 9 196) (zq 198 (zi_bipush (-2) 198) (zi_iret)))
theorem gS_Model_description_194 (hw : z_Wd w) : z_S w zY_Model_description 194 g_Model_description_194 := (zq_S (zs_istore (by decide +kernel) (by decide)) (zq_S (zs_bipush (n := (-2)) (by decide +kernel) (by decide)) (zs_iret (by decide +kernel) rfl)))
def g_Model_description_176 : z_T := (zq 178 (zi_iload 7 178) (zq 180 (zi_bipush 112 180) (zq 183 (zi_icmp_eq 199 183) (zq 184 (zi_aload 0 184) (zq 185 (zi_iconst 1 185) (zq 186 (zi_aload 0 186) (zq 189 (zi_get 7 23 189) (zq 190 (zi_iconst 1 190) (zi_isub 191)))))))))
theorem gS_Model_description_176 (hw : z_Wd w) : z_S w zY_Model_description 176 g_Model_description_176 := (zq_S (zs_iload (by decide +kernel)) (zq_S (zs_bipush (n := 112) (by decide +kernel) (by decide)) (zq_S (zs_icmp_eq (off := 19) (by decide +kernel) (by decide)) (zq_S (zs_aload_n (k9 := 0) (by decide +kernel) rfl) (zq_S (zs_iconst (n := 1) (by decide +kernel) (by decide)) (zq_S (zs_aload_n (k9 := 0) (by decide +kernel) rfl) (zq_S (zs_get hw.1 (by decide +kernel) (zf_Model_181 hw)) (zq_S (zs_iconst (n := 1) (by decide +kernel) (by decide)) (zs_isub (by decide +kernel))))))))))
def g_Model_description_155 : z_T := (zq 156 (zi_aload 0 156) (zq 157 (zi_dup 157) (zq 160 (zi_get 7 25 160) (zq 161 (zi_iconst 1 161) (zq 162 (zi_iadd 162) (zq 165 (zi_put 7 25 (.int) 165) (zq 166 (zi_aload 0 166) (zq 169 (zi_get 7 26 169) (zq 171 (zi_iload 8 171) (zq 172 (zi_iald 172) (zq 173 (zi_istore 3 173) (zi_goto 199))))))))))))
theorem gS_Model_description_155 (hw : z_Wd w) : z_S w zY_Model_description 155 g_Model_description_155 := (zq_S (zs_aload_n (k9 := 0) (by decide +kernel) rfl) (zq_S (zs_dup (by decide +kernel)) (zq_S (zs_get hw.1 (by decide +kernel) (zf_Model_205 hw)) (zq_S (zs_iconst (n := 1) (by decide +kernel) (by decide)) (zq_S (zs_iadd (by decide +kernel)) (zq_S (zs_put hw.1 (by decide +kernel) (zp_Model_205 hw) (fun h => by cases h)) (zq_S (zs_aload_n (k9 := 0) (by decide +kernel) rfl) (zq_S (zs_get hw.1 (by decide +kernel) (zf_Model_70 hw)) (zq_S (zs_iload (by decide +kernel)) (zq_S (zs_iald hw.1 (by decide +kernel)) (zq_S (zs_istore_n (k9 := 3) (by decide +kernel) rfl (by decide)) (zs_goto (off := 26) (by decide +kernel) (by decide)))))))))))))
def g_Model_description_149 : z_T := (zb 152 155 (zi_if_ne 155 152) (zq 154 (zi_bipush (-2) 154) (zi_iret)) g_Model_description_155)
theorem gS_Model_description_149 (hw : z_Wd w) : z_S w zY_Model_description 149 g_Model_description_149 := (zb_S (zs_if_ne (off := 6) (by decide +kernel) (by decide)) (zq_S (zs_bipush (n := (-2)) (by decide +kernel) (by decide)) (zs_iret (by decide +kernel) rfl)) (gS_Model_description_155 hw))
def g_Model_description_108 : z_T := (zq 110 (zi_iload 7 110) (zq 112 (zi_bipush 114 112) (zb 115 176 (zi_icmp_ne 176 115) (zq 116 (zi_aload 0 116) (zq 119 (zi_get 7 25 119) (zq 121 (zi_istore 8 121) (zq 122 (zi_aload 0 122) (zq 125 (zi_get 7 27 125) (zq 127 (zi_iload 8 127) (zq 128 (zi_aload 0 128) (zq 131 (zi_get 7 23 131) (zq 132 (zi_iconst 1 132) (zq 133 (zi_isub 133) (zq 134 (zi_iast 134) (zq 135 (zi_aload 0 135) (zq 138 (zi_get 7 28 138) (zq 140 (zi_iload 8 140) (zq 141 (zi_iconst (-1) 141) (zq 142 (zi_iast 142) (zq 143 (zi_aload 0 143) (zq 145 (zi_iload 8 145) (zi_iload 3 146))))))))))))))))))) g_Model_description_176)))
theorem gS_Model_description_108 (hw : z_Wd w) : z_S w zY_Model_description 108 g_Model_description_108 := (zq_S (zs_iload (by decide +kernel)) (zq_S (zs_bipush (n := 114) (by decide +kernel) (by decide)) (zb_S (zs_icmp_ne (off := 64) (by decide +kernel) (by decide)) (zq_S (zs_aload_n (k9 := 0) (by decide +kernel) rfl) (zq_S (zs_get hw.1 (by decide +kernel) (zf_Model_205 hw)) (zq_S (zs_istore (by decide +kernel) (by decide)) (zq_S (zs_aload_n (k9 := 0) (by decide +kernel) rfl) (zq_S (zs_get hw.1 (by decide +kernel) (zf_Model_73 hw)) (zq_S (zs_iload (by decide +kernel)) (zq_S (zs_aload_n (k9 := 0) (by decide +kernel) rfl) (zq_S (zs_get hw.1 (by decide +kernel) (zf_Model_181 hw)) (zq_S (zs_iconst (n := 1) (by decide +kernel) (by decide)) (zq_S (zs_isub (by decide +kernel)) (zq_S (zs_iast hw.1 (by decide +kernel)) (zq_S (zs_aload_n (k9 := 0) (by decide +kernel) rfl) (zq_S (zs_get hw.1 (by decide +kernel) (zf_Model_76 hw)) (zq_S (zs_iload (by decide +kernel)) (zq_S (zs_iconst (n := (-1)) (by decide +kernel) (by decide)) (zq_S (zs_iast hw.1 (by decide +kernel)) (zq_S (zs_aload_n (k9 := 0) (by decide +kernel) rfl) (zq_S (zs_iload (by decide +kernel)) (zs_iload_n (k9 := 3) (by decide +kernel) rfl))))))))))))))))))) (gS_Model_description_176 hw))))
def g_Model_description_103 : z_T := (zq 105 (zi_istore 9 105) (zq 107 (zi_bipush (-2) 107) (zi_iret)))
theorem gS_Model_description_103 (hw : z_Wd w) : z_S w zY_Model_description 103 g_Model_description_103 := (zq_S (zs_istore (by decide +kernel) (by decide)) (zq_S (zs_bipush (n := (-2)) (by decide +kernel) (by decide)) (zs_iret (by decide +kernel) rfl)))
def g_Model_description_81 : z_T := (zq 82 (zi_aload 0 82) (zq 85 (zi_get 7 26 85) (zq 87 (zi_iload 8 87) (zq 88 (zi_iald 88) (zq 89 (zi_iload 3 89) (zq 92 (zi_icmp_lt 199 92) (zq 93 (zi_aload 0 93) (zq 94 (zi_iconst 1 94) (zq 95 (zi_aload 0 95) (zq 98 (zi_get 7 23 98) (zq 99 (zi_iconst 2 99) (zi_isub 100))))))))))))
theorem gS_Model_description_81 (hw : z_Wd w) : z_S w zY_Model_description 81 g_Model_description_81 := (zq_S (zs_aload_n (k9 := 0) (by decide +kernel) rfl) (zq_S (zs_get hw.1 (by decide +kernel) (zf_Model_70 hw)) (zq_S (zs_iload (by decide +kernel)) (zq_S (zs_iald hw.1 (by decide +kernel)) (zq_S (zs_iload_n (k9 := 3) (by decide +kernel) rfl) (zq_S (zs_icmp_lt (off := 110) (by decide +kernel) (by decide)) (zq_S (zs_aload_n (k9 := 0) (by decide +kernel) rfl) (zq_S (zs_iconst (n := 1) (by decide +kernel) (by decide)) (zq_S (zs_aload_n (k9 := 0) (by decide +kernel) rfl) (zq_S (zs_get hw.1 (by decide +kernel) (zf_Model_181 hw)) (zq_S (zs_iconst (n := 2) (by decide +kernel) (by decide)) (zs_isub (by decide +kernel)))))))))))))
def g_Model_description_71 : z_T := (zq 73 (zi_istore 8 73) (zq 75 (zi_iload 8 75) (zb 78 81 (zi_if_ge 81 78) (zq 80 (zi_bipush (-2) 80) (zi_iret)) g_Model_description_81)))
theorem gS_Model_description_71 (hw : z_Wd w) : z_S w zY_Model_description 71 g_Model_description_71 := (zq_S (zs_istore (by decide +kernel) (by decide)) (zq_S (zs_iload (by decide +kernel)) (zb_S (zs_if_ge (off := 6) (by decide +kernel) (by decide)) (zq_S (zs_bipush (n := (-2)) (by decide +kernel) (by decide)) (zs_iret (by decide +kernel) rfl)) (gS_Model_description_81 hw))))
def g_Model_description_54 : z_T := (zq 56 (zi_istore 7 56) (zq 57 (zi_iconst (-1) 57) (zq 59 (zi_istore 8 59) (zq 61 (zi_iload 7 61) (zq 63 (zi_bipush 113 63) (zb 66 108 (zi_icmp_ne 108 66) (zq 67 (zi_aload 0 67) (zi_iconst 0 68)) g_Model_description_108))))))
theorem gS_Model_description_54 (hw : z_Wd w) : z_S w zY_Model_description 54 g_Model_description_54 := (zq_S (zs_istore (by decide +kernel) (by decide)) (zq_S (zs_iconst (n := (-1)) (by decide +kernel) (by decide)) (zq_S (zs_istore (by decide +kernel) (by decide)) (zq_S (zs_iload (by decide +kernel)) (zq_S (zs_bipush (n := 113) (by decide +kernel) (by decide)) (zb_S (zs_icmp_ne (off := 45) (by decide +kernel) (by decide)) (zq_S (zs_aload_n (k9 := 0) (by decide +kernel) rfl) (zs_iconst (n := 0) (by decide +kernel) (by decide))) (gS_Model_description_108 hw)))))))
def g_Model_description_50 : z_T := (zi_aload 0 51)
theorem gS_Model_description_50 (hw : z_Wd w) : z_S w zY_Model_description 50 g_Model_description_50 := (zs_aload_n (k9 := 0) (by decide +kernel) rfl)
def g_Model_description_44 : z_T := (zb 47 50 (zi_if_ne 50 47) (zq 49 (zi_bipush (-2) 49) (zi_iret)) g_Model_description_50)
theorem gS_Model_description_44 (hw : z_Wd w) : z_S w zY_Model_description 44 g_Model_description_44 := (zb_S (zs_if_ne (off := 6) (by decide +kernel) (by decide)) (zq_S (zs_bipush (n := (-2)) (by decide +kernel) (by decide)) (zs_iret (by decide +kernel) rfl)) (gS_Model_description_50 hw))
def g_Model_description_27 : z_T := (zq 29 (zi_iload 6 29) (zq 31 (zi_bipush 7 31) (zq 34 (zi_icmp_ge 249 34) (zq 36 (zi_iload 5 36) (zq 39 (zi_if_eq 249 39) (zq 40 (zi_aload 0 40) (zi_iconst 1 41)))))))
theorem gS_Model_description_27 (hw : z_Wd w) : z_S w zY_Model_description 27 g_Model_description_27 := (zq_S (zs_iload (by decide +kernel)) (zq_S (zs_bipush (n := 7) (by decide +kernel) (by decide)) (zq_S (zs_icmp_ge (off := 218) (by decide +kernel) (by decide)) (zq_S (zs_iload (by decide +kernel)) (zq_S (zs_if_eq (off := 213) (by decide +kernel) (by decide)) (zq_S (zs_aload_n (k9 := 0) (by decide +kernel) rfl) (zs_iconst (n := 1) (by decide +kernel) (by decide))))))))
def g_Model_description_0 : z_T := (zq 1 (zi_aload 0 1) (zq 2 (zi_aload 0 2) (zq 5 (zi_get 7 23 5) (zq 8 (zi_put 7 39 (.int) 8) (zq 9 (zi_aload 0 9) (zq 12 (zi_get 7 25 12) (zq 13 (zi_istore 1 13) (zq 14 (zi_iconst (-1) 14) (zq 15 (zi_istore 2 15) (zq 17 (zi_bipush 6 17) (zq 18 (zi_istore 3 18) (zq 19 (zi_iconst (-1) 19) (zq 21 (zi_istore 4 21) (zq 22 (zi_iconst 1 22) (zq 24 (zi_istore 5 24) (zq 25 (zi_iconst 0 25) (zi_istore 6 27)))))))))))))))))
theorem gS_Model_description_0 (hw : z_Wd w) : z_S w zY_Model_description 0 g_Model_description_0 := (zq_S (zs_aload_n (k9 := 0) (by decide +kernel) rfl) (zq_S (zs_aload_n (k9 := 0) (by decide +kernel) rfl) (zq_S (zs_get hw.1 (by decide +kernel) (zf_Model_181 hw)) (zq_S (zs_put hw.1 (by decide +kernel) (zp_Model_202 hw) (fun h => by cases h)) (zq_S (zs_aload_n (k9 := 0) (by decide +kernel) rfl) (zq_S (zs_get hw.1 (by decide +kernel) (zf_Model_205 hw)) (zq_S (zs_istore_n (k9 := 1) (by decide +kernel) rfl (by decide)) (zq_S (zs_iconst (n := (-1)) (by decide +kernel) (by decide)) (zq_S (zs_istore_n (k9 := 2) (by decide +kernel) rfl (by decide)) (zq_S (zs_bipush (n := 6) (by decide +kernel) (by decide)) (zq_S (zs_istore_n (k9 := 3) (by decide +kernel) rfl (by decide)) (zq_S (zs_iconst (n := (-1)) (by decide +kernel) (by decide)) (zq_S (zs_istore (by decide +kernel) (by decide)) (zq_S (zs_iconst (n := 1) (by decide +kernel) (by decide)) (zq_S (zs_istore (by decide +kernel) (by decide)) (zq_S (zs_iconst (n := 0) (by decide +kernel) (by decide)) (zs_istore (by decide +kernel) (by decide))))))))))))))))))
def g_Model_begin_139 : z_T := (zq 140 (zi_aload 0 140) (zq 143 (zi_get 7 19 143) (zq 144 (zi_aload 0 144) (zq 147 (zi_get 7 16 147) (zq 150 (zi_sipush 200 150) (zq 151 (zi_aload 0 151) (zq 154 (zi_get 7 33 154) (zq 155 (zi_iadd 155) (zq 156 (zi_iast 156) (zq 157 (zi_aload 0 157) (zq 158 (zi_dup 158) (zq 161 (zi_get 7 16 161) (zq 162 (zi_iconst 1 162) (zq 163 (zi_iadd 163) (zq 166 (zi_put 7 16 (.int) 166) (zq 167 (zi_aload 0 167) (zq 170 (zi_get 7 21 170) (zq 171 (zi_aload 0 171) (zq 174 (zi_get 7 20 174) (zq 175 (zi_aload 0 175) (zq 178 (zi_get 7 33 178) (zq 179 (zi_iast 179) (zq 180 (zi_aload 0 180) (zq 183 (zi_get 7 22 183) (zq 184 (zi_aload 0 184) (zq 187 (zi_get 7 20 187) (zq 188 (zi_iconst 0 188) (zq 189 (zi_iast 189) (zq 190 (zi_aload 0 190) (zq 191 (zi_dup 191) (zq 194 (zi_get 7 20 194) (zq 195 (zi_iconst 1 195) (zq 196 (zi_iadd 196) (zq 199 (zi_put 7 20 (.int) 199) (zq 200 (zi_aload 0 200) (zq 201 (zi_dup 201) (zq 204 (zi_get 7 33 204) (zq 205 (zi_iconst 1 205) (zq 206 (zi_iadd 206) (zq 209 (zi_put 7 33 (.int) 209) (zq 211 (zi_bipush (-3) 211) (zi_iret))))))))))))))))))))))))))))))))))))))))))
theorem gS_Model_begin_139 (hw : z_Wd w) : z_S w zY_Model_begin 139 g_Model_begin_139 := (zq_S (zs_aload_n (k9 := 0) (by decide +kernel) rfl) (zq_S (zs_get hw.1 (by decide +kernel) (zf_Model_61 hw)) (zq_S (zs_aload_n (k9 := 0) (by decide +kernel) rfl) (zq_S (zs_get hw.1 (by decide +kernel) (zf_Model_160 hw)) (zq_S (zs_sipush (n := 200) (by decide +kernel) (by decide)) (zq_S (zs_aload_n (k9 := 0) (by decide +kernel) rfl) (zq_S (zs_get hw.1 (by decide +kernel) (zf_Model_218 hw)) (zq_S (zs_iadd (by decide +kernel)) (zq_S (zs_iast hw.1 (by decide +kernel)) (zq_S (zs_aload_n (k9 := 0) (by decide +kernel) rfl) (zq_S (zs_dup (by decide +kernel)) (zq_S (zs_get hw.1 (by decide +kernel) (zf_Model_160 hw)) (zq_S (zs_iconst (n := 1) (by decide +kernel) (by decide)) (zq_S (zs_iadd (by decide +kernel)) (zq_S (zs_put hw.1 (by decide +kernel) (zp_Model_160 hw) (fun h => by cases h)) (zq_S (zs_aload_n (k9 := 0) (by decide +kernel) rfl) (zq_S (zs_get hw.1 (by decide +kernel) (zf_Model_64 hw)) (zq_S (zs_aload_n (k9 := 0) (by decide +kernel) rfl) (zq_S (zs_get hw.1 (by decide +kernel) (zf_Model_166 hw)) (zq_S (zs_aload_n (k9 := 0) (by decide +kernel) rfl) (zq_S (zs_get hw.1 (by decide +kernel) (zf_Model_218 hw)) (zq_S (zs_iast hw.1 (by decide +kernel)) (zq_S (zs_aload_n (k9 := 0) (by decide +kernel) rfl) (zq_S (zs_get hw.1 (by decide +kernel) (zf_Model_67 hw)) (zq_S (zs_aload_n (k9 := 0) (by decide +kernel) rfl) (zq_S (zs_get hw.1 (by decide +kernel) (zf_Model_166 hw)) (zq_S (zs_iconst (n := 0) (by decide +kernel) (by decide)) (zq_S (zs_iast hw.1 (by decide +kernel)) (zq_S (zs_aload_n (k9 := 0) (by decide +kernel) rfl) (zq_S (zs_dup (by decide +kernel)) (zq_S (zs_get hw.1 (by decide +kernel) (zf_Model_166 hw)) (zq_S (zs_iconst (n := 1) (by decide +kernel) (by decide)) (zq_S (zs_iadd (by decide +kernel)) (zq_S (zs_put hw.1 (by decide +kernel) (zp_Model_166 hw) (fun h => by cases h)) (zq_S (zs_aload_n (k9 := 0) (by decide +kernel) rfl) (zq_S (zs_dup (by decide +kernel)) (zq_S (zs_get hw.1 (by decide +kernel) (zf_Model_218 hw)) (zq_S (zs_iconst (n := 1) (by decide +kernel) (by decide)) (zq_S (zs_iadd (by decide +kernel)) (zq_S (zs_put hw.1 (by decide +kernel) (zp_Model_218 hw) (fun h => by cases h)) (zq_S (zs_bipush (n := (-3)) (by decide +kernel) (by decide)) (zs_iret (by decide +kernel) rfl))))))))))))))))))))))))))))))))))))))))))
def g_Model_begin_131 : z_T := (zq 132 (zi_istore 3 132) (zq 133 (zi_iload 3 133) (zb 136 139 (zi_if_ne 139 136) (zq 138 (zi_bipush (-2) 138) (zi_iret)) g_Model_begin_139)))
theorem gS_Model_begin_131 (hw : z_Wd w) : z_S w zY_Model_begin 131 g_Model_begin_131 := (zq_S (zs_istore_n (k9 := 3) (by decide +kernel) rfl (by decide)) (zq_S (zs_iload_n (k9 := 3) (by decide +kernel) rfl) (zb_S (zs_if_ne (off := 6) (by decide +kernel) (by decide)) (zq_S (zs_bipush (n := (-2)) (by decide +kernel) (by decide)) (zs_iret (by decide +kernel) rfl)) (gS_Model_begin_139 hw))))
def g_Model_begin_127 : z_T := (zi_aload 0 128)
theorem gS_Model_begin_127 (hw : z_Wd w) : z_S w zY_Model_begin 127 g_Model_begin_127 := (zs_aload_n (k9 := 0) (by decide +kernel) rfl)
def g_Model_begin_124 : z_T := (zq 131 (zi_goto 131) g_Model_begin_131)
theorem gS_Model_begin_124 (hw : z_Wd w) : z_S w zY_Model_begin 124 g_Model_begin_124 := (zq_S (zs_goto (off := 7) (by decide +kernel) (by decide)) (gS_Model_begin_131 hw))
def g_Model_begin_114 : z_T := (zq 115 (zi_iload 2 115) (zq 117 (zi_bipush 115 117) (zb 120 127 (zi_icmp_ne 127 120) (zi_aload 0 121) g_Model_begin_127)))
theorem gS_Model_begin_114 (hw : z_Wd w) : z_S w zY_Model_begin 114 g_Model_begin_114 := (zq_S (zs_iload_n (k9 := 2) (by decide +kernel) rfl) (zq_S (zs_bipush (n := 115) (by decide +kernel) (by decide)) (zb_S (zs_icmp_ne (off := 10) (by decide +kernel) (by decide)) (zs_aload_n (k9 := 0) (by decide +kernel) rfl) (gS_Model_begin_127 hw))))
def g_Model_begin_110 : z_T := (zq 111 (zi_istore 3 111) (zq 113 (zi_bipush (-2) 113) (zi_iret)))
theorem gS_Model_begin_110 (hw : z_Wd w) : z_S w zY_Model_begin 110 g_Model_begin_110 := (zq_S (zs_istore_n (k9 := 3) (by decide +kernel) rfl (by decide)) (zq_S (zs_bipush (n := (-2)) (by decide +kernel) (by decide)) (zs_iret (by decide +kernel) rfl)))
def g_Model_begin_104 : z_T := (zq 105 (zi_aload 0 105) (zq 106 (zi_iconst 3 106) (zi_iload 1 107)))
theorem gS_Model_begin_104 (hw : z_Wd w) : z_S w zY_Model_begin 104 g_Model_begin_104 := (zq_S (zs_aload_n (k9 := 0) (by decide +kernel) rfl) (zq_S (zs_iconst (n := 3) (by decide +kernel) (by decide)) (zs_iload_n (k9 := 1) (by decide +kernel) rfl)))
def g_Model_begin_74 : z_T := (zq 75 (zi_aload 0 75) (zq 78 (zi_get 7 20 78) (zq 79 (zi_iconst 1 79) (zq 80 (zi_iadd 80) (zq 81 (zi_aload 0 81) (zq 84 (zi_get 7 14 84) (zq 85 (zi_iconst 3 85) (zq 86 (zi_iald 86) (zq 89 (zi_icmp_gt 104 89) (zq 90 (zi_aload 0 90) (zq 93 (zi_get 7 33 93) (zq 94 (zi_iconst 1 94) (zq 95 (zi_iadd 95) (zq 96 (zi_aload 0 96) (zq 99 (zi_get 7 14 99) (zq 100 (zi_iconst 2 100) (zq 101 (zi_iald 101) (zq 114 (zi_icmp_le 114 104) g_Model_begin_114))))))))))))))))))
theorem gS_Model_begin_74 (hw : z_Wd w) : z_S w zY_Model_begin 74 g_Model_begin_74 := (zq_S (zs_aload_n (k9 := 0) (by decide +kernel) rfl) (zq_S (zs_get hw.1 (by decide +kernel) (zf_Model_166 hw)) (zq_S (zs_iconst (n := 1) (by decide +kernel) (by decide)) (zq_S (zs_iadd (by decide +kernel)) (zq_S (zs_aload_n (k9 := 0) (by decide +kernel) rfl) (zq_S (zs_get hw.1 (by decide +kernel) (zf_Model_48 hw)) (zq_S (zs_iconst (n := 3) (by decide +kernel) (by decide)) (zq_S (zs_iald hw.1 (by decide +kernel)) (zq_S (zs_icmp_gt (off := 18) (by decide +kernel) (by decide)) (zq_S (zs_aload_n (k9 := 0) (by decide +kernel) rfl) (zq_S (zs_get hw.1 (by decide +kernel) (zf_Model_218 hw)) (zq_S (zs_iconst (n := 1) (by decide +kernel) (by decide)) (zq_S (zs_iadd (by decide +kernel)) (zq_S (zs_aload_n (k9 := 0) (by decide +kernel) rfl) (zq_S (zs_get hw.1 (by decide +kernel) (zf_Model_48 hw)) (zq_S (zs_iconst (n := 2) (by decide +kernel) (by decide)) (zq_S (zs_iald hw.1 (by decide +kernel)) (zq_S (zs_icmp_le (off := 13) (by decide +kernel) (by decide)) (gS_Model_begin_114 hw)))))))))))))))))))
def g_Model_begin_70 : z_T := (zq 71 (zi_istore 3 71) (zq 73 (zi_bipush (-2) 73) (zi_iret)))
theorem gS_Model_begin_70 (hw : z_Wd w) : z_S w zY_Model_begin 70 g_Model_begin_70 := (zq_S (zs_istore_n (k9 := 3) (by decide +kernel) rfl (by decide)) (zq_S (zs_bipush (n := (-2)) (by decide +kernel) (by decide)) (zs_iret (by decide +kernel) rfl)))
def g_Model_begin_52 : z_T := (zq 53 (zi_iload 2 53) (zq 55 (zi_bipush 115 55) (zq 58 (zi_icmp_eq 74 58) (zq 59 (zi_iload 2 59) (zq 61 (zi_bipush 117 61) (zq 64 (zi_icmp_eq 74 64) (zq 65 (zi_aload 0 65) (zq 66 (zi_iconst 1 66) (zi_iload 1 67)))))))))
theorem gS_Model_begin_52 (hw : z_Wd w) : z_S w zY_Model_begin 52 g_Model_begin_52 := (zq_S (zs_iload_n (k9 := 2) (by decide +kernel) rfl) (zq_S (zs_bipush (n := 115) (by decide +kernel) (by decide)) (zq_S (zs_icmp_eq (off := 19) (by decide +kernel) (by decide)) (zq_S (zs_iload_n (k9 := 2) (by decide +kernel) rfl) (zq_S (zs_bipush (n := 117) (by decide +kernel) (by decide)) (zq_S (zs_icmp_eq (off := 13) (by decide +kernel) (by decide)) (zq_S (zs_aload_n (k9 := 0) (by decide +kernel) rfl) (zq_S (zs_iconst (n := 1) (by decide +kernel) (by decide)) (zs_iload_n (k9 := 1) (by decide +kernel) rfl)))))))))
def g_Model_begin_51 : z_T := (zi_iret)
theorem gS_Model_begin_51 (hw : z_Wd w) : z_S w zY_Model_begin 51 g_Model_begin_51 := (zs_iret (by decide +kernel) rfl)
def g_Model_begin_50 : z_T := (zq 51 (zi_iload 3 51) g_Model_begin_51)
theorem gS_Model_begin_50 (hw : z_Wd w) : z_S w zY_Model_begin 50 g_Model_begin_50 := (zq_S (zs_iload_n (k9 := 3) (by decide +kernel) rfl) (gS_Model_begin_51 hw))
def g_Model_begin_40 : z_T := (zq 41 (zi_istore 3 41) (zq 42 (zi_iload 3 42) (zb 45 50 (zi_if_ge 50 45) (zq 47 (zi_bipush (-2) 47) (zq 51 (zi_goto 51) g_Model_begin_51)) g_Model_begin_50)))
theorem gS_Model_begin_40 (hw : z_Wd w) : z_S w zY_Model_begin 40 g_Model_begin_40 := (zq_S (zs_istore_n (k9 := 3) (by decide +kernel) rfl (by decide)) (zq_S (zs_iload_n (k9 := 3) (by decide +kernel) rfl) (zb_S (zs_if_ge (off := 8) (by decide +kernel) (by decide)) (zq_S (zs_bipush (n := (-2)) (by decide +kernel) (by decide)) (zq_S (zs_goto (off := 4) (by decide +kernel) (by decide)) (gS_Model_begin_51 hw))) (gS_Model_begin_50 hw))))
def g_Model_begin_29 : z_T := (zq 30 (zi_iload 2 30) (zq 32 (zi_bipush 113 32) (zb 35 52 (zi_icmp_ne 52 35) (zq 36 (zi_aload 0 36) (zi_iconst 1 37)) g_Model_begin_52)))
theorem gS_Model_begin_29 (hw : z_Wd w) : z_S w zY_Model_begin 29 g_Model_begin_29 := (zq_S (zs_iload_n (k9 := 2) (by decide +kernel) rfl) (zq_S (zs_bipush (n := 113) (by decide +kernel) (by decide)) (zb_S (zs_icmp_ne (off := 20) (by decide +kernel) (by decide)) (zq_S (zs_aload_n (k9 := 0) (by decide +kernel) rfl) (zs_iconst (n := 1) (by decide +kernel) (by decide))) (gS_Model_begin_52 hw))))
def g_Model_begin_20 : z_T := (zq 21 (zi_istore 2 21) (zq 22 (zi_iload 2 22) (zq 24 (zi_bipush 112 24) (zb 27 29 (zi_icmp_ne 29 27) (zq 28 (zi_iconst (-1) 28) (zi_iret)) g_Model_begin_29))))
theorem gS_Model_begin_20 (hw : z_Wd w) : z_S w zY_Model_begin 20 g_Model_begin_20 := (zq_S (zs_istore_n (k9 := 2) (by decide +kernel) rfl (by decide)) (zq_S (zs_iload_n (k9 := 2) (by decide +kernel) rfl) (zq_S (zs_bipush (n := 112) (by decide +kernel) (by decide)) (zb_S (zs_icmp_ne (off := 5) (by decide +kernel) (by decide)) (zq_S (zs_iconst (n := (-1)) (by decide +kernel) (by decide)) (zs_iret (by decide +kernel) rfl)) (gS_Model_begin_29 hw)))))
def g_Model_begin_11 : z_T := (zq 12 (zi_aload 0 12) (zq 15 (zi_get 7 23 15) (zq 16 (zi_istore 1 16) (zi_aload 0 17))))
theorem gS_Model_begin_11 (hw : z_Wd w) : z_S w zY_Model_begin 11 g_Model_begin_11 := (zq_S (zs_aload_n (k9 := 0) (by decide +kernel) rfl) (zq_S (zs_get hw.1 (by decide +kernel) (zf_Model_181 hw)) (zq_S (zs_istore_n (k9 := 1) (by decide +kernel) rfl (by decide)) (zs_aload_n (k9 := 0) (by decide +kernel) rfl))))
def g_Model_begin_5 : z_T := (zb 8 11 (zi_if_ne 11 8) (zq 10 (zi_bipush (-2) 10) (zi_iret)) g_Model_begin_11)
theorem gS_Model_begin_5 (hw : z_Wd w) : z_S w zY_Model_begin 5 g_Model_begin_5 := (zb_S (zs_if_ne (off := 6) (by decide +kernel) (by decide)) (zq_S (zs_bipush (n := (-2)) (by decide +kernel) (by decide)) (zs_iret (by decide +kernel) rfl)) (gS_Model_begin_11 hw))
def g_Model_begin_0 : z_T := (zq 1 (zi_aload 0 1) (zi_iconst 1 2))
theorem gS_Model_begin_0 (hw : z_Wd w) : z_S w zY_Model_begin 0 g_Model_begin_0 := (zq_S (zs_aload_n (k9 := 0) (by decide +kernel) rfl) (zs_iconst (n := 1) (by decide +kernel) (by decide)))
def g_Model_beginRecord_93 : z_T := (zq 94 (zi_iconst 1 94) (zi_zret))
theorem gS_Model_beginRecord_93 (hw : z_Wd w) : z_S w zY_Model_beginRecord 93 g_Model_beginRecord_93 := (zq_S (zs_iconst (n := 1) (by decide +kernel) (by decide)) (zs_zret (by decide +kernel) rfl))
def g_Model_beginRecord_66 : z_T := (zq 67 (zi_iload 2 67) (zq 69 (zi_bipush 6 69) (zb 72 93 (zi_icmp_ge 93 72) (zq 73 (zi_aload 0 73) (zq 76 (zi_get 7 37 76) (zq 78 (zi_bipush 6 78) (zq 79 (zi_aload 0 79) (zq 82 (zi_get 7 33 82) (zq 83 (zi_imul 83) (zq 84 (zi_iload 2 84) (zq 85 (zi_iadd 85) (zq 86 (zi_iconst 0 86) (zq 87 (zi_iast 87) (zq 90 (zi_iinc 2 1 90) (zi_goto 66)))))))))))) g_Model_beginRecord_93)))
theorem gS_Model_beginRecord_66 (hw : z_Wd w) : z_S w zY_Model_beginRecord 66 g_Model_beginRecord_66 := (zq_S (zs_iload_n (k9 := 2) (by decide +kernel) rfl) (zq_S (zs_bipush (n := 6) (by decide +kernel) (by decide)) (zb_S (zs_icmp_ge (off := 24) (by decide +kernel) (by decide)) (zq_S (zs_aload_n (k9 := 0) (by decide +kernel) rfl) (zq_S (zs_get hw.1 (by decide +kernel) (zf_Model_100 hw)) (zq_S (zs_bipush (n := 6) (by decide +kernel) (by decide)) (zq_S (zs_aload_n (k9 := 0) (by decide +kernel) rfl) (zq_S (zs_get hw.1 (by decide +kernel) (zf_Model_218 hw)) (zq_S (zs_imul (by decide +kernel)) (zq_S (zs_iload_n (k9 := 2) (by decide +kernel) rfl) (zq_S (zs_iadd (by decide +kernel)) (zq_S (zs_iconst (n := 0) (by decide +kernel) (by decide)) (zq_S (zs_iast hw.1 (by decide +kernel)) (zq_S (zs_iinc (n := 1) (by decide +kernel) (by decide) (by decide)) (zs_goto (off := -24) (by decide +kernel) (by decide))))))))))))) (gS_Model_beginRecord_93 hw))))
def g_Model_beginRecord_54 : z_T := (zq 55 (zi_aload 0 55) (zq 58 (zi_get 7 34 58) (zq 59 (zi_aload 0 59) (zq 62 (zi_get 7 33 62) (zq 63 (zi_iload 1 63) (zq 64 (zi_iast 64) (zq 65 (zi_iconst 0 65) (zi_istore 2 66))))))))
theorem gS_Model_beginRecord_54 (hw : z_Wd w) : z_S w zY_Model_beginRecord 54 g_Model_beginRecord_54 := (zq_S (zs_aload_n (k9 := 0) (by decide +kernel) rfl) (zq_S (zs_get hw.1 (by decide +kernel) (zf_Model_91 hw)) (zq_S (zs_aload_n (k9 := 0) (by decide +kernel) rfl) (zq_S (zs_get hw.1 (by decide +kernel) (zf_Model_218 hw)) (zq_S (zs_iload_n (k9 := 1) (by decide +kernel) rfl) (zq_S (zs_iast hw.1 (by decide +kernel)) (zq_S (zs_iconst (n := 0) (by decide +kernel) (by decide)) (zs_istore_n (k9 := 2) (by decide +kernel) rfl (by decide)))))))))
def g_Model_beginRecord_53 : z_T := (zi_zret)
theorem gS_Model_beginRecord_53 (hw : z_Wd w) : z_S w zY_Model_beginRecord 53 g_Model_beginRecord_53 := (zs_zret (by decide +kernel) rfl)
def g_Model_beginRecord_27 : z_T := (zq 28 (zi_aload 0 28) (zq 31 (zi_get 7 1 31) (zq 33 (zi_bipush 6 33) (zq 34 (zi_aload 0 34) (zq 37 (zi_get 7 26 37) (zq 38 (zi_iload 1 38) (zq 39 (zi_iald 39) (zq 40 (zi_iadd 40) (zq 41 (zi_zald 41) (zb 44 54 (zi_if_ne 54 44) (zq 45 (zi_aload 0 45) (zq 46 (zi_iconst 2 46) (zq 47 (zi_aload 0 47) (zi_get 7 39 50)))) g_Model_beginRecord_54))))))))))
theorem gS_Model_beginRecord_27 (hw : z_Wd w) : z_S w zY_Model_beginRecord 27 g_Model_beginRecord_27 := (zq_S (zs_aload_n (k9 := 0) (by decide +kernel) rfl) (zq_S (zs_get hw.1 (by decide +kernel) (zf_Model_7 hw)) (zq_S (zs_bipush (n := 6) (by decide +kernel) (by decide)) (zq_S (zs_aload_n (k9 := 0) (by decide +kernel) rfl) (zq_S (zs_get hw.1 (by decide +kernel) (zf_Model_70 hw)) (zq_S (zs_iload_n (k9 := 1) (by decide +kernel) rfl) (zq_S (zs_iald hw.1 (by decide +kernel)) (zq_S (zs_iadd (by decide +kernel)) (zq_S (zs_zald hw.1 (by decide +kernel)) (zb_S (zs_if_ne (off := 13) (by decide +kernel) (by decide)) (zq_S (zs_aload_n (k9 := 0) (by decide +kernel) rfl) (zq_S (zs_iconst (n := 2) (by decide +kernel) (by decide)) (zq_S (zs_aload_n (k9 := 0) (by decide +kernel) rfl) (zs_get hw.1 (by decide +kernel) (zf_Model_202 hw))))) (gS_Model_beginRecord_54 hw)))))))))))
def g_Model_beginRecord_26 : z_T := (zi_zret)
theorem gS_Model_beginRecord_26 (hw : z_Wd w) : z_S w zY_Model_beginRecord 26 g_Model_beginRecord_26 := (zs_zret (by decide +kernel) rfl)
def g_Model_beginRecord_13 : z_T := (zq 14 (zi_iload 1 14) (zb 17 27 (zi_if_ge 27 17) (zq 18 (zi_aload 0 18) (zq 19 (zi_iconst 1 19) (zq 20 (zi_aload 0 20) (zi_get 7 39 23)))) g_Model_beginRecord_27))
theorem gS_Model_beginRecord_13 (hw : z_Wd w) : z_S w zY_Model_beginRecord 13 g_Model_beginRecord_13 := (zq_S (zs_iload_n (k9 := 1) (by decide +kernel) rfl) (zb_S (zs_if_ge (off := 13) (by decide +kernel) (by decide)) (zq_S (zs_aload_n (k9 := 0) (by decide +kernel) rfl) (zq_S (zs_iconst (n := 1) (by decide +kernel) (by decide)) (zq_S (zs_aload_n (k9 := 0) (by decide +kernel) rfl) (zs_get hw.1 (by decide +kernel) (zf_Model_202 hw))))) (gS_Model_beginRecord_27 hw)))
def g_Model_beginRecord_4 : z_T := (zq 5 (zi_istore 1 5) (zq 6 (zi_iload 1 6) (zq 8 (zi_bipush (-2) 8) (zb 11 13 (zi_icmp_ne 13 11) (zq 12 (zi_iconst 0 12) (zi_zret)) g_Model_beginRecord_13))))
theorem gS_Model_beginRecord_4 (hw : z_Wd w) : z_S w zY_Model_beginRecord 4 g_Model_beginRecord_4 := (zq_S (zs_istore_n (k9 := 1) (by decide +kernel) rfl (by decide)) (zq_S (zs_iload_n (k9 := 1) (by decide +kernel) rfl) (zq_S (zs_bipush (n := (-2)) (by decide +kernel) (by decide)) (zb_S (zs_icmp_ne (off := 5) (by decide +kernel) (by decide)) (zq_S (zs_iconst (n := 0) (by decide +kernel) (by decide)) (zs_zret (by decide +kernel) rfl)) (gS_Model_beginRecord_13 hw)))))
def g_Model_beginRecord_0 : z_T := (zi_aload 0 1)
theorem gS_Model_beginRecord_0 (hw : z_Wd w) : z_S w zY_Model_beginRecord 0 g_Model_beginRecord_0 := (zs_aload_n (k9 := 0) (by decide +kernel) rfl)
def g_Model_beginRow_54 : z_T := (zq 55 (zi_aload 0 55) (zq 58 (zi_get 7 34 58) (zq 59 (zi_aload 0 59) (zq 62 (zi_get 7 33 62) (zq 63 (zi_iconst (-1) 63) (zq 64 (zi_iast 64) (zq 65 (zi_aload 0 65) (zq 68 (zi_get 7 35 68) (zq 69 (zi_aload 0 69) (zq 72 (zi_get 7 33 72) (zq 73 (zi_iload 1 73) (zq 74 (zi_iast 74) (zq 75 (zi_iconst 1 75) (zi_zret))))))))))))))
theorem gS_Model_beginRow_54 (hw : z_Wd w) : z_S w zY_Model_beginRow 54 g_Model_beginRow_54 := (zq_S (zs_aload_n (k9 := 0) (by decide +kernel) rfl) (zq_S (zs_get hw.1 (by decide +kernel) (zf_Model_91 hw)) (zq_S (zs_aload_n (k9 := 0) (by decide +kernel) rfl) (zq_S (zs_get hw.1 (by decide +kernel) (zf_Model_218 hw)) (zq_S (zs_iconst (n := (-1)) (by decide +kernel) (by decide)) (zq_S (zs_iast hw.1 (by decide +kernel)) (zq_S (zs_aload_n (k9 := 0) (by decide +kernel) rfl) (zq_S (zs_get hw.1 (by decide +kernel) (zf_Model_94 hw)) (zq_S (zs_aload_n (k9 := 0) (by decide +kernel) rfl) (zq_S (zs_get hw.1 (by decide +kernel) (zf_Model_218 hw)) (zq_S (zs_iload_n (k9 := 1) (by decide +kernel) rfl) (zq_S (zs_iast hw.1 (by decide +kernel)) (zq_S (zs_iconst (n := 1) (by decide +kernel) (by decide)) (zs_zret (by decide +kernel) rfl))))))))))))))
def g_Model_beginRow_53 : z_T := (zi_zret)
theorem gS_Model_beginRow_53 (hw : z_Wd w) : z_S w zY_Model_beginRow 53 g_Model_beginRow_53 := (zs_zret (by decide +kernel) rfl)
def g_Model_beginRow_32 : z_T := (zq 33 (zi_iload 1 33) (zq 34 (zi_aload 0 34) (zq 37 (zi_get 7 14 37) (zq 38 (zi_iconst 1 38) (zq 39 (zi_iald 39) (zb 42 54 (zi_icmp_le 54 42) (zq 43 (zi_aload 0 43) (zq 44 (zi_iconst 3 44) (zq 45 (zi_aload 0 45) (zq 48 (zi_get 7 23 48) (zq 49 (zi_iconst 1 49) (zi_isub 50)))))) g_Model_beginRow_54))))))
theorem gS_Model_beginRow_32 (hw : z_Wd w) : z_S w zY_Model_beginRow 32 g_Model_beginRow_32 := (zq_S (zs_iload_n (k9 := 1) (by decide +kernel) rfl) (zq_S (zs_aload_n (k9 := 0) (by decide +kernel) rfl) (zq_S (zs_get hw.1 (by decide +kernel) (zf_Model_48 hw)) (zq_S (zs_iconst (n := 1) (by decide +kernel) (by decide)) (zq_S (zs_iald hw.1 (by decide +kernel)) (zb_S (zs_icmp_le (off := 15) (by decide +kernel) (by decide)) (zq_S (zs_aload_n (k9 := 0) (by decide +kernel) rfl) (zq_S (zs_iconst (n := 3) (by decide +kernel) (by decide)) (zq_S (zs_aload_n (k9 := 0) (by decide +kernel) rfl) (zq_S (zs_get hw.1 (by decide +kernel) (zf_Model_181 hw)) (zq_S (zs_iconst (n := 1) (by decide +kernel) (by decide)) (zs_isub (by decide +kernel))))))) (gS_Model_beginRow_54 hw)))))))
def g_Model_beginRow_31 : z_T := (zi_zret)
theorem gS_Model_beginRow_31 (hw : z_Wd w) : z_S w zY_Model_beginRow 31 g_Model_beginRow_31 := (zs_zret (by decide +kernel) rfl)
def g_Model_beginRow_14 : z_T := (zq 15 (zi_istore 1 15) (zq 16 (zi_iload 1 16) (zq 17 (zi_iconst 5 17) (zb 20 32 (zi_icmp_le 32 20) (zq 21 (zi_aload 0 21) (zq 22 (zi_iconst 1 22) (zq 23 (zi_aload 0 23) (zq 26 (zi_get 7 23 26) (zq 27 (zi_iconst 1 27) (zi_isub 28)))))) g_Model_beginRow_32))))
theorem gS_Model_beginRow_14 (hw : z_Wd w) : z_S w zY_Model_beginRow 14 g_Model_beginRow_14 := (zq_S (zs_istore_n (k9 := 1) (by decide +kernel) rfl (by decide)) (zq_S (zs_iload_n (k9 := 1) (by decide +kernel) rfl) (zq_S (zs_iconst (n := 5) (by decide +kernel) (by decide)) (zb_S (zs_icmp_le (off := 15) (by decide +kernel) (by decide)) (zq_S (zs_aload_n (k9 := 0) (by decide +kernel) rfl) (zq_S (zs_iconst (n := 1) (by decide +kernel) (by decide)) (zq_S (zs_aload_n (k9 := 0) (by decide +kernel) rfl) (zq_S (zs_get hw.1 (by decide +kernel) (zf_Model_181 hw)) (zq_S (zs_iconst (n := 1) (by decide +kernel) (by decide)) (zs_isub (by decide +kernel))))))) (gS_Model_beginRow_32 hw)))))
def g_Model_beginRow_10 : z_T := (zi_aload 0 11)
theorem gS_Model_beginRow_10 (hw : z_Wd w) : z_S w zY_Model_beginRow 10 g_Model_beginRow_10 := (zs_aload_n (k9 := 0) (by decide +kernel) rfl)
def g_Model_beginRow_5 : z_T := (zb 8 10 (zi_if_ne 10 8) (zq 9 (zi_iconst 0 9) (zi_zret)) g_Model_beginRow_10)
theorem gS_Model_beginRow_5 (hw : z_Wd w) : z_S w zY_Model_beginRow 5 g_Model_beginRow_5 := (zb_S (zs_if_ne (off := 5) (by decide +kernel) (by decide)) (zq_S (zs_iconst (n := 0) (by decide +kernel) (by decide)) (zs_zret (by decide +kernel) rfl)) (gS_Model_beginRow_10 hw))
def g_Model_beginRow_0 : z_T := (zq 1 (zi_aload 0 1) (zi_iconst 1 2))
theorem gS_Model_beginRow_0 (hw : z_Wd w) : z_S w zY_Model_beginRow 0 g_Model_beginRow_0 := (zq_S (zs_aload_n (k9 := 0) (by decide +kernel) rfl) (zs_iconst (n := 1) (by decide +kernel) (by decide)))
def g_Model_readField_93 : z_T := (zq 94 (zi_iconst (-1) 94) (zi_iret))
theorem gS_Model_readField_93 (hw : z_Wd w) : z_S w zY_Model_readField 93 g_Model_readField_93 := (zq_S (zs_iconst (n := (-1)) (by decide +kernel) (by decide)) (zs_iret (by decide +kernel) rfl))
def g_Model_readField_76 : z_T := (zq 77 (zi_iload 3 77) (zq 78 (zi_aload 0 78) (zq 81 (zi_get 7 30 81) (zq 83 (zi_iload 5 83) (zq 84 (zi_iald 84) (zq 85 (zi_isub 85) (zq 86 (zi_istore 3 86) (zq 88 (zi_iload 5 88) (zq 90 (zi_istore 4 90) (zi_goto 5))))))))))
theorem gS_Model_readField_76 (hw : z_Wd w) : z_S w zY_Model_readField 76 g_Model_readField_76 := (zq_S (zs_iload_n (k9 := 3) (by decide +kernel) rfl) (zq_S (zs_aload_n (k9 := 0) (by decide +kernel) rfl) (zq_S (zs_get hw.1 (by decide +kernel) (zf_Model_82 hw)) (zq_S (zs_iload (by decide +kernel)) (zq_S (zs_iald hw.1 (by decide +kernel)) (zq_S (zs_isub (by decide +kernel)) (zq_S (zs_istore_n (k9 := 3) (by decide +kernel) rfl (by decide)) (zq_S (zs_iload (by decide +kernel)) (zq_S (zs_istore (by decide +kernel) (by decide)) (zs_goto (off := -85) (by decide +kernel) (by decide)))))))))))
def g_Model_readField_58 : z_T := (zq 59 (zi_iload 3 59) (zq 60 (zi_aload 0 60) (zq 63 (zi_get 7 30 63) (zq 65 (zi_iload 5 65) (zq 66 (zi_iald 66) (zb 69 76 (zi_icmp_ge 76 69) (zq 70 (zi_iconst 4 70) (zq 72 (zi_iload 5 72) (zq 73 (zi_imul 73) (zq 74 (zi_iload 3 74) (zq 75 (zi_iadd 75) (zi_iret)))))) g_Model_readField_76))))))
theorem gS_Model_readField_58 (hw : z_Wd w) : z_S w zY_Model_readField 58 g_Model_readField_58 := (zq_S (zs_iload_n (k9 := 3) (by decide +kernel) rfl) (zq_S (zs_aload_n (k9 := 0) (by decide +kernel) rfl) (zq_S (zs_get hw.1 (by decide +kernel) (zf_Model_82 hw)) (zq_S (zs_iload (by decide +kernel)) (zq_S (zs_iald hw.1 (by decide +kernel)) (zb_S (zs_icmp_ge (off := 10) (by decide +kernel) (by decide)) (zq_S (zs_iconst (n := 4) (by decide +kernel) (by decide)) (zq_S (zs_iload (by decide +kernel)) (zq_S (zs_imul (by decide +kernel)) (zq_S (zs_iload_n (k9 := 3) (by decide +kernel) rfl) (zq_S (zs_iadd (by decide +kernel)) (zs_iret (by decide +kernel) rfl)))))) (gS_Model_readField_76 hw)))))))
def g_Model_readField_24 : z_T := (zq 25 (zi_aload 0 25) (zq 28 (zi_get 7 28 28) (zq 30 (zi_iload 5 30) (zq 31 (zi_iald 31) (zq 34 (zi_if_lt 58 34) (zq 35 (zi_aload 0 35) (zq 38 (zi_get 7 28 38) (zq 40 (zi_iload 5 40) (zq 41 (zi_iald 41) (zq 43 (zi_iload 4 43) (zq 46 (zi_icmp_eq 58 46) (zq 47 (zi_aload 0 47) (zq 50 (zi_get 7 28 50) (zq 52 (zi_iload 5 52) (zq 53 (zi_iald 53) (zq 55 (zi_istore 5 55) (zi_goto 24)))))))))))))))))
theorem gS_Model_readField_24 (hw : z_Wd w) : z_S w zY_Model_readField 24 g_Model_readField_24 := (zq_S (zs_aload_n (k9 := 0) (by decide +kernel) rfl) (zq_S (zs_get hw.1 (by decide +kernel) (zf_Model_76 hw)) (zq_S (zs_iload (by decide +kernel)) (zq_S (zs_iald hw.1 (by decide +kernel)) (zq_S (zs_if_lt (off := 27) (by decide +kernel) (by decide)) (zq_S (zs_aload_n (k9 := 0) (by decide +kernel) rfl) (zq_S (zs_get hw.1 (by decide +kernel) (zf_Model_76 hw)) (zq_S (zs_iload (by decide +kernel)) (zq_S (zs_iald hw.1 (by decide +kernel)) (zq_S (zs_iload (by decide +kernel)) (zq_S (zs_icmp_eq (off := 15) (by decide +kernel) (by decide)) (zq_S (zs_aload_n (k9 := 0) (by decide +kernel) rfl) (zq_S (zs_get hw.1 (by decide +kernel) (zf_Model_76 hw)) (zq_S (zs_iload (by decide +kernel)) (zq_S (zs_iald hw.1 (by decide +kernel)) (zq_S (zs_istore (by decide +kernel) (by decide)) (zs_goto (off := -31) (by decide +kernel) (by decide))))))))))))))))))
def g_Model_readField_5 : z_T := (zq 7 (zi_iload 4 7) (zq 8 (zi_aload 0 8) (zq 11 (zi_get 7 34 11) (zq 12 (zi_iload 1 12) (zq 13 (zi_iald 13) (zb 16 93 (zi_icmp_eq 93 16) (zq 17 (zi_aload 0 17) (zq 20 (zi_get 7 34 20) (zq 21 (zi_iload 1 21) (zq 22 (zi_iald 22) (zi_istore 5 24))))) g_Model_readField_93))))))
theorem gS_Model_readField_5 (hw : z_Wd w) : z_S w zY_Model_readField 5 g_Model_readField_5 := (zq_S (zs_iload (by decide +kernel)) (zq_S (zs_aload_n (k9 := 0) (by decide +kernel) rfl) (zq_S (zs_get hw.1 (by decide +kernel) (zf_Model_91 hw)) (zq_S (zs_iload_n (k9 := 1) (by decide +kernel) rfl) (zq_S (zs_iald hw.1 (by decide +kernel)) (zb_S (zs_icmp_eq (off := 80) (by decide +kernel) (by decide)) (zq_S (zs_aload_n (k9 := 0) (by decide +kernel) rfl) (zq_S (zs_get hw.1 (by decide +kernel) (zf_Model_91 hw)) (zq_S (zs_iload_n (k9 := 1) (by decide +kernel) rfl) (zq_S (zs_iald hw.1 (by decide +kernel)) (zs_istore (by decide +kernel) (by decide)))))) (gS_Model_readField_93 hw)))))))
def g_Model_readField_0 : z_T := (zq 1 (zi_iload 2 1) (zq 2 (zi_istore 3 2) (zq 3 (zi_iconst (-1) 3) (zi_istore 4 5))))
theorem gS_Model_readField_0 (hw : z_Wd w) : z_S w zY_Model_readField 0 g_Model_readField_0 := (zq_S (zs_iload_n (k9 := 2) (by decide +kernel) rfl) (zq_S (zs_istore_n (k9 := 3) (by decide +kernel) rfl (by decide)) (zq_S (zs_iconst (n := (-1)) (by decide +kernel) (by decide)) (zs_istore (by decide +kernel) (by decide)))))
def g_Model_keep_0 : z_T := (zq 1 (zi_aload 0 1) (zq 4 (zi_get 7 26 4) (zq 5 (zi_iload 2 5) (zq 6 (zi_iconst 4 6) (zq 7 (zi_idiv 7) (zq 8 (zi_iald 8) (zq 10 (zi_istore 5 10) (zq 11 (zi_aload 0 11) (zq 14 (zi_get 7 36 14) (zq 16 (zi_bipush 60 16) (zq 17 (zi_iload 1 17) (zq 18 (zi_imul 18) (zq 20 (zi_bipush 10 20) (zq 22 (zi_iload 5 22) (zq 23 (zi_imul 23) (zq 24 (zi_iadd 24) (zq 25 (zi_aload 0 25) (zq 28 (zi_get 7 31 28) (zq 29 (zi_iload 2 29) (zq 30 (zi_iald 30) (zq 31 (zi_iadd 31) (zq 32 (zi_lload 3 32) (zq 33 (zi_last 33) (zq 34 (zi_aload 0 34) (zq 37 (zi_get 7 37 37) (zq 39 (zi_bipush 6 39) (zq 40 (zi_iload 1 40) (zq 41 (zi_imul 41) (zq 43 (zi_iload 5 43) (zq 44 (zi_iadd 44) (zq 45 (zi_aload 0 45) (zq 48 (zi_get 7 37 48) (zq 50 (zi_bipush 6 50) (zq 51 (zi_iload 1 51) (zq 52 (zi_imul 52) (zq 54 (zi_iload 5 54) (zq 55 (zi_iadd 55) (zq 56 (zi_iald 56) (zq 57 (zi_iconst 1 57) (zq 58 (zi_aload 0 58) (zq 61 (zi_get 7 31 61) (zq 62 (zi_iload 2 62) (zq 63 (zi_iald 63) (zq 64 (zi_ishl 64) (zq 65 (zi_ior 65) (zq 66 (zi_iast 66) (zi_vret)))))))))))))))))))))))))))))))))))))))))))))))
theorem gS_Model_keep_0 (hw : z_Wd w) : z_S w zY_Model_keep 0 g_Model_keep_0 := (zq_S (zs_aload_n (k9 := 0) (by decide +kernel) rfl) (zq_S (zs_get hw.1 (by decide +kernel) (zf_Model_70 hw)) (zq_S (zs_iload_n (k9 := 2) (by decide +kernel) rfl) (zq_S (zs_iconst (n := 4) (by decide +kernel) (by decide)) (zq_S (zs_idiv (by decide +kernel)) (zq_S (zs_iald hw.1 (by decide +kernel)) (zq_S (zs_istore (by decide +kernel) (by decide)) (zq_S (zs_aload_n (k9 := 0) (by decide +kernel) rfl) (zq_S (zs_get hw.1 (by decide +kernel) (zf_Model_97 hw)) (zq_S (zs_bipush (n := 60) (by decide +kernel) (by decide)) (zq_S (zs_iload_n (k9 := 1) (by decide +kernel) rfl) (zq_S (zs_imul (by decide +kernel)) (zq_S (zs_bipush (n := 10) (by decide +kernel) (by decide)) (zq_S (zs_iload (by decide +kernel)) (zq_S (zs_imul (by decide +kernel)) (zq_S (zs_iadd (by decide +kernel)) (zq_S (zs_aload_n (k9 := 0) (by decide +kernel) rfl) (zq_S (zs_get hw.1 (by decide +kernel) (zf_Model_85 hw)) (zq_S (zs_iload_n (k9 := 2) (by decide +kernel) rfl) (zq_S (zs_iald hw.1 (by decide +kernel)) (zq_S (zs_iadd (by decide +kernel)) (zq_S (zs_lload_n (k9 := 3) (by decide +kernel) rfl) (zq_S (zs_last hw.1 (by decide +kernel)) (zq_S (zs_aload_n (k9 := 0) (by decide +kernel) rfl) (zq_S (zs_get hw.1 (by decide +kernel) (zf_Model_100 hw)) (zq_S (zs_bipush (n := 6) (by decide +kernel) (by decide)) (zq_S (zs_iload_n (k9 := 1) (by decide +kernel) rfl) (zq_S (zs_imul (by decide +kernel)) (zq_S (zs_iload (by decide +kernel)) (zq_S (zs_iadd (by decide +kernel)) (zq_S (zs_aload_n (k9 := 0) (by decide +kernel) rfl) (zq_S (zs_get hw.1 (by decide +kernel) (zf_Model_100 hw)) (zq_S (zs_bipush (n := 6) (by decide +kernel) (by decide)) (zq_S (zs_iload_n (k9 := 1) (by decide +kernel) rfl) (zq_S (zs_imul (by decide +kernel)) (zq_S (zs_iload (by decide +kernel)) (zq_S (zs_iadd (by decide +kernel)) (zq_S (zs_iald hw.1 (by decide +kernel)) (zq_S (zs_iconst (n := 1) (by decide +kernel) (by decide)) (zq_S (zs_aload_n (k9 := 0) (by decide +kernel) rfl) (zq_S (zs_get hw.1 (by decide +kernel) (zf_Model_85 hw)) (zq_S (zs_iload_n (k9 := 2) (by decide +kernel) rfl) (zq_S (zs_iald hw.1 (by decide +kernel)) (zq_S (zs_ishl (by decide +kernel)) (zq_S (zs_ior (by decide +kernel)) (zq_S (zs_iast hw.1 (by decide +kernel)) (zs_vret (by decide +kernel) rfl)))))))))))))))))))))))))))))))))))))))))))))))
def g_Model_goOn_144 : z_T := (zq 145 (zi_iconst 0 145) (zi_iret))
theorem gS_Model_goOn_144 (hw : z_Wd w) : z_S w zY_Model_goOn 144 g_Model_goOn_144 := (zq_S (zs_iconst (n := 0) (by decide +kernel) (by decide)) (zs_iret (by decide +kernel) rfl))
def g_Model_goOn_123 : z_T := (zq 124 (zi_aload 0 124) (zq 127 (zi_get 7 22 127) (zq 128 (zi_aload 0 128) (zq 131 (zi_get 7 20 131) (zq 132 (zi_iconst 1 132) (zq 133 (zi_isub 133) (zq 134 (zi_dup2 134) (zq 135 (zi_iald 135) (zq 136 (zi_iconst 1 136) (zq 137 (zi_iadd 137) (zq 138 (zi_iast 138) (zq 141 (zi_iinc 2 1 141) (zi_goto 49)))))))))))))
theorem gS_Model_goOn_123 (hw : z_Wd w) : z_S w zY_Model_goOn 123 g_Model_goOn_123 := (zq_S (zs_aload_n (k9 := 0) (by decide +kernel) rfl) (zq_S (zs_get hw.1 (by decide +kernel) (zf_Model_67 hw)) (zq_S (zs_aload_n (k9 := 0) (by decide +kernel) rfl) (zq_S (zs_get hw.1 (by decide +kernel) (zf_Model_166 hw)) (zq_S (zs_iconst (n := 1) (by decide +kernel) (by decide)) (zq_S (zs_isub (by decide +kernel)) (zq_S (zs_dup2 (by decide +kernel)) (zq_S (zs_iald hw.1 (by decide +kernel)) (zq_S (zs_iconst (n := 1) (by decide +kernel) (by decide)) (zq_S (zs_iadd (by decide +kernel)) (zq_S (zs_iast hw.1 (by decide +kernel)) (zq_S (zs_iinc (n := 1) (by decide +kernel) (by decide) (by decide)) (zs_goto (off := -92) (by decide +kernel) (by decide))))))))))))))
def g_Model_goOn_107 : z_T := (zq 108 (zi_aload 0 108) (zq 109 (zi_iload 1 109) (zq 110 (zi_iload 3 110) (zq 111 (zi_aload 0 111) (zq 112 (zi_aload 0 112) (zq 115 (zi_get 7 32 115) (zq 116 (zi_iload 3 116) (zi_iald 117))))))))
theorem gS_Model_goOn_107 (hw : z_Wd w) : z_S w zY_Model_goOn 107 g_Model_goOn_107 := (zq_S (zs_aload_n (k9 := 0) (by decide +kernel) rfl) (zq_S (zs_iload_n (k9 := 1) (by decide +kernel) rfl) (zq_S (zs_iload_n (k9 := 3) (by decide +kernel) rfl) (zq_S (zs_aload_n (k9 := 0) (by decide +kernel) rfl) (zq_S (zs_aload_n (k9 := 0) (by decide +kernel) rfl) (zq_S (zs_get hw.1 (by decide +kernel) (zf_Model_88 hw)) (zq_S (zs_iload_n (k9 := 3) (by decide +kernel) rfl) (zs_iald hw.1 (by decide +kernel)))))))))
def g_Model_goOn_102 : z_T := (zb 105 107 (zi_if_ne 107 105) (zq 106 (zi_iconst (-1) 106) (zi_iret)) g_Model_goOn_107)
theorem gS_Model_goOn_102 (hw : z_Wd w) : z_S w zY_Model_goOn 102 g_Model_goOn_102 := (zb_S (zs_if_ne (off := 5) (by decide +kernel) (by decide)) (zq_S (zs_iconst (n := (-1)) (by decide +kernel) (by decide)) (zs_iret (by decide +kernel) rfl)) (gS_Model_goOn_107 hw))
def g_Model_goOn_90 : z_T := (zq 91 (zi_aload 0 91) (zq 92 (zi_iconst 1 92) (zq 93 (zi_aload 0 93) (zq 96 (zi_get 7 32 96) (zq 97 (zi_iload 3 97) (zq 98 (zi_iald 98) (zi_ishl 99)))))))
theorem gS_Model_goOn_90 (hw : z_Wd w) : z_S w zY_Model_goOn 90 g_Model_goOn_90 := (zq_S (zs_aload_n (k9 := 0) (by decide +kernel) rfl) (zq_S (zs_iconst (n := 1) (by decide +kernel) (by decide)) (zq_S (zs_aload_n (k9 := 0) (by decide +kernel) rfl) (zq_S (zs_get hw.1 (by decide +kernel) (zf_Model_88 hw)) (zq_S (zs_iload_n (k9 := 3) (by decide +kernel) rfl) (zq_S (zs_iald hw.1 (by decide +kernel)) (zs_ishl (by decide +kernel))))))))
def g_Model_goOn_78 : z_T := (zq 79 (zi_aload 0 79) (zq 82 (zi_get 7 32 82) (zq 83 (zi_iload 3 83) (zq 84 (zi_iald 84) (zq 85 (zi_iconst 4 85) (zb 88 90 (zi_icmp_ne 90 88) (zq 89 (zi_iconst 1 89) (zi_iret)) g_Model_goOn_90))))))
theorem gS_Model_goOn_78 (hw : z_Wd w) : z_S w zY_Model_goOn 78 g_Model_goOn_78 := (zq_S (zs_aload_n (k9 := 0) (by decide +kernel) rfl) (zq_S (zs_get hw.1 (by decide +kernel) (zf_Model_88 hw)) (zq_S (zs_iload_n (k9 := 3) (by decide +kernel) rfl) (zq_S (zs_iald hw.1 (by decide +kernel)) (zq_S (zs_iconst (n := 4) (by decide +kernel) (by decide)) (zb_S (zs_icmp_ne (off := 5) (by decide +kernel) (by decide)) (zq_S (zs_iconst (n := 1) (by decide +kernel) (by decide)) (zs_iret (by decide +kernel) rfl)) (gS_Model_goOn_90 hw)))))))
def g_Model_goOn_71 : z_T := (zq 72 (zi_istore 3 72) (zq 73 (zi_iload 3 73) (zb 76 78 (zi_if_ge 78 76) (zq 77 (zi_iconst 0 77) (zi_iret)) g_Model_goOn_78)))
theorem gS_Model_goOn_71 (hw : z_Wd w) : z_S w zY_Model_goOn 71 g_Model_goOn_71 := (zq_S (zs_istore_n (k9 := 3) (by decide +kernel) rfl (by decide)) (zq_S (zs_iload_n (k9 := 3) (by decide +kernel) rfl) (zb_S (zs_if_ge (off := 5) (by decide +kernel) (by decide)) (zq_S (zs_iconst (n := 0) (by decide +kernel) (by decide)) (zs_iret (by decide +kernel) rfl)) (gS_Model_goOn_78 hw))))
def g_Model_goOn_49 : z_T := (zq 50 (zi_iload 2 50) (zq 52 (zi_bipush 25 52) (zb 55 144 (zi_icmp_ge 144 55) (zq 56 (zi_aload 0 56) (zq 57 (zi_iload 1 57) (zq 58 (zi_aload 0 58) (zq 61 (zi_get 7 22 61) (zq 62 (zi_aload 0 62) (zq 65 (zi_get 7 20 65) (zq 66 (zi_iconst 1 66) (zq 67 (zi_isub 67) (zi_iald 68))))))))) g_Model_goOn_144)))
theorem gS_Model_goOn_49 (hw : z_Wd w) : z_S w zY_Model_goOn 49 g_Model_goOn_49 := (zq_S (zs_iload_n (k9 := 2) (by decide +kernel) rfl) (zq_S (zs_bipush (n := 25) (by decide +kernel) (by decide)) (zb_S (zs_icmp_ge (off := 92) (by decide +kernel) (by decide)) (zq_S (zs_aload_n (k9 := 0) (by decide +kernel) rfl) (zq_S (zs_iload_n (k9 := 1) (by decide +kernel) rfl) (zq_S (zs_aload_n (k9 := 0) (by decide +kernel) rfl) (zq_S (zs_get hw.1 (by decide +kernel) (zf_Model_67 hw)) (zq_S (zs_aload_n (k9 := 0) (by decide +kernel) rfl) (zq_S (zs_get hw.1 (by decide +kernel) (zf_Model_166 hw)) (zq_S (zs_iconst (n := 1) (by decide +kernel) (by decide)) (zq_S (zs_isub (by decide +kernel)) (zs_iald hw.1 (by decide +kernel)))))))))) (gS_Model_goOn_144 hw))))
def g_Model_goOn_47 : z_T := (zq 48 (zi_iconst 0 48) (zi_istore 2 49))
theorem gS_Model_goOn_47 (hw : z_Wd w) : z_S w zY_Model_goOn 47 g_Model_goOn_47 := (zq_S (zs_iconst (n := 0) (by decide +kernel) (by decide)) (zs_istore_n (k9 := 2) (by decide +kernel) rfl (by decide)))
def g_Model_goOn_46 : z_T := (zi_iret)
theorem gS_Model_goOn_46 (hw : z_Wd w) : z_S w zY_Model_goOn 46 g_Model_goOn_46 := (zs_iret (by decide +kernel) rfl)
def g_Model_goOn_45 : z_T := (zq 46 (zi_iconst 1 46) g_Model_goOn_46)
theorem gS_Model_goOn_45 (hw : z_Wd w) : z_S w zY_Model_goOn 45 g_Model_goOn_45 := (zq_S (zs_iconst (n := 1) (by decide +kernel) (by decide)) (gS_Model_goOn_46 hw))
def g_Model_goOn_0 : z_T := (zq 1 (zi_aload 0 1) (zq 4 (zi_get 7 21 4) (zq 5 (zi_aload 0 5) (zq 8 (zi_get 7 20 8) (zq 9 (zi_iconst 1 9) (zq 10 (zi_isub 10) (zq 11 (zi_iald 11) (zq 12 (zi_istore 1 12) (zq 13 (zi_aload 0 13) (zq 16 (zi_get 7 34 16) (zq 17 (zi_iload 1 17) (zq 18 (zi_iald 18) (zb 21 47 (zi_if_ge 47 21) (zq 22 (zi_aload 0 22) (zq 25 (zi_get 7 22 25) (zq 26 (zi_aload 0 26) (zq 29 (zi_get 7 20 29) (zq 30 (zi_iconst 1 30) (zq 31 (zi_isub 31) (zq 32 (zi_iald 32) (zq 33 (zi_aload 0 33) (zq 36 (zi_get 7 35 36) (zq 37 (zi_iload 1 37) (zq 38 (zi_iald 38) (zb 41 45 (zi_icmp_ne 45 41) (zq 42 (zi_iconst 0 42) (zq 46 (zi_goto 46) g_Model_goOn_46)) g_Model_goOn_45)))))))))))) g_Model_goOn_47)))))))))))))
theorem gS_Model_goOn_0 (hw : z_Wd w) : z_S w zY_Model_goOn 0 g_Model_goOn_0 := (zq_S (zs_aload_n (k9 := 0) (by decide +kernel) rfl) (zq_S (zs_get hw.1 (by decide +kernel) (zf_Model_64 hw)) (zq_S (zs_aload_n (k9 := 0) (by decide +kernel) rfl) (zq_S (zs_get hw.1 (by decide +kernel) (zf_Model_166 hw)) (zq_S (zs_iconst (n := 1) (by decide +kernel) (by decide)) (zq_S (zs_isub (by decide +kernel)) (zq_S (zs_iald hw.1 (by decide +kernel)) (zq_S (zs_istore_n (k9 := 1) (by decide +kernel) rfl (by decide)) (zq_S (zs_aload_n (k9 := 0) (by decide +kernel) rfl) (zq_S (zs_get hw.1 (by decide +kernel) (zf_Model_91 hw)) (zq_S (zs_iload_n (k9 := 1) (by decide +kernel) rfl) (zq_S (zs_iald hw.1 (by decide +kernel)) (zb_S (zs_if_ge (off := 29) (by decide +kernel) (by decide)) (zq_S (zs_aload_n (k9 := 0) (by decide +kernel) rfl) (zq_S (zs_get hw.1 (by decide +kernel) (zf_Model_67 hw)) (zq_S (zs_aload_n (k9 := 0) (by decide +kernel) rfl) (zq_S (zs_get hw.1 (by decide +kernel) (zf_Model_166 hw)) (zq_S (zs_iconst (n := 1) (by decide +kernel) (by decide)) (zq_S (zs_isub (by decide +kernel)) (zq_S (zs_iald hw.1 (by decide +kernel)) (zq_S (zs_aload_n (k9 := 0) (by decide +kernel) rfl) (zq_S (zs_get hw.1 (by decide +kernel) (zf_Model_94 hw)) (zq_S (zs_iload_n (k9 := 1) (by decide +kernel) rfl) (zq_S (zs_iald hw.1 (by decide +kernel)) (zb_S (zs_icmp_ne (off := 7) (by decide +kernel) (by decide)) (zq_S (zs_iconst (n := 0) (by decide +kernel) (by decide)) (zq_S (zs_goto (off := 4) (by decide +kernel) (by decide)) (gS_Model_goOn_46 hw))) (gS_Model_goOn_45 hw))))))))))))) (gS_Model_goOn_47 hw))))))))))))))
def g_Model_store_60 : z_T := (zq 61 (zi_aload 0 61) (zq 64 (zi_get 7 22 64) (zq 65 (zi_aload 0 65) (zq 68 (zi_get 7 20 68) (zq 69 (zi_iconst 1 69) (zq 70 (zi_isub 70) (zq 71 (zi_dup2 71) (zq 72 (zi_iald 72) (zq 73 (zi_iconst 1 73) (zq 74 (zi_iadd 74) (zq 75 (zi_iast 75) (zi_vret))))))))))))
theorem gS_Model_store_60 (hw : z_Wd w) : z_S w zY_Model_store 60 g_Model_store_60 := (zq_S (zs_aload_n (k9 := 0) (by decide +kernel) rfl) (zq_S (zs_get hw.1 (by decide +kernel) (zf_Model_67 hw)) (zq_S (zs_aload_n (k9 := 0) (by decide +kernel) rfl) (zq_S (zs_get hw.1 (by decide +kernel) (zf_Model_166 hw)) (zq_S (zs_iconst (n := 1) (by decide +kernel) (by decide)) (zq_S (zs_isub (by decide +kernel)) (zq_S (zs_dup2 (by decide +kernel)) (zq_S (zs_iald hw.1 (by decide +kernel)) (zq_S (zs_iconst (n := 1) (by decide +kernel) (by decide)) (zq_S (zs_iadd (by decide +kernel)) (zq_S (zs_iast hw.1 (by decide +kernel)) (zs_vret (by decide +kernel) rfl))))))))))))
def g_Model_store_55 : z_T := (zq 56 (zi_iload 1 56) (zi_i2l 57))
theorem gS_Model_store_55 (hw : z_Wd w) : z_S w zY_Model_store 55 g_Model_store_55 := (zq_S (zs_iload_n (k9 := 1) (by decide +kernel) rfl) (zs_i2l (by decide +kernel)))
def g_Model_store_47 : z_T := (zq 48 (zi_aload 0 48) (zq 49 (zi_iload 2 49) (zq 50 (zi_aload 0 50) (zq 51 (zi_iload 2 51) (zi_iload 3 52)))))
theorem gS_Model_store_47 (hw : z_Wd w) : z_S w zY_Model_store 47 g_Model_store_47 := (zq_S (zs_aload_n (k9 := 0) (by decide +kernel) rfl) (zq_S (zs_iload_n (k9 := 2) (by decide +kernel) rfl) (zq_S (zs_aload_n (k9 := 0) (by decide +kernel) rfl) (zq_S (zs_iload_n (k9 := 2) (by decide +kernel) rfl) (zs_iload_n (k9 := 3) (by decide +kernel) rfl)))))
def g_Model_store_0 : z_T := (zq 1 (zi_aload 0 1) (zq 4 (zi_get 7 21 4) (zq 5 (zi_aload 0 5) (zq 8 (zi_get 7 20 8) (zq 9 (zi_iconst 1 9) (zq 10 (zi_isub 10) (zq 11 (zi_iald 11) (zq 12 (zi_istore 2 12) (zq 13 (zi_aload 0 13) (zq 16 (zi_get 7 22 16) (zq 17 (zi_aload 0 17) (zq 20 (zi_get 7 20 20) (zq 21 (zi_iconst 1 21) (zq 22 (zi_isub 22) (zq 23 (zi_iald 23) (zq 24 (zi_istore 3 24) (zq 25 (zi_aload 0 25) (zq 28 (zi_get 7 34 28) (zq 29 (zi_iload 2 29) (zq 30 (zi_iald 30) (zb 33 47 (zi_if_ge 47 33) (zq 34 (zi_aload 0 34) (zq 37 (zi_get 7 38 37) (zq 38 (zi_iconst 5 38) (zq 39 (zi_iload 2 39) (zq 40 (zi_imul 40) (zq 41 (zi_iload 3 41) (zq 42 (zi_iadd 42) (zq 43 (zi_iload 1 43) (zq 44 (zi_iast 44) (zq 60 (zi_goto 60) g_Model_store_60)))))))))) g_Model_store_47)))))))))))))))))))))
theorem gS_Model_store_0 (hw : z_Wd w) : z_S w zY_Model_store 0 g_Model_store_0 := (zq_S (zs_aload_n (k9 := 0) (by decide +kernel) rfl) (zq_S (zs_get hw.1 (by decide +kernel) (zf_Model_64 hw)) (zq_S (zs_aload_n (k9 := 0) (by decide +kernel) rfl) (zq_S (zs_get hw.1 (by decide +kernel) (zf_Model_166 hw)) (zq_S (zs_iconst (n := 1) (by decide +kernel) (by decide)) (zq_S (zs_isub (by decide +kernel)) (zq_S (zs_iald hw.1 (by decide +kernel)) (zq_S (zs_istore_n (k9 := 2) (by decide +kernel) rfl (by decide)) (zq_S (zs_aload_n (k9 := 0) (by decide +kernel) rfl) (zq_S (zs_get hw.1 (by decide +kernel) (zf_Model_67 hw)) (zq_S (zs_aload_n (k9 := 0) (by decide +kernel) rfl) (zq_S (zs_get hw.1 (by decide +kernel) (zf_Model_166 hw)) (zq_S (zs_iconst (n := 1) (by decide +kernel) (by decide)) (zq_S (zs_isub (by decide +kernel)) (zq_S (zs_iald hw.1 (by decide +kernel)) (zq_S (zs_istore_n (k9 := 3) (by decide +kernel) rfl (by decide)) (zq_S (zs_aload_n (k9 := 0) (by decide +kernel) rfl) (zq_S (zs_get hw.1 (by decide +kernel) (zf_Model_91 hw)) (zq_S (zs_iload_n (k9 := 2) (by decide +kernel) rfl) (zq_S (zs_iald hw.1 (by decide +kernel)) (zb_S (zs_if_ge (off := 17) (by decide +kernel) (by decide)) (zq_S (zs_aload_n (k9 := 0) (by decide +kernel) rfl) (zq_S (zs_get hw.1 (by decide +kernel) (zf_Model_103 hw)) (zq_S (zs_iconst (n := 5) (by decide +kernel) (by decide)) (zq_S (zs_iload_n (k9 := 2) (by decide +kernel) rfl) (zq_S (zs_imul (by decide +kernel)) (zq_S (zs_iload_n (k9 := 3) (by decide +kernel) rfl) (zq_S (zs_iadd (by decide +kernel)) (zq_S (zs_iload_n (k9 := 1) (by decide +kernel) rfl) (zq_S (zs_iast hw.1 (by decide +kernel)) (zq_S (zs_goto (off := 16) (by decide +kernel) (by decide)) (gS_Model_store_60 hw))))))))))) (gS_Model_store_47 hw))))))))))))))))))))))
def g_Model_readAll_237 : z_T := (zi_zret)
theorem gS_Model_readAll_237 (hw : z_Wd w) : z_S w zY_Model_readAll 237 g_Model_readAll_237 := (zs_zret (by decide +kernel) rfl)
def g_Model_readAll_236 : z_T := (zq 237 (zi_iconst 0 237) g_Model_readAll_237)
theorem gS_Model_readAll_236 (hw : z_Wd w) : z_S w zY_Model_readAll 236 g_Model_readAll_236 := (zq_S (zs_iconst (n := 0) (by decide +kernel) (by decide)) (gS_Model_readAll_237 hw))
def g_Model_readAll_232 : z_T := (zq 233 (zi_iconst 1 233) (zq 237 (zi_goto 237) g_Model_readAll_237))
theorem gS_Model_readAll_232 (hw : z_Wd w) : z_S w zY_Model_readAll 232 g_Model_readAll_232 := (zq_S (zs_iconst (n := 1) (by decide +kernel) (by decide)) (zq_S (zs_goto (off := 4) (by decide +kernel) (by decide)) (gS_Model_readAll_237 hw)))
def g_Model_readAll_229 : z_T := (zb 232 236 (zi_if_eq 236 232) g_Model_readAll_232 g_Model_readAll_236)
theorem gS_Model_readAll_229 (hw : z_Wd w) : z_S w zY_Model_readAll 229 g_Model_readAll_229 := (zb_S (zs_if_eq (off := 7) (by decide +kernel) (by decide)) (gS_Model_readAll_232 hw) (gS_Model_readAll_236 hw))
def g_Model_readAll_209 : z_T := (zq 210 (zi_aload 0 210) (zq 213 (zi_get 7 23 213) (zq 214 (zi_aload 0 214) (zq 217 (zi_get 7 12 217) (zb 220 232 (zi_icmp_eq 232 220) (zq 221 (zi_aload 0 221) (zq 222 (zi_iconst 1 222) (zq 223 (zi_aload 0 223) (zi_get 7 23 226)))) g_Model_readAll_232)))))
theorem gS_Model_readAll_209 (hw : z_Wd w) : z_S w zY_Model_readAll 209 g_Model_readAll_209 := (zq_S (zs_aload_n (k9 := 0) (by decide +kernel) rfl) (zq_S (zs_get hw.1 (by decide +kernel) (zf_Model_181 hw)) (zq_S (zs_aload_n (k9 := 0) (by decide +kernel) rfl) (zq_S (zs_get hw.1 (by decide +kernel) (zf_Model_144 hw)) (zb_S (zs_icmp_eq (off := 15) (by decide +kernel) (by decide)) (zq_S (zs_aload_n (k9 := 0) (by decide +kernel) rfl) (zq_S (zs_iconst (n := 1) (by decide +kernel) (by decide)) (zq_S (zs_aload_n (k9 := 0) (by decide +kernel) rfl) (zs_get hw.1 (by decide +kernel) (zf_Model_181 hw))))) (gS_Model_readAll_232 hw))))))
def g_Model_readAll_203 : z_T := (zq 206 (zi_iinc 2 1 206) (zi_goto 74))
theorem gS_Model_readAll_203 (hw : z_Wd w) : z_S w zY_Model_readAll 203 g_Model_readAll_203 := (zq_S (zs_iinc (n := 1) (by decide +kernel) (by decide) (by decide)) (zs_goto (off := -132) (by decide +kernel) (by decide)))
def g_Model_readAll_200 : z_T := (zi_goto 101)
theorem gS_Model_readAll_200 (hw : z_Wd w) : z_S w zY_Model_readAll 200 g_Model_readAll_200 := (zs_goto (off := -99) (by decide +kernel) (by decide))
def g_Model_readAll_173 : z_T := (zq 175 (zi_istore 4 175) (zq 177 (zi_iload 5 177) (zb 180 200 (zi_if_ne 200 180) (zq 181 (zi_aload 0 181) (zq 182 (zi_dup 182) (zq 185 (zi_get 7 20 185) (zq 186 (zi_iconst 1 186) (zq 187 (zi_isub 187) (zq 190 (zi_put 7 20 (.int) 190) (zq 191 (zi_aload 0 191) (zq 194 (zi_get 7 21 194) (zq 195 (zi_aload 0 195) (zq 198 (zi_get 7 20 198) (zq 199 (zi_iald 199) (zq 200 (zi_istore 3 200) g_Model_readAll_200)))))))))))) g_Model_readAll_200)))
theorem gS_Model_readAll_173 (hw : z_Wd w) : z_S w zY_Model_readAll 173 g_Model_readAll_173 := (zq_S (zs_istore (by decide +kernel) (by decide)) (zq_S (zs_iload (by decide +kernel)) (zb_S (zs_if_ne (off := 23) (by decide +kernel) (by decide)) (zq_S (zs_aload_n (k9 := 0) (by decide +kernel) rfl) (zq_S (zs_dup (by decide +kernel)) (zq_S (zs_get hw.1 (by decide +kernel) (zf_Model_166 hw)) (zq_S (zs_iconst (n := 1) (by decide +kernel) (by decide)) (zq_S (zs_isub (by decide +kernel)) (zq_S (zs_put hw.1 (by decide +kernel) (zp_Model_166 hw) (fun h => by cases h)) (zq_S (zs_aload_n (k9 := 0) (by decide +kernel) rfl) (zq_S (zs_get hw.1 (by decide +kernel) (zf_Model_64 hw)) (zq_S (zs_aload_n (k9 := 0) (by decide +kernel) rfl) (zq_S (zs_get hw.1 (by decide +kernel) (zf_Model_166 hw)) (zq_S (zs_iald hw.1 (by decide +kernel)) (zq_S (zs_istore_n (k9 := 3) (by decide +kernel) rfl (by decide)) (gS_Model_readAll_200 hw))))))))))))) (gS_Model_readAll_200 hw))))
def g_Model_readAll_172 : z_T := (zi_iconst 0 173)
theorem gS_Model_readAll_172 (hw : z_Wd w) : z_S w zY_Model_readAll 172 g_Model_readAll_172 := (zs_iconst (n := 0) (by decide +kernel) (by decide))
def g_Model_readAll_162 : z_T := (zq 164 (zi_iload 5 164) (zq 165 (zi_iconst 1 165) (zb 168 172 (zi_icmp_ne 172 168) (zq 169 (zi_iconst 1 169) (zi_goto 173)) g_Model_readAll_172)))
theorem gS_Model_readAll_162 (hw : z_Wd w) : z_S w zY_Model_readAll 162 g_Model_readAll_162 := (zq_S (zs_iload (by decide +kernel)) (zq_S (zs_iconst (n := 1) (by decide +kernel) (by decide)) (zb_S (zs_icmp_ne (off := 7) (by decide +kernel) (by decide)) (zq_S (zs_iconst (n := 1) (by decide +kernel) (by decide)) (zs_goto (off := 4) (by decide +kernel) (by decide))) (gS_Model_readAll_172 hw))))
def g_Model_readAll_153 : z_T := (zq 155 (zi_istore 5 155) (zq 157 (zi_iload 5 157) (zb 160 162 (zi_if_ge 162 160) (zq 161 (zi_iconst 0 161) (zi_zret)) g_Model_readAll_162)))
theorem gS_Model_readAll_153 (hw : z_Wd w) : z_S w zY_Model_readAll 153 g_Model_readAll_153 := (zq_S (zs_istore (by decide +kernel) (by decide)) (zq_S (zs_iload (by decide +kernel)) (zb_S (zs_if_ge (off := 5) (by decide +kernel) (by decide)) (zq_S (zs_iconst (n := 0) (by decide +kernel) (by decide)) (zs_zret (by decide +kernel) rfl)) (gS_Model_readAll_162 hw))))
def g_Model_readAll_149 : z_T := (zi_aload 0 150)
theorem gS_Model_readAll_149 (hw : z_Wd w) : z_S w zY_Model_readAll 149 g_Model_readAll_149 := (zs_aload_n (k9 := 0) (by decide +kernel) rfl)
def g_Model_readAll_140 : z_T := (zq 141 (zi_istore 1 141) (zq 142 (zi_iload 1 142) (zb 145 149 (zi_if_eq 149 145) (zq 146 (zi_iconst 1 146) (zq 153 (zi_goto 153) g_Model_readAll_153)) g_Model_readAll_149)))
theorem gS_Model_readAll_140 (hw : z_Wd w) : z_S w zY_Model_readAll 140 g_Model_readAll_140 := (zq_S (zs_istore_n (k9 := 1) (by decide +kernel) rfl (by decide)) (zq_S (zs_iload_n (k9 := 1) (by decide +kernel) rfl) (zb_S (zs_if_eq (off := 7) (by decide +kernel) (by decide)) (zq_S (zs_iconst (n := 1) (by decide +kernel) (by decide)) (zq_S (zs_goto (off := 7) (by decide +kernel) (by decide)) (gS_Model_readAll_153 hw))) (gS_Model_readAll_149 hw))))
def g_Model_readAll_139 : z_T := (zi_iconst 0 140)
theorem gS_Model_readAll_139 (hw : z_Wd w) : z_S w zY_Model_readAll 139 g_Model_readAll_139 := (zs_iconst (n := 0) (by decide +kernel) (by decide))
def g_Model_readAll_128 : z_T := (zq 129 (zi_aload 0 129) (zq 132 (zi_get 7 20 132) (zb 135 139 (zi_if_ne 139 135) (zq 136 (zi_iconst 1 136) (zi_goto 140)) g_Model_readAll_139)))
theorem gS_Model_readAll_128 (hw : z_Wd w) : z_S w zY_Model_readAll 128 g_Model_readAll_128 := (zq_S (zs_aload_n (k9 := 0) (by decide +kernel) rfl) (zq_S (zs_get hw.1 (by decide +kernel) (zf_Model_166 hw)) (zb_S (zs_if_ne (off := 7) (by decide +kernel) (by decide)) (zq_S (zs_iconst (n := 1) (by decide +kernel) (by decide)) (zs_goto (off := 4) (by decide +kernel) (by decide))) (gS_Model_readAll_139 hw))))
def g_Model_readAll_101 : z_T := (zq 103 (zi_iload 4 103) (zb 106 203 (zi_if_ne 203 106) (zq 107 (zi_iload 1 107) (zb 110 203 (zi_if_ne 203 110) (zq 111 (zi_iload 3 111) (zq 113 (zi_bipush (-3) 113) (zq 116 (zi_icmp_eq 128 116) (zq 117 (zi_aload 0 117) (zq 120 (zi_get 7 20 120) (zq 123 (zi_if_le 128 123) (zq 124 (zi_aload 0 124) (zi_iload 3 125)))))))) g_Model_readAll_203)) g_Model_readAll_203))
theorem gS_Model_readAll_101 (hw : z_Wd w) : z_S w zY_Model_readAll 101 g_Model_readAll_101 := (zq_S (zs_iload (by decide +kernel)) (zb_S (zs_if_ne (off := 100) (by decide +kernel) (by decide)) (zq_S (zs_iload_n (k9 := 1) (by decide +kernel) rfl) (zb_S (zs_if_ne (off := 96) (by decide +kernel) (by decide)) (zq_S (zs_iload_n (k9 := 3) (by decide +kernel) rfl) (zq_S (zs_bipush (n := (-3)) (by decide +kernel) (by decide)) (zq_S (zs_icmp_eq (off := 15) (by decide +kernel) (by decide)) (zq_S (zs_aload_n (k9 := 0) (by decide +kernel) rfl) (zq_S (zs_get hw.1 (by decide +kernel) (zf_Model_166 hw)) (zq_S (zs_if_le (off := 8) (by decide +kernel) (by decide)) (zq_S (zs_aload_n (k9 := 0) (by decide +kernel) rfl) (zs_iload_n (k9 := 3) (by decide +kernel) rfl)))))))) (gS_Model_readAll_203 hw))) (gS_Model_readAll_203 hw)))
def g_Model_readAll_98 : z_T := (zq 99 (zi_iconst 0 99) (zi_istore 4 101))
theorem gS_Model_readAll_98 (hw : z_Wd w) : z_S w zY_Model_readAll 98 g_Model_readAll_98 := (zq_S (zs_iconst (n := 0) (by decide +kernel) (by decide)) (zs_istore (by decide +kernel) (by decide)))
def g_Model_readAll_89 : z_T := (zq 90 (zi_istore 3 90) (zq 91 (zi_iload 3 91) (zq 93 (zi_bipush (-2) 93) (zb 96 98 (zi_icmp_ne 98 96) (zq 97 (zi_iconst 0 97) (zi_zret)) g_Model_readAll_98))))
theorem gS_Model_readAll_89 (hw : z_Wd w) : z_S w zY_Model_readAll 89 g_Model_readAll_89 := (zq_S (zs_istore_n (k9 := 3) (by decide +kernel) rfl (by decide)) (zq_S (zs_iload_n (k9 := 3) (by decide +kernel) rfl) (zq_S (zs_bipush (n := (-2)) (by decide +kernel) (by decide)) (zb_S (zs_icmp_ne (off := 5) (by decide +kernel) (by decide)) (zq_S (zs_iconst (n := 0) (by decide +kernel) (by decide)) (zs_zret (by decide +kernel) rfl)) (gS_Model_readAll_98 hw)))))
def g_Model_readAll_74 : z_T := (zq 75 (zi_iload 2 75) (zq 78 (zi_sipush 1000 78) (zq 81 (zi_icmp_ge 209 81) (zq 82 (zi_iload 1 82) (zq 85 (zi_if_ne 209 85) (zi_aload 0 86))))))
theorem gS_Model_readAll_74 (hw : z_Wd w) : z_S w zY_Model_readAll 74 g_Model_readAll_74 := (zq_S (zs_iload_n (k9 := 2) (by decide +kernel) rfl) (zq_S (zs_sipush (n := 1000) (by decide +kernel) (by decide)) (zq_S (zs_icmp_ge (off := 131) (by decide +kernel) (by decide)) (zq_S (zs_iload_n (k9 := 1) (by decide +kernel) rfl) (zq_S (zs_if_ne (off := 127) (by decide +kernel) (by decide)) (zs_aload_n (k9 := 0) (by decide +kernel) rfl))))))
def g_Model_readAll_70 : z_T := (zq 71 (zi_iconst 0 71) (zq 72 (zi_istore 1 72) (zq 73 (zi_iconst 0 73) (zi_istore 2 74))))
theorem gS_Model_readAll_70 (hw : z_Wd w) : z_S w zY_Model_readAll 70 g_Model_readAll_70 := (zq_S (zs_iconst (n := 0) (by decide +kernel) (by decide)) (zq_S (zs_istore_n (k9 := 1) (by decide +kernel) rfl (by decide)) (zq_S (zs_iconst (n := 0) (by decide +kernel) (by decide)) (zs_istore_n (k9 := 2) (by decide +kernel) rfl (by decide)))))
def g_Model_readAll_64 : z_T := (zq 67 (zi_iinc 1 1 67) (zi_goto 22))
theorem gS_Model_readAll_64 (hw : z_Wd w) : z_S w zY_Model_readAll 64 g_Model_readAll_64 := (zq_S (zs_iinc (n := 1) (by decide +kernel) (by decide) (by decide)) (zs_goto (off := -45) (by decide +kernel) (by decide)))
def g_Model_readAll_63 : z_T := (zi_zret)
theorem gS_Model_readAll_63 (hw : z_Wd w) : z_S w zY_Model_readAll 63 g_Model_readAll_63 := (zs_zret (by decide +kernel) rfl)
def g_Model_readAll_54 : z_T := (zb 57 64 (zi_icmp_eq 64 57) (zq 58 (zi_aload 0 58) (zq 59 (zi_iconst 1 59) (zi_iload 1 60))) g_Model_readAll_64)
theorem gS_Model_readAll_54 (hw : z_Wd w) : z_S w zY_Model_readAll 54 g_Model_readAll_54 := (zb_S (zs_icmp_eq (off := 10) (by decide +kernel) (by decide)) (zq_S (zs_aload_n (k9 := 0) (by decide +kernel) rfl) (zq_S (zs_iconst (n := 1) (by decide +kernel) (by decide)) (zs_iload_n (k9 := 1) (by decide +kernel) rfl))) (gS_Model_readAll_64 hw))
def g_Model_readAll_51 : z_T := (zi_sipush 237 54)
theorem gS_Model_readAll_51 (hw : z_Wd w) : z_S w zY_Model_readAll 51 g_Model_readAll_51 := (zs_sipush (n := 237) (by decide +kernel) (by decide))
def g_Model_readAll_41 : z_T := (zq 42 (zi_iload 1 42) (zb 45 51 (zi_if_ne 51 45) (zq 48 (zi_sipush 172 48) (zi_goto 54)) g_Model_readAll_51))
theorem gS_Model_readAll_41 (hw : z_Wd w) : z_S w zY_Model_readAll 41 g_Model_readAll_41 := (zq_S (zs_iload_n (k9 := 1) (by decide +kernel) rfl) (zb_S (zs_if_ne (off := 9) (by decide +kernel) (by decide)) (zq_S (zs_sipush (n := 172) (by decide +kernel) (by decide)) (zs_goto (off := 6) (by decide +kernel) (by decide))) (gS_Model_readAll_51 hw)))
def g_Model_readAll_37 : z_T := (zi_aload 0 38)
theorem gS_Model_readAll_37 (hw : z_Wd w) : z_S w zY_Model_readAll 37 g_Model_readAll_37 := (zs_aload_n (k9 := 0) (by decide +kernel) rfl)
def g_Model_readAll_32 : z_T := (zb 35 37 (zi_if_ne 37 35) (zq 36 (zi_iconst 0 36) (zi_zret)) g_Model_readAll_37)
theorem gS_Model_readAll_32 (hw : z_Wd w) : z_S w zY_Model_readAll 32 g_Model_readAll_32 := (zb_S (zs_if_ne (off := 5) (by decide +kernel) (by decide)) (zq_S (zs_iconst (n := 0) (by decide +kernel) (by decide)) (zs_zret (by decide +kernel) rfl)) (gS_Model_readAll_37 hw))
def g_Model_readAll_22 : z_T := (zq 23 (zi_iload 1 23) (zq 24 (zi_iconst 2 24) (zb 27 70 (zi_icmp_ge 70 27) (zq 28 (zi_aload 0 28) (zi_iconst 1 29)) g_Model_readAll_70)))
theorem gS_Model_readAll_22 (hw : z_Wd w) : z_S w zY_Model_readAll 22 g_Model_readAll_22 := (zq_S (zs_iload_n (k9 := 1) (by decide +kernel) rfl) (zq_S (zs_iconst (n := 2) (by decide +kernel) (by decide)) (zb_S (zs_icmp_ge (off := 46) (by decide +kernel) (by decide)) (zq_S (zs_aload_n (k9 := 0) (by decide +kernel) rfl) (zs_iconst (n := 1) (by decide +kernel) (by decide))) (gS_Model_readAll_70 hw))))
def g_Model_readAll_20 : z_T := (zq 21 (zi_iconst 0 21) (zi_istore 1 22))
theorem gS_Model_readAll_20 (hw : z_Wd w) : z_S w zY_Model_readAll 20 g_Model_readAll_20 := (zq_S (zs_iconst (n := 0) (by decide +kernel) (by decide)) (zs_istore_n (k9 := 1) (by decide +kernel) rfl (by decide)))
def g_Model_readAll_19 : z_T := (zi_zret)
theorem gS_Model_readAll_19 (hw : z_Wd w) : z_S w zY_Model_readAll 19 g_Model_readAll_19 := (zs_zret (by decide +kernel) rfl)
def g_Model_readAll_0 : z_T := (zq 1 (zi_aload 0 1) (zq 4 (zi_get 7 12 4) (zq 5 (zi_aload 0 5) (zq 8 (zi_get 7 14 8) (zq 9 (zi_iconst 0 9) (zq 10 (zi_iald 10) (zb 13 20 (zi_icmp_le 20 13) (zq 14 (zi_aload 0 14) (zq 15 (zi_iconst 3 15) (zi_iconst 0 16))) g_Model_readAll_20)))))))
theorem gS_Model_readAll_0 (hw : z_Wd w) : z_S w zY_Model_readAll 0 g_Model_readAll_0 := (zq_S (zs_aload_n (k9 := 0) (by decide +kernel) rfl) (zq_S (zs_get hw.1 (by decide +kernel) (zf_Model_144 hw)) (zq_S (zs_aload_n (k9 := 0) (by decide +kernel) rfl) (zq_S (zs_get hw.1 (by decide +kernel) (zf_Model_48 hw)) (zq_S (zs_iconst (n := 0) (by decide +kernel) (by decide)) (zq_S (zs_iald hw.1 (by decide +kernel)) (zb_S (zs_icmp_le (off := 10) (by decide +kernel) (by decide)) (zq_S (zs_aload_n (k9 := 0) (by decide +kernel) rfl) (zq_S (zs_iconst (n := 3) (by decide +kernel) (by decide)) (zs_iconst (n := 0) (by decide +kernel) (by decide)))) (gS_Model_readAll_20 hw))))))))
def g_Model_becomeThings_252 : z_T := (zi_vret)
theorem gS_Model_becomeThings_252 (hw : z_Wd w) : z_S w zY_Model_becomeThings 252 g_Model_becomeThings_252 := (zs_vret (by decide +kernel) rfl)
def g_Model_becomeThings_246 : z_T := (zq 249 (zi_iinc 1 1 249) (zi_goto 12))
theorem gS_Model_becomeThings_246 (hw : z_Wd w) : z_S w zY_Model_becomeThings 246 g_Model_becomeThings_246 := (zq_S (zs_iinc (n := 1) (by decide +kernel) (by decide) (by decide)) (zs_goto (off := -237) (by decide +kernel) (by decide)))
def g_Model_becomeThings_241 : z_T := (zq 243 (zi_istore 4 243) (zi_goto 123))
theorem gS_Model_becomeThings_241 (hw : z_Wd w) : z_S w zY_Model_becomeThings 241 g_Model_becomeThings_241 := (zq_S (zs_istore (by decide +kernel) (by decide)) (zs_goto (off := -120) (by decide +kernel) (by decide)))
def g_Model_becomeThings_234 : z_T := (zq 235 (zi_aload 0 235) (zq 236 (zi_iconst 1 236) (zi_iload 4 238)))
theorem gS_Model_becomeThings_234 (hw : z_Wd w) : z_S w zY_Model_becomeThings 234 g_Model_becomeThings_234 := (zq_S (zs_aload_n (k9 := 0) (by decide +kernel) rfl) (zq_S (zs_iconst (n := 1) (by decide +kernel) (by decide)) (zs_iload (by decide +kernel))))
def g_Model_becomeThings_227 : z_T := (zq 228 (zi_last 228) (zq 231 (zi_iinc 5 1 231) (zi_goto 131)))
theorem gS_Model_becomeThings_227 (hw : z_Wd w) : z_S w zY_Model_becomeThings 227 g_Model_becomeThings_227 := (zq_S (zs_last hw.1 (by decide +kernel)) (zq_S (zs_iinc (n := 1) (by decide +kernel) (by decide) (by decide)) (zs_goto (off := -100) (by decide +kernel) (by decide))))
def g_Model_becomeThings_209 : z_T := (zq 210 (zi_aload 0 210) (zq 213 (zi_get 7 10 213) (zq 215 (zi_bipush 60 215) (zq 216 (zi_iload 3 216) (zq 217 (zi_imul 217) (zq 219 (zi_bipush 10 219) (zq 221 (zi_iload 4 221) (zq 222 (zi_imul 222) (zq 223 (zi_iadd 223) (zq 225 (zi_iload 5 225) (zq 226 (zi_iadd 226) (zq 227 (zi_lald 227) g_Model_becomeThings_227))))))))))))
theorem gS_Model_becomeThings_209 (hw : z_Wd w) : z_S w zY_Model_becomeThings 209 g_Model_becomeThings_209 := (zq_S (zs_aload_n (k9 := 0) (by decide +kernel) rfl) (zq_S (zs_get hw.1 (by decide +kernel) (zf_Model_38 hw)) (zq_S (zs_bipush (n := 60) (by decide +kernel) (by decide)) (zq_S (zs_iload_n (k9 := 3) (by decide +kernel) rfl) (zq_S (zs_imul (by decide +kernel)) (zq_S (zs_bipush (n := 10) (by decide +kernel) (by decide)) (zq_S (zs_iload (by decide +kernel)) (zq_S (zs_imul (by decide +kernel)) (zq_S (zs_iadd (by decide +kernel)) (zq_S (zs_iload (by decide +kernel)) (zq_S (zs_iadd (by decide +kernel)) (zq_S (zs_lald hw.1 (by decide +kernel)) (gS_Model_becomeThings_227 hw)))))))))))))
def g_Model_becomeThings_164 : z_T := (zq 166 (zi_istore 6 166) (zq 167 (zi_aload 0 167) (zq 170 (zi_get 7 10 170) (zq 172 (zi_bipush 60 172) (zq 173 (zi_iload 3 173) (zq 174 (zi_imul 174) (zq 176 (zi_bipush 10 176) (zq 178 (zi_iload 4 178) (zq 179 (zi_imul 179) (zq 180 (zi_iadd 180) (zq 182 (zi_iload 5 182) (zq 183 (zi_iadd 183) (zq 185 (zi_iload 6 185) (zb 188 209 (zi_if_eq 209 188) (zq 189 (zi_aload 0 189) (zq 192 (zi_get 7 36 192) (zq 194 (zi_bipush 60 194) (zq 195 (zi_iload 1 195) (zq 196 (zi_imul 196) (zq 198 (zi_bipush 10 198) (zq 200 (zi_iload 4 200) (zq 201 (zi_imul 201) (zq 202 (zi_iadd 202) (zq 204 (zi_iload 5 204) (zq 205 (zi_iadd 205) (zq 206 (zi_lald 206) (zq 227 (zi_goto 227) g_Model_becomeThings_227))))))))))))) g_Model_becomeThings_209))))))))))))))
theorem gS_Model_becomeThings_164 (hw : z_Wd w) : z_S w zY_Model_becomeThings 164 g_Model_becomeThings_164 := (zq_S (zs_istore (by decide +kernel) (by decide)) (zq_S (zs_aload_n (k9 := 0) (by decide +kernel) rfl) (zq_S (zs_get hw.1 (by decide +kernel) (zf_Model_38 hw)) (zq_S (zs_bipush (n := 60) (by decide +kernel) (by decide)) (zq_S (zs_iload_n (k9 := 3) (by decide +kernel) rfl) (zq_S (zs_imul (by decide +kernel)) (zq_S (zs_bipush (n := 10) (by decide +kernel) (by decide)) (zq_S (zs_iload (by decide +kernel)) (zq_S (zs_imul (by decide +kernel)) (zq_S (zs_iadd (by decide +kernel)) (zq_S (zs_iload (by decide +kernel)) (zq_S (zs_iadd (by decide +kernel)) (zq_S (zs_iload (by decide +kernel)) (zb_S (zs_if_eq (off := 24) (by decide +kernel) (by decide)) (zq_S (zs_aload_n (k9 := 0) (by decide +kernel) rfl) (zq_S (zs_get hw.1 (by decide +kernel) (zf_Model_97 hw)) (zq_S (zs_bipush (n := 60) (by decide +kernel) (by decide)) (zq_S (zs_iload_n (k9 := 1) (by decide +kernel) rfl) (zq_S (zs_imul (by decide +kernel)) (zq_S (zs_bipush (n := 10) (by decide +kernel) (by decide)) (zq_S (zs_iload (by decide +kernel)) (zq_S (zs_imul (by decide +kernel)) (zq_S (zs_iadd (by decide +kernel)) (zq_S (zs_iload (by decide +kernel)) (zq_S (zs_iadd (by decide +kernel)) (zq_S (zs_lald hw.1 (by decide +kernel)) (zq_S (zs_goto (off := 21) (by decide +kernel) (by decide)) (gS_Model_becomeThings_227 hw)))))))))))))) (gS_Model_becomeThings_209 hw)))))))))))))))
def g_Model_becomeThings_163 : z_T := (zi_iconst 0 164)
theorem gS_Model_becomeThings_163 (hw : z_Wd w) : z_S w zY_Model_becomeThings 163 g_Model_becomeThings_163 := (zs_iconst (n := 0) (by decide +kernel) (by decide))
def g_Model_becomeThings_131 : z_T := (zq 133 (zi_iload 5 133) (zq 135 (zi_bipush 10 135) (zb 138 234 (zi_icmp_ge 234 138) (zq 139 (zi_aload 0 139) (zq 142 (zi_get 7 37 142) (zq 144 (zi_bipush 6 144) (zq 145 (zi_iload 1 145) (zq 146 (zi_imul 146) (zq 148 (zi_iload 4 148) (zq 149 (zi_iadd 149) (zq 150 (zi_iald 150) (zq 152 (zi_iload 5 152) (zq 153 (zi_ishr 153) (zq 154 (zi_iconst 1 154) (zq 155 (zi_iand 155) (zq 156 (zi_iconst 1 156) (zb 159 163 (zi_icmp_ne 163 159) (zq 160 (zi_iconst 1 160) (zi_goto 164)) g_Model_becomeThings_163)))))))))))))) g_Model_becomeThings_234)))
theorem gS_Model_becomeThings_131 (hw : z_Wd w) : z_S w zY_Model_becomeThings 131 g_Model_becomeThings_131 := (zq_S (zs_iload (by decide +kernel)) (zq_S (zs_bipush (n := 10) (by decide +kernel) (by decide)) (zb_S (zs_icmp_ge (off := 99) (by decide +kernel) (by decide)) (zq_S (zs_aload_n (k9 := 0) (by decide +kernel) rfl) (zq_S (zs_get hw.1 (by decide +kernel) (zf_Model_100 hw)) (zq_S (zs_bipush (n := 6) (by decide +kernel) (by decide)) (zq_S (zs_iload_n (k9 := 1) (by decide +kernel) rfl) (zq_S (zs_imul (by decide +kernel)) (zq_S (zs_iload (by decide +kernel)) (zq_S (zs_iadd (by decide +kernel)) (zq_S (zs_iald hw.1 (by decide +kernel)) (zq_S (zs_iload (by decide +kernel)) (zq_S (zs_ishr (by decide +kernel)) (zq_S (zs_iconst (n := 1) (by decide +kernel) (by decide)) (zq_S (zs_iand (by decide +kernel)) (zq_S (zs_iconst (n := 1) (by decide +kernel) (by decide)) (zb_S (zs_icmp_ne (off := 7) (by decide +kernel) (by decide)) (zq_S (zs_iconst (n := 1) (by decide +kernel) (by decide)) (zs_goto (off := 4) (by decide +kernel) (by decide))) (gS_Model_becomeThings_163 hw))))))))))))))) (gS_Model_becomeThings_234 hw))))
def g_Model_becomeThings_123 : z_T := (zq 125 (zi_iload 4 125) (zb 128 246 (zi_if_lt 246 128) (zq 129 (zi_iconst 0 129) (zi_istore 5 131)) g_Model_becomeThings_246))
theorem gS_Model_becomeThings_123 (hw : z_Wd w) : z_S w zY_Model_becomeThings 123 g_Model_becomeThings_123 := (zq_S (zs_iload (by decide +kernel)) (zb_S (zs_if_lt (off := 121) (by decide +kernel) (by decide)) (zq_S (zs_iconst (n := 0) (by decide +kernel) (by decide)) (zs_istore (by decide +kernel) (by decide))) (gS_Model_becomeThings_246 hw)))
def g_Model_becomeThings_115 : z_T := (zq 116 (zi_aload 0 116) (zq 119 (zi_get 7 8 119) (zq 120 (zi_iload 3 120) (zq 121 (zi_iald 121) (zi_istore 4 123)))))
theorem gS_Model_becomeThings_115 (hw : z_Wd w) : z_S w zY_Model_becomeThings 115 g_Model_becomeThings_115 := (zq_S (zs_aload_n (k9 := 0) (by decide +kernel) rfl) (zq_S (zs_get hw.1 (by decide +kernel) (zf_Model_32 hw)) (zq_S (zs_iload_n (k9 := 3) (by decide +kernel) rfl) (zq_S (zs_iald hw.1 (by decide +kernel)) (zs_istore (by decide +kernel) (by decide))))))
def g_Model_becomeThings_109 : z_T := (zq 110 (zi_aload 0 110) (zq 111 (zi_iload 3 111) (zi_iconst 1 112)))
theorem gS_Model_becomeThings_109 (hw : z_Wd w) : z_S w zY_Model_becomeThings 109 g_Model_becomeThings_109 := (zq_S (zs_aload_n (k9 := 0) (by decide +kernel) rfl) (zq_S (zs_iload_n (k9 := 3) (by decide +kernel) rfl) (zs_iconst (n := 1) (by decide +kernel) (by decide))))
def g_Model_becomeThings_75 : z_T := (zq 77 (zi_iload 4 77) (zq 78 (zi_iconst 5 78) (zb 81 109 (zi_icmp_ge 109 81) (zq 82 (zi_aload 0 82) (zq 85 (zi_get 7 11 85) (zq 86 (zi_iconst 5 86) (zq 87 (zi_iload 3 87) (zq 88 (zi_imul 88) (zq 90 (zi_iload 4 90) (zq 91 (zi_iadd 91) (zq 92 (zi_aload 0 92) (zq 95 (zi_get 7 38 95) (zq 96 (zi_iconst 5 96) (zq 97 (zi_iload 1 97) (zq 98 (zi_imul 98) (zq 100 (zi_iload 4 100) (zq 101 (zi_iadd 101) (zq 102 (zi_iald 102) (zq 103 (zi_iast 103) (zq 106 (zi_iinc 4 1 106) (zi_goto 75)))))))))))))))))) g_Model_becomeThings_109)))
theorem gS_Model_becomeThings_75 (hw : z_Wd w) : z_S w zY_Model_becomeThings 75 g_Model_becomeThings_75 := (zq_S (zs_iload (by decide +kernel)) (zq_S (zs_iconst (n := 5) (by decide +kernel) (by decide)) (zb_S (zs_icmp_ge (off := 31) (by decide +kernel) (by decide)) (zq_S (zs_aload_n (k9 := 0) (by decide +kernel) rfl) (zq_S (zs_get hw.1 (by decide +kernel) (zf_Model_42 hw)) (zq_S (zs_iconst (n := 5) (by decide +kernel) (by decide)) (zq_S (zs_iload_n (k9 := 3) (by decide +kernel) rfl) (zq_S (zs_imul (by decide +kernel)) (zq_S (zs_iload (by decide +kernel)) (zq_S (zs_iadd (by decide +kernel)) (zq_S (zs_aload_n (k9 := 0) (by decide +kernel) rfl) (zq_S (zs_get hw.1 (by decide +kernel) (zf_Model_103 hw)) (zq_S (zs_iconst (n := 5) (by decide +kernel) (by decide)) (zq_S (zs_iload_n (k9 := 1) (by decide +kernel) rfl) (zq_S (zs_imul (by decide +kernel)) (zq_S (zs_iload (by decide +kernel)) (zq_S (zs_iadd (by decide +kernel)) (zq_S (zs_iald hw.1 (by decide +kernel)) (zq_S (zs_iast hw.1 (by decide +kernel)) (zq_S (zs_iinc (n := 1) (by decide +kernel) (by decide) (by decide)) (zs_goto (off := -31) (by decide +kernel) (by decide))))))))))))))))))) (gS_Model_becomeThings_109 hw))))
def g_Model_becomeThings_71 : z_T := (zq 72 (zi_iast 72) (zq 73 (zi_iconst 0 73) (zi_istore 4 75)))
theorem gS_Model_becomeThings_71 (hw : z_Wd w) : z_S w zY_Model_becomeThings 71 g_Model_becomeThings_71 := (zq_S (zs_iast hw.1 (by decide +kernel)) (zq_S (zs_iconst (n := 0) (by decide +kernel) (by decide)) (zs_istore (by decide +kernel) (by decide))))
def g_Model_becomeThings_70 : z_T := (zq 71 (zi_iconst (-1) 71) g_Model_becomeThings_71)
theorem gS_Model_becomeThings_70 (hw : z_Wd w) : z_S w zY_Model_becomeThings 70 g_Model_becomeThings_70 := (zq_S (zs_iconst (n := (-1)) (by decide +kernel) (by decide)) (gS_Model_becomeThings_71 hw))
def g_Model_becomeThings_51 : z_T := (zq 52 (zi_iast 52) (zq 53 (zi_aload 0 53) (zq 56 (zi_get 7 9 56) (zq 57 (zi_iload 3 57) (zq 58 (zi_iload 2 58) (zb 61 70 (zi_if_ge 70 61) (zq 62 (zi_aload 0 62) (zq 65 (zi_get 7 35 65) (zq 66 (zi_iload 1 66) (zq 67 (zi_iald 67) (zq 71 (zi_goto 71) g_Model_becomeThings_71))))) g_Model_becomeThings_70))))))
theorem gS_Model_becomeThings_51 (hw : z_Wd w) : z_S w zY_Model_becomeThings 51 g_Model_becomeThings_51 := (zq_S (zs_iast hw.1 (by decide +kernel)) (zq_S (zs_aload_n (k9 := 0) (by decide +kernel) rfl) (zq_S (zs_get hw.1 (by decide +kernel) (zf_Model_35 hw)) (zq_S (zs_iload_n (k9 := 3) (by decide +kernel) rfl) (zq_S (zs_iload_n (k9 := 2) (by decide +kernel) rfl) (zb_S (zs_if_ge (off := 12) (by decide +kernel) (by decide)) (zq_S (zs_aload_n (k9 := 0) (by decide +kernel) rfl) (zq_S (zs_get hw.1 (by decide +kernel) (zf_Model_94 hw)) (zq_S (zs_iload_n (k9 := 1) (by decide +kernel) rfl) (zq_S (zs_iald hw.1 (by decide +kernel)) (zq_S (zs_goto (off := 4) (by decide +kernel) (by decide)) (gS_Model_becomeThings_71 hw)))))) (gS_Model_becomeThings_70 hw)))))))
def g_Model_becomeThings_45 : z_T := (zq 46 (zi_aload 0 46) (zq 49 (zi_get 7 26 49) (zq 50 (zi_iload 2 50) (zi_iald 51))))
theorem gS_Model_becomeThings_45 (hw : z_Wd w) : z_S w zY_Model_becomeThings 45 g_Model_becomeThings_45 := (zq_S (zs_aload_n (k9 := 0) (by decide +kernel) rfl) (zq_S (zs_get hw.1 (by decide +kernel) (zf_Model_70 hw)) (zq_S (zs_iload_n (k9 := 2) (by decide +kernel) rfl) (zs_iald hw.1 (by decide +kernel)))))
def g_Model_becomeThings_12 : z_T := (zq 13 (zi_iload 1 13) (zq 14 (zi_aload 0 14) (zq 17 (zi_get 7 33 17) (zb 20 252 (zi_icmp_ge 252 20) (zq 21 (zi_aload 0 21) (zq 24 (zi_get 7 34 24) (zq 25 (zi_iload 1 25) (zq 26 (zi_iald 26) (zq 27 (zi_istore 2 27) (zq 29 (zi_bipush 40 29) (zq 30 (zi_iload 1 30) (zq 31 (zi_iadd 31) (zq 32 (zi_istore 3 32) (zq 33 (zi_aload 0 33) (zq 36 (zi_get 7 8 36) (zq 37 (zi_iload 3 37) (zq 38 (zi_iload 2 38) (zb 41 45 (zi_if_ge 45 41) (zq 42 (zi_iconst (-1) 42) (zi_goto 51)) g_Model_becomeThings_45)))))))))))))) g_Model_becomeThings_252))))
theorem gS_Model_becomeThings_12 (hw : z_Wd w) : z_S w zY_Model_becomeThings 12 g_Model_becomeThings_12 := (zq_S (zs_iload_n (k9 := 1) (by decide +kernel) rfl) (zq_S (zs_aload_n (k9 := 0) (by decide +kernel) rfl) (zq_S (zs_get hw.1 (by decide +kernel) (zf_Model_218 hw)) (zb_S (zs_icmp_ge (off := 235) (by decide +kernel) (by decide)) (zq_S (zs_aload_n (k9 := 0) (by decide +kernel) rfl) (zq_S (zs_get hw.1 (by decide +kernel) (zf_Model_91 hw)) (zq_S (zs_iload_n (k9 := 1) (by decide +kernel) rfl) (zq_S (zs_iald hw.1 (by decide +kernel)) (zq_S (zs_istore_n (k9 := 2) (by decide +kernel) rfl (by decide)) (zq_S (zs_bipush (n := 40) (by decide +kernel) (by decide)) (zq_S (zs_iload_n (k9 := 1) (by decide +kernel) rfl) (zq_S (zs_iadd (by decide +kernel)) (zq_S (zs_istore_n (k9 := 3) (by decide +kernel) rfl (by decide)) (zq_S (zs_aload_n (k9 := 0) (by decide +kernel) rfl) (zq_S (zs_get hw.1 (by decide +kernel) (zf_Model_32 hw)) (zq_S (zs_iload_n (k9 := 3) (by decide +kernel) rfl) (zq_S (zs_iload_n (k9 := 2) (by decide +kernel) rfl) (zb_S (zs_if_ge (off := 7) (by decide +kernel) (by decide)) (zq_S (zs_iconst (n := (-1)) (by decide +kernel) (by decide)) (zs_goto (off := 9) (by decide +kernel) (by decide))) (gS_Model_becomeThings_45 hw))))))))))))))) (gS_Model_becomeThings_252 hw)))))
def g_Model_becomeThings_0 : z_T := (zq 1 (zi_aload 0 1) (zq 4 (zi_get 7 7 4) (zq 5 (zi_iconst 1 5) (zq 6 (zi_aload 0 6) (zq 9 (zi_get 7 33 9) (zq 10 (zi_iast 10) (zq 11 (zi_iconst 0 11) (zi_istore 1 12))))))))
theorem gS_Model_becomeThings_0 (hw : z_Wd w) : z_S w zY_Model_becomeThings 0 g_Model_becomeThings_0 := (zq_S (zs_aload_n (k9 := 0) (by decide +kernel) rfl) (zq_S (zs_get hw.1 (by decide +kernel) (zf_Model_29 hw)) (zq_S (zs_iconst (n := 1) (by decide +kernel) (by decide)) (zq_S (zs_aload_n (k9 := 0) (by decide +kernel) rfl) (zq_S (zs_get hw.1 (by decide +kernel) (zf_Model_218 hw)) (zq_S (zs_iast hw.1 (by decide +kernel)) (zq_S (zs_iconst (n := 0) (by decide +kernel) (by decide)) (zs_istore_n (k9 := 1) (by decide +kernel) rfl (by decide)))))))))
def g_Model_read_76 : z_T := (zi_iret)
theorem gS_Model_read_76 (hw : z_Wd w) : z_S w zY_Model_read 76 g_Model_read_76 := (zs_iret (by decide +kernel) rfl)
def g_Model_read_75 : z_T := (zq 76 (zi_iconst 0 76) g_Model_read_76)
theorem gS_Model_read_75 (hw : z_Wd w) : z_S w zY_Model_read 75 g_Model_read_75 := (zq_S (zs_iconst (n := 0) (by decide +kernel) (by decide)) (gS_Model_read_76 hw))
def g_Model_read_64 : z_T := (zq 65 (zi_iload 1 65) (zb 68 75 (zi_if_eq 75 68) (zq 69 (zi_aload 0 69) (zq 72 (zi_get 7 33 72) (zq 76 (zi_goto 76) g_Model_read_76))) g_Model_read_75))
theorem gS_Model_read_64 (hw : z_Wd w) : z_S w zY_Model_read 64 g_Model_read_64 := (zq_S (zs_iload_n (k9 := 1) (by decide +kernel) rfl) (zb_S (zs_if_eq (off := 10) (by decide +kernel) (by decide)) (zq_S (zs_aload_n (k9 := 0) (by decide +kernel) rfl) (zq_S (zs_get hw.1 (by decide +kernel) (zf_Model_218 hw)) (zq_S (zs_goto (off := 4) (by decide +kernel) (by decide)) (gS_Model_read_76 hw)))) (gS_Model_read_75 hw)))
def g_Model_read_53 : z_T := (zq 56 (zi_put 7 0 (.int) 56) (zq 57 (zi_iload 1 57) (zb 60 64 (zi_if_eq 64 60) (zi_aload 0 61) g_Model_read_64)))
theorem gS_Model_read_53 (hw : z_Wd w) : z_S w zY_Model_read 53 g_Model_read_53 := (zq_S (zs_put hw.1 (by decide +kernel) (zp_Model_106 hw) (fun h => by cases h)) (zq_S (zs_iload_n (k9 := 1) (by decide +kernel) rfl) (zb_S (zs_if_eq (off := 7) (by decide +kernel) (by decide)) (zs_aload_n (k9 := 0) (by decide +kernel) rfl) (gS_Model_read_64 hw))))
def g_Model_read_49 : z_T := (zq 50 (zi_aload 0 50) (zi_get 7 24 53))
theorem gS_Model_read_49 (hw : z_Wd w) : z_S w zY_Model_read 49 g_Model_read_49 := (zq_S (zs_aload_n (k9 := 0) (by decide +kernel) rfl) (zs_get hw.1 (by decide +kernel) (zf_Model_178 hw)))
def g_Model_read_39 : z_T := (zq 40 (zi_istore 1 40) (zq 41 (zi_aload 0 41) (zq 42 (zi_iload 1 42) (zb 45 49 (zi_if_eq 49 45) (zq 46 (zi_iconst 0 46) (zi_goto 53)) g_Model_read_49))))
theorem gS_Model_read_39 (hw : z_Wd w) : z_S w zY_Model_read 39 g_Model_read_39 := (zq_S (zs_istore_n (k9 := 1) (by decide +kernel) rfl (by decide)) (zq_S (zs_aload_n (k9 := 0) (by decide +kernel) rfl) (zq_S (zs_iload_n (k9 := 1) (by decide +kernel) rfl) (zb_S (zs_if_eq (off := 7) (by decide +kernel) (by decide)) (zq_S (zs_iconst (n := 0) (by decide +kernel) (by decide)) (zs_goto (off := 7) (by decide +kernel) (by decide))) (gS_Model_read_49 hw)))))
def g_Model_read_0 : z_T := (zq 1 (zi_aload 0 1) (zq 2 (zi_iconst 0 2) (zq 5 (zi_put 7 23 (.int) 5) (zq 6 (zi_aload 0 6) (zq 7 (zi_iconst 0 7) (zq 10 (zi_put 7 24 (.int) 10) (zq 11 (zi_aload 0 11) (zq 12 (zi_iconst (-1) 12) (zq 15 (zi_put 7 15 (.int) 15) (zq 16 (zi_aload 0 16) (zq 17 (zi_iconst 0 17) (zq 20 (zi_put 7 16 (.int) 20) (zq 21 (zi_aload 0 21) (zq 22 (zi_iconst 0 22) (zq 25 (zi_put 7 25 (.int) 25) (zq 26 (zi_aload 0 26) (zq 27 (zi_iconst 0 27) (zq 30 (zi_put 7 33 (.int) 30) (zq 31 (zi_aload 0 31) (zq 32 (zi_iconst 0 32) (zq 35 (zi_put 7 20 (.int) 35) (zi_aload 0 36))))))))))))))))))))))
theorem gS_Model_read_0 (hw : z_Wd w) : z_S w zY_Model_read 0 g_Model_read_0 := (zq_S (zs_aload_n (k9 := 0) (by decide +kernel) rfl) (zq_S (zs_iconst (n := 0) (by decide +kernel) (by decide)) (zq_S (zs_put hw.1 (by decide +kernel) (zp_Model_181 hw) (fun h => by cases h)) (zq_S (zs_aload_n (k9 := 0) (by decide +kernel) rfl) (zq_S (zs_iconst (n := 0) (by decide +kernel) (by decide)) (zq_S (zs_put hw.1 (by decide +kernel) (zp_Model_178 hw) (fun h => by cases h)) (zq_S (zs_aload_n (k9 := 0) (by decide +kernel) rfl) (zq_S (zs_iconst (n := (-1)) (by decide +kernel) (by decide)) (zq_S (zs_put hw.1 (by decide +kernel) (zp_Model_51 hw) (fun h => by cases h)) (zq_S (zs_aload_n (k9 := 0) (by decide +kernel) rfl) (zq_S (zs_iconst (n := 0) (by decide +kernel) (by decide)) (zq_S (zs_put hw.1 (by decide +kernel) (zp_Model_160 hw) (fun h => by cases h)) (zq_S (zs_aload_n (k9 := 0) (by decide +kernel) rfl) (zq_S (zs_iconst (n := 0) (by decide +kernel) (by decide)) (zq_S (zs_put hw.1 (by decide +kernel) (zp_Model_205 hw) (fun h => by cases h)) (zq_S (zs_aload_n (k9 := 0) (by decide +kernel) rfl) (zq_S (zs_iconst (n := 0) (by decide +kernel) (by decide)) (zq_S (zs_put hw.1 (by decide +kernel) (zp_Model_218 hw) (fun h => by cases h)) (zq_S (zs_aload_n (k9 := 0) (by decide +kernel) rfl) (zq_S (zs_iconst (n := 0) (by decide +kernel) (by decide)) (zq_S (zs_put hw.1 (by decide +kernel) (zp_Model_166 hw) (fun h => by cases h)) (zs_aload_n (k9 := 0) (by decide +kernel) rfl))))))))))))))))))))))
def g_Model_position_0 : z_T := (zq 1 (zi_aload 0 1) (zq 2 (zi_iconst 0 2) (zq 5 (zi_put 7 0 (.int) 5) (zq 6 (zi_aload 0 6) (zq 9 (zi_get 7 15 9) (zi_iret))))))
theorem gS_Model_position_0 (hw : z_Wd w) : z_S w zY_Model_position 0 g_Model_position_0 := (zq_S (zs_aload_n (k9 := 0) (by decide +kernel) rfl) (zq_S (zs_iconst (n := 0) (by decide +kernel) (by decide)) (zq_S (zs_put hw.1 (by decide +kernel) (zp_Model_106 hw) (fun h => by cases h)) (zq_S (zs_aload_n (k9 := 0) (by decide +kernel) rfl) (zq_S (zs_get hw.1 (by decide +kernel) (zf_Model_51 hw)) (zs_iret (by decide +kernel) rfl))))))
def g_Model_things_24 : z_T := (zi_iret)
theorem gS_Model_things_24 (hw : z_Wd w) : z_S w zY_Model_things 24 g_Model_things_24 := (zs_iret (by decide +kernel) rfl)
def g_Model_things_23 : z_T := (zq 24 (zi_iconst (-1) 24) g_Model_things_24)
theorem gS_Model_things_23 (hw : z_Wd w) : z_S w zY_Model_things 23 g_Model_things_23 := (zq_S (zs_iconst (n := (-1)) (by decide +kernel) (by decide)) (gS_Model_things_24 hw))
def g_Model_things_11 : z_T := (zb 14 23 (zi_if_eq 23 14) (zq 15 (zi_aload 0 15) (zq 18 (zi_get 7 7 18) (zq 19 (zi_iload 1 19) (zq 20 (zi_iald 20) (zq 24 (zi_goto 24) g_Model_things_24))))) g_Model_things_23)
theorem gS_Model_things_11 (hw : z_Wd w) : z_S w zY_Model_things 11 g_Model_things_11 := (zb_S (zs_if_eq (off := 12) (by decide +kernel) (by decide)) (zq_S (zs_aload_n (k9 := 0) (by decide +kernel) rfl) (zq_S (zs_get hw.1 (by decide +kernel) (zf_Model_29 hw)) (zq_S (zs_iload_n (k9 := 1) (by decide +kernel) rfl) (zq_S (zs_iald hw.1 (by decide +kernel)) (zq_S (zs_goto (off := 4) (by decide +kernel) (by decide)) (gS_Model_things_24 hw)))))) (gS_Model_things_23 hw))
def g_Model_things_0 : z_T := (zq 1 (zi_aload 0 1) (zq 2 (zi_iconst 0 2) (zq 5 (zi_put 7 0 (.int) 5) (zq 6 (zi_iload 1 6) (zq 7 (zi_iconst 0 7) (zi_iconst 1 8))))))
theorem gS_Model_things_0 (hw : z_Wd w) : z_S w zY_Model_things 0 g_Model_things_0 := (zq_S (zs_aload_n (k9 := 0) (by decide +kernel) rfl) (zq_S (zs_iconst (n := 0) (by decide +kernel) (by decide)) (zq_S (zs_put hw.1 (by decide +kernel) (zp_Model_106 hw) (fun h => by cases h)) (zq_S (zs_iload_n (k9 := 1) (by decide +kernel) rfl) (zq_S (zs_iconst (n := 0) (by decide +kernel) (by decide)) (zs_iconst (n := 1) (by decide +kernel) (by decide)))))))
def g_Model_thing_55 : z_T := (zi_iret)
theorem gS_Model_thing_55 (hw : z_Wd w) : z_S w zY_Model_thing 55 g_Model_thing_55 := (zs_iret (by decide +kernel) rfl)
def g_Model_thing_44 : z_T := (zq 45 (zi_aload 0 45) (zq 48 (zi_get 7 9 48) (zq 50 (zi_bipush 40 50) (zq 51 (zi_iload 1 51) (zq 52 (zi_imul 52) (zq 53 (zi_iload 2 53) (zq 54 (zi_iadd 54) (zq 55 (zi_iald 55) g_Model_thing_55))))))))
theorem gS_Model_thing_44 (hw : z_Wd w) : z_S w zY_Model_thing 44 g_Model_thing_44 := (zq_S (zs_aload_n (k9 := 0) (by decide +kernel) rfl) (zq_S (zs_get hw.1 (by decide +kernel) (zf_Model_35 hw)) (zq_S (zs_bipush (n := 40) (by decide +kernel) (by decide)) (zq_S (zs_iload_n (k9 := 1) (by decide +kernel) rfl) (zq_S (zs_imul (by decide +kernel)) (zq_S (zs_iload_n (k9 := 2) (by decide +kernel) rfl) (zq_S (zs_iadd (by decide +kernel)) (zq_S (zs_iald hw.1 (by decide +kernel)) (gS_Model_thing_55 hw)))))))))
def g_Model_thing_26 : z_T := (zq 27 (zi_iload 3 27) (zb 30 44 (zi_if_ne 44 30) (zq 31 (zi_aload 0 31) (zq 34 (zi_get 7 8 34) (zq 36 (zi_bipush 40 36) (zq 37 (zi_iload 1 37) (zq 38 (zi_imul 38) (zq 39 (zi_iload 2 39) (zq 40 (zi_iadd 40) (zq 41 (zi_iald 41) (zq 55 (zi_goto 55) g_Model_thing_55))))))))) g_Model_thing_44))
theorem gS_Model_thing_26 (hw : z_Wd w) : z_S w zY_Model_thing 26 g_Model_thing_26 := (zq_S (zs_iload_n (k9 := 3) (by decide +kernel) rfl) (zb_S (zs_if_ne (off := 17) (by decide +kernel) (by decide)) (zq_S (zs_aload_n (k9 := 0) (by decide +kernel) rfl) (zq_S (zs_get hw.1 (by decide +kernel) (zf_Model_32 hw)) (zq_S (zs_bipush (n := 40) (by decide +kernel) (by decide)) (zq_S (zs_iload_n (k9 := 1) (by decide +kernel) rfl) (zq_S (zs_imul (by decide +kernel)) (zq_S (zs_iload_n (k9 := 2) (by decide +kernel) rfl) (zq_S (zs_iadd (by decide +kernel)) (zq_S (zs_iald hw.1 (by decide +kernel)) (zq_S (zs_goto (off := 14) (by decide +kernel) (by decide)) (gS_Model_thing_55 hw)))))))))) (gS_Model_thing_44 hw)))
def g_Model_thing_23 : z_T := (zq 25 (zi_bipush (-2) 25) (zi_iret))
theorem gS_Model_thing_23 (hw : z_Wd w) : z_S w zY_Model_thing 23 g_Model_thing_23 := (zq_S (zs_bipush (n := (-2)) (by decide +kernel) (by decide)) (zs_iret (by decide +kernel) rfl))
def g_Model_thing_20 : z_T := (zb 23 26 (zi_if_ne 26 23) g_Model_thing_23 g_Model_thing_26)
theorem gS_Model_thing_20 (hw : z_Wd w) : z_S w zY_Model_thing 20 g_Model_thing_20 := (zb_S (zs_if_ne (off := 6) (by decide +kernel) (by decide)) (gS_Model_thing_23 hw) (gS_Model_thing_26 hw))
def g_Model_thing_11 : z_T := (zb 14 23 (zi_if_eq 23 14) (zq 15 (zi_iload 3 15) (zq 16 (zi_iconst 0 16) (zi_iconst 1 17))) g_Model_thing_23)
theorem gS_Model_thing_11 (hw : z_Wd w) : z_S w zY_Model_thing 11 g_Model_thing_11 := (zb_S (zs_if_eq (off := 12) (by decide +kernel) (by decide)) (zq_S (zs_iload_n (k9 := 3) (by decide +kernel) rfl) (zq_S (zs_iconst (n := 0) (by decide +kernel) (by decide)) (zs_iconst (n := 1) (by decide +kernel) (by decide)))) (gS_Model_thing_23 hw))
def g_Model_thing_0 : z_T := (zq 1 (zi_aload 0 1) (zq 2 (zi_iconst 0 2) (zq 5 (zi_put 7 0 (.int) 5) (zq 6 (zi_aload 0 6) (zq 7 (zi_iload 1 7) (zi_iload 2 8))))))
theorem gS_Model_thing_0 (hw : z_Wd w) : z_S w zY_Model_thing 0 g_Model_thing_0 := (zq_S (zs_aload_n (k9 := 0) (by decide +kernel) rfl) (zq_S (zs_iconst (n := 0) (by decide +kernel) (by decide)) (zq_S (zs_put hw.1 (by decide +kernel) (zp_Model_106 hw) (fun h => by cases h)) (zq_S (zs_aload_n (k9 := 0) (by decide +kernel) rfl) (zq_S (zs_iload_n (k9 := 1) (by decide +kernel) rfl) (zs_iload_n (k9 := 2) (by decide +kernel) rfl))))))
def g_Model_get_43 : z_T := (zi_lret)
theorem gS_Model_get_43 (hw : z_Wd w) : z_S w zY_Model_get 43 g_Model_get_43 := (zs_lret (by decide +kernel) rfl)
def g_Model_get_42 : z_T := (zq 43 (zi_lconst 0 43) g_Model_get_43)
theorem gS_Model_get_42 (hw : z_Wd w) : z_S w zY_Model_get 42 g_Model_get_42 := (zq_S (zs_lconst (n := 0) (by decide +kernel) (by decide)) (gS_Model_get_43 hw))
def g_Model_get_14 : z_T := (zb 17 42 (zi_if_lt 42 17) (zq 18 (zi_aload 0 18) (zq 21 (zi_get 7 10 21) (zq 23 (zi_bipush 60 23) (zq 25 (zi_bipush 40 25) (zq 26 (zi_iload 1 26) (zq 27 (zi_imul 27) (zq 28 (zi_iload 2 28) (zq 29 (zi_iadd 29) (zq 30 (zi_imul 30) (zq 32 (zi_bipush 10 32) (zq 33 (zi_iload 3 33) (zq 34 (zi_imul 34) (zq 35 (zi_iadd 35) (zq 37 (zi_iload 4 37) (zq 38 (zi_iadd 38) (zq 39 (zi_lald 39) (zq 43 (zi_goto 43) g_Model_get_43))))))))))))))))) g_Model_get_42)
theorem gS_Model_get_14 (hw : z_Wd w) : z_S w zY_Model_get 14 g_Model_get_14 := (zb_S (zs_if_lt (off := 28) (by decide +kernel) (by decide)) (zq_S (zs_aload_n (k9 := 0) (by decide +kernel) rfl) (zq_S (zs_get hw.1 (by decide +kernel) (zf_Model_38 hw)) (zq_S (zs_bipush (n := 60) (by decide +kernel) (by decide)) (zq_S (zs_bipush (n := 40) (by decide +kernel) (by decide)) (zq_S (zs_iload_n (k9 := 1) (by decide +kernel) rfl) (zq_S (zs_imul (by decide +kernel)) (zq_S (zs_iload_n (k9 := 2) (by decide +kernel) rfl) (zq_S (zs_iadd (by decide +kernel)) (zq_S (zs_imul (by decide +kernel)) (zq_S (zs_bipush (n := 10) (by decide +kernel) (by decide)) (zq_S (zs_iload_n (k9 := 3) (by decide +kernel) rfl) (zq_S (zs_imul (by decide +kernel)) (zq_S (zs_iadd (by decide +kernel)) (zq_S (zs_iload (by decide +kernel)) (zq_S (zs_iadd (by decide +kernel)) (zq_S (zs_lald hw.1 (by decide +kernel)) (zq_S (zs_goto (off := 4) (by decide +kernel) (by decide)) (gS_Model_get_43 hw)))))))))))))))))) (gS_Model_get_42 hw))
def g_Model_get_0 : z_T := (zq 1 (zi_aload 0 1) (zq 2 (zi_iconst 0 2) (zq 5 (zi_put 7 0 (.int) 5) (zq 6 (zi_aload 0 6) (zq 7 (zi_iload 1 7) (zq 8 (zi_iload 2 8) (zq 9 (zi_iload 3 9) (zi_iload 4 11))))))))
theorem gS_Model_get_0 (hw : z_Wd w) : z_S w zY_Model_get 0 g_Model_get_0 := (zq_S (zs_aload_n (k9 := 0) (by decide +kernel) rfl) (zq_S (zs_iconst (n := 0) (by decide +kernel) (by decide)) (zq_S (zs_put hw.1 (by decide +kernel) (zp_Model_106 hw) (fun h => by cases h)) (zq_S (zs_aload_n (k9 := 0) (by decide +kernel) rfl) (zq_S (zs_iload_n (k9 := 1) (by decide +kernel) rfl) (zq_S (zs_iload_n (k9 := 2) (by decide +kernel) rfl) (zq_S (zs_iload_n (k9 := 3) (by decide +kernel) rfl) (zs_iload (by decide +kernel)))))))))
def g_Model_goes_36 : z_T := (zq 37 (zi_aload 0 37) (zq 40 (zi_get 7 11 40) (zq 41 (zi_iconst 5 41) (zq 43 (zi_bipush 40 43) (zq 44 (zi_iload 1 44) (zq 45 (zi_imul 45) (zq 46 (zi_iload 2 46) (zq 47 (zi_iadd 47) (zq 48 (zi_imul 48) (zq 49 (zi_iload 3 49) (zq 50 (zi_iadd 50) (zq 51 (zi_iald 51) (zi_iret)))))))))))))
theorem gS_Model_goes_36 (hw : z_Wd w) : z_S w zY_Model_goes 36 g_Model_goes_36 := (zq_S (zs_aload_n (k9 := 0) (by decide +kernel) rfl) (zq_S (zs_get hw.1 (by decide +kernel) (zf_Model_42 hw)) (zq_S (zs_iconst (n := 5) (by decide +kernel) (by decide)) (zq_S (zs_bipush (n := 40) (by decide +kernel) (by decide)) (zq_S (zs_iload_n (k9 := 1) (by decide +kernel) rfl) (zq_S (zs_imul (by decide +kernel)) (zq_S (zs_iload_n (k9 := 2) (by decide +kernel) rfl) (zq_S (zs_iadd (by decide +kernel)) (zq_S (zs_imul (by decide +kernel)) (zq_S (zs_iload_n (k9 := 3) (by decide +kernel) rfl) (zq_S (zs_iadd (by decide +kernel)) (zq_S (zs_iald hw.1 (by decide +kernel)) (zs_iret (by decide +kernel) rfl)))))))))))))
def g_Model_goes_33 : z_T := (zq 35 (zi_bipush (-2) 35) (zi_iret))
theorem gS_Model_goes_33 (hw : z_Wd w) : z_S w zY_Model_goes 33 g_Model_goes_33 := (zq_S (zs_bipush (n := (-2)) (by decide +kernel) (by decide)) (zs_iret (by decide +kernel) rfl))
def g_Model_goes_11 : z_T := (zb 14 33 (zi_if_eq 33 14) (zq 15 (zi_iload 3 15) (zb 18 33 (zi_if_lt 33 18) (zq 19 (zi_iload 3 19) (zq 20 (zi_aload 0 20) (zq 23 (zi_get 7 9 23) (zq 25 (zi_bipush 40 25) (zq 26 (zi_iload 1 26) (zq 27 (zi_imul 27) (zq 28 (zi_iload 2 28) (zq 29 (zi_iadd 29) (zq 30 (zi_iald 30) (zb 33 36 (zi_icmp_lt 36 33) g_Model_goes_33 g_Model_goes_36)))))))))) g_Model_goes_33)) g_Model_goes_33)
theorem gS_Model_goes_11 (hw : z_Wd w) : z_S w zY_Model_goes 11 g_Model_goes_11 := (zb_S (zs_if_eq (off := 22) (by decide +kernel) (by decide)) (zq_S (zs_iload_n (k9 := 3) (by decide +kernel) rfl) (zb_S (zs_if_lt (off := 18) (by decide +kernel) (by decide)) (zq_S (zs_iload_n (k9 := 3) (by decide +kernel) rfl) (zq_S (zs_aload_n (k9 := 0) (by decide +kernel) rfl) (zq_S (zs_get hw.1 (by decide +kernel) (zf_Model_35 hw)) (zq_S (zs_bipush (n := 40) (by decide +kernel) (by decide)) (zq_S (zs_iload_n (k9 := 1) (by decide +kernel) rfl) (zq_S (zs_imul (by decide +kernel)) (zq_S (zs_iload_n (k9 := 2) (by decide +kernel) rfl) (zq_S (zs_iadd (by decide +kernel)) (zq_S (zs_iald hw.1 (by decide +kernel)) (zb_S (zs_icmp_lt (off := 6) (by decide +kernel) (by decide)) (gS_Model_goes_33 hw) (gS_Model_goes_36 hw))))))))))) (gS_Model_goes_33 hw))) (gS_Model_goes_33 hw))
def g_Model_goes_0 : z_T := (zq 1 (zi_aload 0 1) (zq 2 (zi_iconst 0 2) (zq 5 (zi_put 7 0 (.int) 5) (zq 6 (zi_aload 0 6) (zq 7 (zi_iload 1 7) (zi_iload 2 8))))))
theorem gS_Model_goes_0 (hw : z_Wd w) : z_S w zY_Model_goes 0 g_Model_goes_0 := (zq_S (zs_aload_n (k9 := 0) (by decide +kernel) rfl) (zq_S (zs_iconst (n := 0) (by decide +kernel) (by decide)) (zq_S (zs_put hw.1 (by decide +kernel) (zp_Model_106 hw) (fun h => by cases h)) (zq_S (zs_aload_n (k9 := 0) (by decide +kernel) rfl) (zq_S (zs_iload_n (k9 := 1) (by decide +kernel) rfl) (zs_iload_n (k9 := 2) (by decide +kernel) rfl))))))
end ZG
end
section
section ZG
variable {w : z_W}
def g_Law_read_20 : z_T := (zq 21 (zi_iconst 0 21) (zi_iret))
theorem gS_Law_read_20 (hw : z_Wd w) : z_S w zY_Law_read 20 g_Law_read_20 := (zq_S (zs_iconst (n := 0) (by decide +kernel) (by decide)) (zs_iret (by decide +kernel) rfl))
def g_Law_read_6 : z_T := (zq 7 (zi_i2l 7) (zq 8 (zi_last 8) (zq 20 (zi_goto 20) g_Law_read_20)))
theorem gS_Law_read_6 (hw : z_Wd w) : z_S w zY_Law_read 6 g_Law_read_6 := (zq_S (zs_i2l (by decide +kernel)) (zq_S (zs_last hw.1 (by decide +kernel)) (zq_S (zs_goto (off := 12) (by decide +kernel) (by decide)) (gS_Law_read_20 hw))))
def g_Law_read_0 : z_T := (zq 1 (zi_aload 1 1) (zq 2 (zi_iconst 0 2) (zi_aload 0 3)))
theorem gS_Law_read_0 (hw : z_Wd w) : z_S w zY_Law_read 0 g_Law_read_0 := (zq_S (zs_aload_n (k9 := 1) (by decide +kernel) rfl) (zq_S (zs_iconst (n := 0) (by decide +kernel) (by decide)) (zs_aload_n (k9 := 0) (by decide +kernel) rfl)))
def g_Law_law_850 : z_T := (zq 851 (zi_iconst 1 851) (zi_zret))
theorem gS_Law_law_850 (hw : z_Wd w) : z_S w zY_Law_law 850 g_Law_law_850 := (zq_S (zs_iconst (n := 1) (by decide +kernel) (by decide)) (zs_zret (by decide +kernel) rfl))
def g_Law_law_844 : z_T := (zq 847 (zi_iinc 4 6 847) (zi_goto 23))
theorem gS_Law_law_844 (hw : z_Wd w) : z_S w zY_Law_law 844 g_Law_law_844 := (zq_S (zs_iinc (n := 6) (by decide +kernel) (by decide) (by decide)) (zs_goto (off := -824) (by decide +kernel) (by decide)))
def g_Law_law_839 : z_T := (zb 842 844 (zi_icmp_eq 844 842) (zq 843 (zi_iconst 0 843) (zi_zret)) g_Law_law_844)
theorem gS_Law_law_839 (hw : z_Wd w) : z_S w zY_Law_law 839 g_Law_law_839 := (zb_S (zs_icmp_eq (off := 5) (by decide +kernel) (by decide)) (zq_S (zs_iconst (n := 0) (by decide +kernel) (by decide)) (zs_zret (by decide +kernel) rfl)) (gS_Law_law_844 hw))
def g_Law_law_817 : z_T := (zq 818 (zi_aload 2 818) (zq 819 (zi_aload 0 819) (zq 821 (zi_iload 4 821) (zq 822 (zi_iconst 1 822) (zq 823 (zi_iadd 823) (zq 824 (zi_iald 824) (zq 825 (zi_aload 0 825) (zq 827 (zi_iload 4 827) (zq 828 (zi_iconst 2 828) (zq 829 (zi_iadd 829) (zq 830 (zi_iald 830) (zq 831 (zi_aload 0 831) (zq 833 (zi_iload 4 833) (zq 834 (zi_iconst 3 834) (zq 835 (zi_iadd 835) (zi_iald 836))))))))))))))))
theorem gS_Law_law_817 (hw : z_Wd w) : z_S w zY_Law_law 817 g_Law_law_817 := (zq_S (zs_aload_n (k9 := 2) (by decide +kernel) rfl) (zq_S (zs_aload_n (k9 := 0) (by decide +kernel) rfl) (zq_S (zs_iload (by decide +kernel)) (zq_S (zs_iconst (n := 1) (by decide +kernel) (by decide)) (zq_S (zs_iadd (by decide +kernel)) (zq_S (zs_iald hw.1 (by decide +kernel)) (zq_S (zs_aload_n (k9 := 0) (by decide +kernel) rfl) (zq_S (zs_iload (by decide +kernel)) (zq_S (zs_iconst (n := 2) (by decide +kernel) (by decide)) (zq_S (zs_iadd (by decide +kernel)) (zq_S (zs_iald hw.1 (by decide +kernel)) (zq_S (zs_aload_n (k9 := 0) (by decide +kernel) rfl) (zq_S (zs_iload (by decide +kernel)) (zq_S (zs_iconst (n := 3) (by decide +kernel) (by decide)) (zq_S (zs_iadd (by decide +kernel)) (zs_iald hw.1 (by decide +kernel)))))))))))))))))
def g_Law_law_795 : z_T := (zq 796 (zi_aload 1 796) (zq 797 (zi_aload 0 797) (zq 799 (zi_iload 4 799) (zq 800 (zi_iconst 1 800) (zq 801 (zi_iadd 801) (zq 802 (zi_iald 802) (zq 803 (zi_aload 0 803) (zq 805 (zi_iload 4 805) (zq 806 (zi_iconst 2 806) (zq 807 (zi_iadd 807) (zq 808 (zi_iald 808) (zq 809 (zi_aload 0 809) (zq 811 (zi_iload 4 811) (zq 812 (zi_iconst 3 812) (zq 813 (zi_iadd 813) (zi_iald 814))))))))))))))))
theorem gS_Law_law_795 (hw : z_Wd w) : z_S w zY_Law_law 795 g_Law_law_795 := (zq_S (zs_aload_n (k9 := 1) (by decide +kernel) rfl) (zq_S (zs_aload_n (k9 := 0) (by decide +kernel) rfl) (zq_S (zs_iload (by decide +kernel)) (zq_S (zs_iconst (n := 1) (by decide +kernel) (by decide)) (zq_S (zs_iadd (by decide +kernel)) (zq_S (zs_iald hw.1 (by decide +kernel)) (zq_S (zs_aload_n (k9 := 0) (by decide +kernel) rfl) (zq_S (zs_iload (by decide +kernel)) (zq_S (zs_iconst (n := 2) (by decide +kernel) (by decide)) (zq_S (zs_iadd (by decide +kernel)) (zq_S (zs_iald hw.1 (by decide +kernel)) (zq_S (zs_aload_n (k9 := 0) (by decide +kernel) rfl) (zq_S (zs_iload (by decide +kernel)) (zq_S (zs_iconst (n := 3) (by decide +kernel) (by decide)) (zq_S (zs_iadd (by decide +kernel)) (zs_iald hw.1 (by decide +kernel)))))))))))))))))
def g_Law_law_789 : z_T := (zq 790 (zi_lcmp 790) (zb 793 844 (zi_if_eq 844 793) (zq 794 (zi_iconst 0 794) (zi_zret)) g_Law_law_844))
theorem gS_Law_law_789 (hw : z_Wd w) : z_S w zY_Law_law 789 g_Law_law_789 := (zq_S (zs_lcmp (by decide +kernel)) (zb_S (zs_if_eq (off := 54) (by decide +kernel) (by decide)) (zq_S (zs_iconst (n := 0) (by decide +kernel) (by decide)) (zs_zret (by decide +kernel) rfl)) (gS_Law_law_844 hw)))
def g_Law_law_761 : z_T := (zq 762 (zi_aload 2 762) (zq 763 (zi_aload 0 763) (zq 765 (zi_iload 4 765) (zq 766 (zi_iconst 1 766) (zq 767 (zi_iadd 767) (zq 768 (zi_iald 768) (zq 769 (zi_aload 0 769) (zq 771 (zi_iload 4 771) (zq 772 (zi_iconst 2 772) (zq 773 (zi_iadd 773) (zq 774 (zi_iald 774) (zq 775 (zi_aload 0 775) (zq 777 (zi_iload 4 777) (zq 778 (zi_iconst 3 778) (zq 779 (zi_iadd 779) (zq 780 (zi_iald 780) (zq 781 (zi_aload 0 781) (zq 783 (zi_iload 4 783) (zq 784 (zi_iconst 4 784) (zq 785 (zi_iadd 785) (zi_iald 786)))))))))))))))))))))
theorem gS_Law_law_761 (hw : z_Wd w) : z_S w zY_Law_law 761 g_Law_law_761 := (zq_S (zs_aload_n (k9 := 2) (by decide +kernel) rfl) (zq_S (zs_aload_n (k9 := 0) (by decide +kernel) rfl) (zq_S (zs_iload (by decide +kernel)) (zq_S (zs_iconst (n := 1) (by decide +kernel) (by decide)) (zq_S (zs_iadd (by decide +kernel)) (zq_S (zs_iald hw.1 (by decide +kernel)) (zq_S (zs_aload_n (k9 := 0) (by decide +kernel) rfl) (zq_S (zs_iload (by decide +kernel)) (zq_S (zs_iconst (n := 2) (by decide +kernel) (by decide)) (zq_S (zs_iadd (by decide +kernel)) (zq_S (zs_iald hw.1 (by decide +kernel)) (zq_S (zs_aload_n (k9 := 0) (by decide +kernel) rfl) (zq_S (zs_iload (by decide +kernel)) (zq_S (zs_iconst (n := 3) (by decide +kernel) (by decide)) (zq_S (zs_iadd (by decide +kernel)) (zq_S (zs_iald hw.1 (by decide +kernel)) (zq_S (zs_aload_n (k9 := 0) (by decide +kernel) rfl) (zq_S (zs_iload (by decide +kernel)) (zq_S (zs_iconst (n := 4) (by decide +kernel) (by decide)) (zq_S (zs_iadd (by decide +kernel)) (zs_iald hw.1 (by decide +kernel))))))))))))))))))))))
def g_Law_law_733 : z_T := (zq 734 (zi_aload 1 734) (zq 735 (zi_aload 0 735) (zq 737 (zi_iload 4 737) (zq 738 (zi_iconst 1 738) (zq 739 (zi_iadd 739) (zq 740 (zi_iald 740) (zq 741 (zi_aload 0 741) (zq 743 (zi_iload 4 743) (zq 744 (zi_iconst 2 744) (zq 745 (zi_iadd 745) (zq 746 (zi_iald 746) (zq 747 (zi_aload 0 747) (zq 749 (zi_iload 4 749) (zq 750 (zi_iconst 3 750) (zq 751 (zi_iadd 751) (zq 752 (zi_iald 752) (zq 753 (zi_aload 0 753) (zq 755 (zi_iload 4 755) (zq 756 (zi_iconst 4 756) (zq 757 (zi_iadd 757) (zi_iald 758)))))))))))))))))))))
theorem gS_Law_law_733 (hw : z_Wd w) : z_S w zY_Law_law 733 g_Law_law_733 := (zq_S (zs_aload_n (k9 := 1) (by decide +kernel) rfl) (zq_S (zs_aload_n (k9 := 0) (by decide +kernel) rfl) (zq_S (zs_iload (by decide +kernel)) (zq_S (zs_iconst (n := 1) (by decide +kernel) (by decide)) (zq_S (zs_iadd (by decide +kernel)) (zq_S (zs_iald hw.1 (by decide +kernel)) (zq_S (zs_aload_n (k9 := 0) (by decide +kernel) rfl) (zq_S (zs_iload (by decide +kernel)) (zq_S (zs_iconst (n := 2) (by decide +kernel) (by decide)) (zq_S (zs_iadd (by decide +kernel)) (zq_S (zs_iald hw.1 (by decide +kernel)) (zq_S (zs_aload_n (k9 := 0) (by decide +kernel) rfl) (zq_S (zs_iload (by decide +kernel)) (zq_S (zs_iconst (n := 3) (by decide +kernel) (by decide)) (zq_S (zs_iadd (by decide +kernel)) (zq_S (zs_iald hw.1 (by decide +kernel)) (zq_S (zs_aload_n (k9 := 0) (by decide +kernel) rfl) (zq_S (zs_iload (by decide +kernel)) (zq_S (zs_iconst (n := 4) (by decide +kernel) (by decide)) (zq_S (zs_iadd (by decide +kernel)) (zs_iald hw.1 (by decide +kernel))))))))))))))))))))))
def g_Law_law_728 : z_T := (zb 731 844 (zi_icmp_eq 844 731) (zq 732 (zi_iconst 0 732) (zi_zret)) g_Law_law_844)
theorem gS_Law_law_728 (hw : z_Wd w) : z_S w zY_Law_law 728 g_Law_law_728 := (zb_S (zs_icmp_eq (off := 116) (by decide +kernel) (by decide)) (zq_S (zs_iconst (n := 0) (by decide +kernel) (by decide)) (zs_zret (by decide +kernel) rfl)) (gS_Law_law_844 hw))
def g_Law_law_706 : z_T := (zq 707 (zi_aload 2 707) (zq 708 (zi_aload 0 708) (zq 710 (zi_iload 4 710) (zq 711 (zi_iconst 1 711) (zq 712 (zi_iadd 712) (zq 713 (zi_iald 713) (zq 714 (zi_aload 0 714) (zq 716 (zi_iload 4 716) (zq 717 (zi_iconst 2 717) (zq 718 (zi_iadd 718) (zq 719 (zi_iald 719) (zq 720 (zi_aload 0 720) (zq 722 (zi_iload 4 722) (zq 723 (zi_iconst 3 723) (zq 724 (zi_iadd 724) (zi_iald 725))))))))))))))))
theorem gS_Law_law_706 (hw : z_Wd w) : z_S w zY_Law_law 706 g_Law_law_706 := (zq_S (zs_aload_n (k9 := 2) (by decide +kernel) rfl) (zq_S (zs_aload_n (k9 := 0) (by decide +kernel) rfl) (zq_S (zs_iload (by decide +kernel)) (zq_S (zs_iconst (n := 1) (by decide +kernel) (by decide)) (zq_S (zs_iadd (by decide +kernel)) (zq_S (zs_iald hw.1 (by decide +kernel)) (zq_S (zs_aload_n (k9 := 0) (by decide +kernel) rfl) (zq_S (zs_iload (by decide +kernel)) (zq_S (zs_iconst (n := 2) (by decide +kernel) (by decide)) (zq_S (zs_iadd (by decide +kernel)) (zq_S (zs_iald hw.1 (by decide +kernel)) (zq_S (zs_aload_n (k9 := 0) (by decide +kernel) rfl) (zq_S (zs_iload (by decide +kernel)) (zq_S (zs_iconst (n := 3) (by decide +kernel) (by decide)) (zq_S (zs_iadd (by decide +kernel)) (zs_iald hw.1 (by decide +kernel)))))))))))))))))
def g_Law_law_684 : z_T := (zq 685 (zi_aload 1 685) (zq 686 (zi_aload 0 686) (zq 688 (zi_iload 4 688) (zq 689 (zi_iconst 1 689) (zq 690 (zi_iadd 690) (zq 691 (zi_iald 691) (zq 692 (zi_aload 0 692) (zq 694 (zi_iload 4 694) (zq 695 (zi_iconst 2 695) (zq 696 (zi_iadd 696) (zq 697 (zi_iald 697) (zq 698 (zi_aload 0 698) (zq 700 (zi_iload 4 700) (zq 701 (zi_iconst 3 701) (zq 702 (zi_iadd 702) (zi_iald 703))))))))))))))))
theorem gS_Law_law_684 (hw : z_Wd w) : z_S w zY_Law_law 684 g_Law_law_684 := (zq_S (zs_aload_n (k9 := 1) (by decide +kernel) rfl) (zq_S (zs_aload_n (k9 := 0) (by decide +kernel) rfl) (zq_S (zs_iload (by decide +kernel)) (zq_S (zs_iconst (n := 1) (by decide +kernel) (by decide)) (zq_S (zs_iadd (by decide +kernel)) (zq_S (zs_iald hw.1 (by decide +kernel)) (zq_S (zs_aload_n (k9 := 0) (by decide +kernel) rfl) (zq_S (zs_iload (by decide +kernel)) (zq_S (zs_iconst (n := 2) (by decide +kernel) (by decide)) (zq_S (zs_iadd (by decide +kernel)) (zq_S (zs_iald hw.1 (by decide +kernel)) (zq_S (zs_aload_n (k9 := 0) (by decide +kernel) rfl) (zq_S (zs_iload (by decide +kernel)) (zq_S (zs_iconst (n := 3) (by decide +kernel) (by decide)) (zq_S (zs_iadd (by decide +kernel)) (zs_iald hw.1 (by decide +kernel)))))))))))))))))
def g_Law_law_679 : z_T := (zb 682 844 (zi_icmp_eq 844 682) (zq 683 (zi_iconst 0 683) (zi_zret)) g_Law_law_844)
theorem gS_Law_law_679 (hw : z_Wd w) : z_S w zY_Law_law 679 g_Law_law_679 := (zb_S (zs_icmp_eq (off := 165) (by decide +kernel) (by decide)) (zq_S (zs_iconst (n := 0) (by decide +kernel) (by decide)) (zs_zret (by decide +kernel) rfl)) (gS_Law_law_844 hw))
def g_Law_law_669 : z_T := (zq 670 (zi_aload 2 670) (zq 671 (zi_aload 0 671) (zq 673 (zi_iload 4 673) (zq 674 (zi_iconst 1 674) (zq 675 (zi_iadd 675) (zi_iald 676))))))
theorem gS_Law_law_669 (hw : z_Wd w) : z_S w zY_Law_law 669 g_Law_law_669 := (zq_S (zs_aload_n (k9 := 2) (by decide +kernel) rfl) (zq_S (zs_aload_n (k9 := 0) (by decide +kernel) rfl) (zq_S (zs_iload (by decide +kernel)) (zq_S (zs_iconst (n := 1) (by decide +kernel) (by decide)) (zq_S (zs_iadd (by decide +kernel)) (zs_iald hw.1 (by decide +kernel)))))))
def g_Law_law_659 : z_T := (zq 660 (zi_aload 1 660) (zq 661 (zi_aload 0 661) (zq 663 (zi_iload 4 663) (zq 664 (zi_iconst 1 664) (zq 665 (zi_iadd 665) (zi_iald 666))))))
theorem gS_Law_law_659 (hw : z_Wd w) : z_S w zY_Law_law 659 g_Law_law_659 := (zq_S (zs_aload_n (k9 := 1) (by decide +kernel) rfl) (zq_S (zs_aload_n (k9 := 0) (by decide +kernel) rfl) (zq_S (zs_iload (by decide +kernel)) (zq_S (zs_iconst (n := 1) (by decide +kernel) (by decide)) (zq_S (zs_iadd (by decide +kernel)) (zs_iald hw.1 (by decide +kernel)))))))
def g_Law_law_654 : z_T := (zb 657 844 (zi_icmp_eq 844 657) (zq 658 (zi_iconst 0 658) (zi_zret)) g_Law_law_844)
theorem gS_Law_law_654 (hw : z_Wd w) : z_S w zY_Law_law 654 g_Law_law_654 := (zb_S (zs_icmp_eq (off := 190) (by decide +kernel) (by decide)) (zq_S (zs_iconst (n := 0) (by decide +kernel) (by decide)) (zs_zret (by decide +kernel) rfl)) (gS_Law_law_844 hw))
def g_Law_law_650 : z_T := (zi_aload 2 651)
theorem gS_Law_law_650 (hw : z_Wd w) : z_S w zY_Law_law 650 g_Law_law_650 := (zs_aload_n (k9 := 2) (by decide +kernel) rfl)
def g_Law_law_646 : z_T := (zi_aload 1 647)
theorem gS_Law_law_646 (hw : z_Wd w) : z_S w zY_Law_law 646 g_Law_law_646 := (zs_aload_n (k9 := 1) (by decide +kernel) rfl)
def g_Law_law_643 : z_T := (zq 844 (zi_goto 844) g_Law_law_844)
theorem gS_Law_law_643 (hw : z_Wd w) : z_S w zY_Law_law 643 g_Law_law_643 := (zq_S (zs_goto (off := 201) (by decide +kernel) (by decide)) (gS_Law_law_844 hw))
def g_Law_law_626 : z_T := (zq 628 (zi_iload 5 628) (zb 631 643 (zi_if_ne 643 631) (zq 632 (zi_aload 3 632) (zq 633 (zi_iconst 0 633) (zq 634 (zi_lald 634) (zq 636 (zi_iload 6 636) (zq 637 (zi_i2l 637) (zq 638 (zi_lcmp 638) (zb 641 643 (zi_if_eq 643 641) (zq 642 (zi_iconst 0 642) (zi_zret)) g_Law_law_643))))))) g_Law_law_643))
theorem gS_Law_law_626 (hw : z_Wd w) : z_S w zY_Law_law 626 g_Law_law_626 := (zq_S (zs_iload (by decide +kernel)) (zb_S (zs_if_ne (off := 15) (by decide +kernel) (by decide)) (zq_S (zs_aload_n (k9 := 3) (by decide +kernel) rfl) (zq_S (zs_iconst (n := 0) (by decide +kernel) (by decide)) (zq_S (zs_lald hw.1 (by decide +kernel)) (zq_S (zs_iload (by decide +kernel)) (zq_S (zs_i2l (by decide +kernel)) (zq_S (zs_lcmp (by decide +kernel)) (zb_S (zs_if_eq (off := 5) (by decide +kernel) (by decide)) (zq_S (zs_iconst (n := 0) (by decide +kernel) (by decide)) (zs_zret (by decide +kernel) rfl)) (gS_Law_law_643 hw)))))))) (gS_Law_law_643 hw)))
def g_Law_law_619 : z_T := (zq 621 (zi_iload 5 621) (zb 624 626 (zi_icmp_eq 626 624) (zq 625 (zi_iconst 0 625) (zi_zret)) g_Law_law_626))
theorem gS_Law_law_619 (hw : z_Wd w) : z_S w zY_Law_law 619 g_Law_law_619 := (zq_S (zs_iload (by decide +kernel)) (zb_S (zs_icmp_eq (off := 5) (by decide +kernel) (by decide)) (zq_S (zs_iconst (n := 0) (by decide +kernel) (by decide)) (zs_zret (by decide +kernel) rfl)) (gS_Law_law_626 hw)))
def g_Law_law_613 : z_T := (zq 615 (zi_istore 6 615) (zi_aload 2 616))
theorem gS_Law_law_613 (hw : z_Wd w) : z_S w zY_Law_law 613 g_Law_law_613 := (zq_S (zs_istore (by decide +kernel) (by decide)) (zs_aload_n (k9 := 2) (by decide +kernel) rfl))
def g_Law_law_607 : z_T := (zq 609 (zi_istore 5 609) (zi_aload 2 610))
theorem gS_Law_law_607 (hw : z_Wd w) : z_S w zY_Law_law 607 g_Law_law_607 := (zq_S (zs_istore (by decide +kernel) (by decide)) (zs_aload_n (k9 := 2) (by decide +kernel) rfl))
def g_Law_law_602 : z_T := (zq 603 (zi_aload 1 603) (zi_aload 3 604))
theorem gS_Law_law_602 (hw : z_Wd w) : z_S w zY_Law_law 602 g_Law_law_602 := (zq_S (zs_aload_n (k9 := 1) (by decide +kernel) rfl) (zs_aload_n (k9 := 3) (by decide +kernel) rfl))
def g_Law_law_597 : z_T := (zb 600 844 (zi_icmp_eq 844 600) (zq 601 (zi_iconst 0 601) (zi_zret)) g_Law_law_844)
theorem gS_Law_law_597 (hw : z_Wd w) : z_S w zY_Law_law 597 g_Law_law_597 := (zb_S (zs_icmp_eq (off := 247) (by decide +kernel) (by decide)) (zq_S (zs_iconst (n := 0) (by decide +kernel) (by decide)) (zs_zret (by decide +kernel) rfl)) (gS_Law_law_844 hw))
def g_Law_law_581 : z_T := (zq 582 (zi_aload 2 582) (zq 583 (zi_aload 0 583) (zq 585 (zi_iload 4 585) (zq 586 (zi_iconst 1 586) (zq 587 (zi_iadd 587) (zq 588 (zi_iald 588) (zq 589 (zi_aload 0 589) (zq 591 (zi_iload 4 591) (zq 592 (zi_iconst 2 592) (zq 593 (zi_iadd 593) (zi_iald 594)))))))))))
theorem gS_Law_law_581 (hw : z_Wd w) : z_S w zY_Law_law 581 g_Law_law_581 := (zq_S (zs_aload_n (k9 := 2) (by decide +kernel) rfl) (zq_S (zs_aload_n (k9 := 0) (by decide +kernel) rfl) (zq_S (zs_iload (by decide +kernel)) (zq_S (zs_iconst (n := 1) (by decide +kernel) (by decide)) (zq_S (zs_iadd (by decide +kernel)) (zq_S (zs_iald hw.1 (by decide +kernel)) (zq_S (zs_aload_n (k9 := 0) (by decide +kernel) rfl) (zq_S (zs_iload (by decide +kernel)) (zq_S (zs_iconst (n := 2) (by decide +kernel) (by decide)) (zq_S (zs_iadd (by decide +kernel)) (zs_iald hw.1 (by decide +kernel))))))))))))
def g_Law_law_565 : z_T := (zq 566 (zi_aload 1 566) (zq 567 (zi_aload 0 567) (zq 569 (zi_iload 4 569) (zq 570 (zi_iconst 1 570) (zq 571 (zi_iadd 571) (zq 572 (zi_iald 572) (zq 573 (zi_aload 0 573) (zq 575 (zi_iload 4 575) (zq 576 (zi_iconst 2 576) (zq 577 (zi_iadd 577) (zi_iald 578)))))))))))
theorem gS_Law_law_565 (hw : z_Wd w) : z_S w zY_Law_law 565 g_Law_law_565 := (zq_S (zs_aload_n (k9 := 1) (by decide +kernel) rfl) (zq_S (zs_aload_n (k9 := 0) (by decide +kernel) rfl) (zq_S (zs_iload (by decide +kernel)) (zq_S (zs_iconst (n := 1) (by decide +kernel) (by decide)) (zq_S (zs_iadd (by decide +kernel)) (zq_S (zs_iald hw.1 (by decide +kernel)) (zq_S (zs_aload_n (k9 := 0) (by decide +kernel) rfl) (zq_S (zs_iload (by decide +kernel)) (zq_S (zs_iconst (n := 2) (by decide +kernel) (by decide)) (zq_S (zs_iadd (by decide +kernel)) (zs_iald hw.1 (by decide +kernel))))))))))))
def g_Law_law_560 : z_T := (zb 563 844 (zi_icmp_eq 844 563) (zq 564 (zi_iconst 0 564) (zi_zret)) g_Law_law_844)
theorem gS_Law_law_560 (hw : z_Wd w) : z_S w zY_Law_law 560 g_Law_law_560 := (zb_S (zs_icmp_eq (off := 284) (by decide +kernel) (by decide)) (zq_S (zs_iconst (n := 0) (by decide +kernel) (by decide)) (zs_zret (by decide +kernel) rfl)) (gS_Law_law_844 hw))
def g_Law_law_550 : z_T := (zq 551 (zi_aload 2 551) (zq 552 (zi_aload 0 552) (zq 554 (zi_iload 4 554) (zq 555 (zi_iconst 1 555) (zq 556 (zi_iadd 556) (zi_iald 557))))))
theorem gS_Law_law_550 (hw : z_Wd w) : z_S w zY_Law_law 550 g_Law_law_550 := (zq_S (zs_aload_n (k9 := 2) (by decide +kernel) rfl) (zq_S (zs_aload_n (k9 := 0) (by decide +kernel) rfl) (zq_S (zs_iload (by decide +kernel)) (zq_S (zs_iconst (n := 1) (by decide +kernel) (by decide)) (zq_S (zs_iadd (by decide +kernel)) (zs_iald hw.1 (by decide +kernel)))))))
def g_Law_law_540 : z_T := (zq 541 (zi_aload 1 541) (zq 542 (zi_aload 0 542) (zq 544 (zi_iload 4 544) (zq 545 (zi_iconst 1 545) (zq 546 (zi_iadd 546) (zi_iald 547))))))
theorem gS_Law_law_540 (hw : z_Wd w) : z_S w zY_Law_law 540 g_Law_law_540 := (zq_S (zs_aload_n (k9 := 1) (by decide +kernel) rfl) (zq_S (zs_aload_n (k9 := 0) (by decide +kernel) rfl) (zq_S (zs_iload (by decide +kernel)) (zq_S (zs_iconst (n := 1) (by decide +kernel) (by decide)) (zq_S (zs_iadd (by decide +kernel)) (zs_iald hw.1 (by decide +kernel)))))))
def g_Law_law_535 : z_T := (zb 538 844 (zi_icmp_eq 844 538) (zq 539 (zi_iconst 0 539) (zi_zret)) g_Law_law_844)
theorem gS_Law_law_535 (hw : z_Wd w) : z_S w zY_Law_law 535 g_Law_law_535 := (zb_S (zs_icmp_eq (off := 309) (by decide +kernel) (by decide)) (zq_S (zs_iconst (n := 0) (by decide +kernel) (by decide)) (zs_zret (by decide +kernel) rfl)) (gS_Law_law_844 hw))
def g_Law_law_519 : z_T := (zq 520 (zi_aload 2 520) (zq 521 (zi_aload 0 521) (zq 523 (zi_iload 4 523) (zq 524 (zi_iconst 1 524) (zq 525 (zi_iadd 525) (zq 526 (zi_iald 526) (zq 527 (zi_aload 0 527) (zq 529 (zi_iload 4 529) (zq 530 (zi_iconst 2 530) (zq 531 (zi_iadd 531) (zi_iald 532)))))))))))
theorem gS_Law_law_519 (hw : z_Wd w) : z_S w zY_Law_law 519 g_Law_law_519 := (zq_S (zs_aload_n (k9 := 2) (by decide +kernel) rfl) (zq_S (zs_aload_n (k9 := 0) (by decide +kernel) rfl) (zq_S (zs_iload (by decide +kernel)) (zq_S (zs_iconst (n := 1) (by decide +kernel) (by decide)) (zq_S (zs_iadd (by decide +kernel)) (zq_S (zs_iald hw.1 (by decide +kernel)) (zq_S (zs_aload_n (k9 := 0) (by decide +kernel) rfl) (zq_S (zs_iload (by decide +kernel)) (zq_S (zs_iconst (n := 2) (by decide +kernel) (by decide)) (zq_S (zs_iadd (by decide +kernel)) (zs_iald hw.1 (by decide +kernel))))))))))))
def g_Law_law_503 : z_T := (zq 504 (zi_aload 1 504) (zq 505 (zi_aload 0 505) (zq 507 (zi_iload 4 507) (zq 508 (zi_iconst 1 508) (zq 509 (zi_iadd 509) (zq 510 (zi_iald 510) (zq 511 (zi_aload 0 511) (zq 513 (zi_iload 4 513) (zq 514 (zi_iconst 2 514) (zq 515 (zi_iadd 515) (zi_iald 516)))))))))))
theorem gS_Law_law_503 (hw : z_Wd w) : z_S w zY_Law_law 503 g_Law_law_503 := (zq_S (zs_aload_n (k9 := 1) (by decide +kernel) rfl) (zq_S (zs_aload_n (k9 := 0) (by decide +kernel) rfl) (zq_S (zs_iload (by decide +kernel)) (zq_S (zs_iconst (n := 1) (by decide +kernel) (by decide)) (zq_S (zs_iadd (by decide +kernel)) (zq_S (zs_iald hw.1 (by decide +kernel)) (zq_S (zs_aload_n (k9 := 0) (by decide +kernel) rfl) (zq_S (zs_iload (by decide +kernel)) (zq_S (zs_iconst (n := 2) (by decide +kernel) (by decide)) (zq_S (zs_iadd (by decide +kernel)) (zs_iald hw.1 (by decide +kernel))))))))))))
def g_Law_law_498 : z_T := (zb 501 844 (zi_icmp_eq 844 501) (zq 502 (zi_iconst 0 502) (zi_zret)) g_Law_law_844)
theorem gS_Law_law_498 (hw : z_Wd w) : z_S w zY_Law_law 498 g_Law_law_498 := (zb_S (zs_icmp_eq (off := 346) (by decide +kernel) (by decide)) (zq_S (zs_iconst (n := 0) (by decide +kernel) (by decide)) (zs_zret (by decide +kernel) rfl)) (gS_Law_law_844 hw))
def g_Law_law_488 : z_T := (zq 489 (zi_aload 2 489) (zq 490 (zi_aload 0 490) (zq 492 (zi_iload 4 492) (zq 493 (zi_iconst 1 493) (zq 494 (zi_iadd 494) (zi_iald 495))))))
theorem gS_Law_law_488 (hw : z_Wd w) : z_S w zY_Law_law 488 g_Law_law_488 := (zq_S (zs_aload_n (k9 := 2) (by decide +kernel) rfl) (zq_S (zs_aload_n (k9 := 0) (by decide +kernel) rfl) (zq_S (zs_iload (by decide +kernel)) (zq_S (zs_iconst (n := 1) (by decide +kernel) (by decide)) (zq_S (zs_iadd (by decide +kernel)) (zs_iald hw.1 (by decide +kernel)))))))
def g_Law_law_478 : z_T := (zq 479 (zi_aload 1 479) (zq 480 (zi_aload 0 480) (zq 482 (zi_iload 4 482) (zq 483 (zi_iconst 1 483) (zq 484 (zi_iadd 484) (zi_iald 485))))))
theorem gS_Law_law_478 (hw : z_Wd w) : z_S w zY_Law_law 478 g_Law_law_478 := (zq_S (zs_aload_n (k9 := 1) (by decide +kernel) rfl) (zq_S (zs_aload_n (k9 := 0) (by decide +kernel) rfl) (zq_S (zs_iload (by decide +kernel)) (zq_S (zs_iconst (n := 1) (by decide +kernel) (by decide)) (zq_S (zs_iadd (by decide +kernel)) (zs_iald hw.1 (by decide +kernel)))))))
def g_Law_law_475 : z_T := (zq 844 (zi_goto 844) g_Law_law_844)
theorem gS_Law_law_475 (hw : z_Wd w) : z_S w zY_Law_law 475 g_Law_law_475 := (zq_S (zs_goto (off := 369) (by decide +kernel) (by decide)) (gS_Law_law_844 hw))
def g_Law_law_471 : z_T := (zi_aload 2 472)
theorem gS_Law_law_471 (hw : z_Wd w) : z_S w zY_Law_law 471 g_Law_law_471 := (zs_aload_n (k9 := 2) (by decide +kernel) rfl)
def g_Law_law_467 : z_T := (zi_aload 1 468)
theorem gS_Law_law_467 (hw : z_Wd w) : z_S w zY_Law_law 467 g_Law_law_467 := (zs_aload_n (k9 := 1) (by decide +kernel) rfl)
def g_Law_law_462 : z_T := (zb 465 844 (zi_icmp_eq 844 465) (zq 466 (zi_iconst 0 466) (zi_zret)) g_Law_law_844)
theorem gS_Law_law_462 (hw : z_Wd w) : z_S w zY_Law_law 462 g_Law_law_462 := (zb_S (zs_icmp_eq (off := 382) (by decide +kernel) (by decide)) (zq_S (zs_iconst (n := 0) (by decide +kernel) (by decide)) (zs_zret (by decide +kernel) rfl)) (gS_Law_law_844 hw))
def g_Law_law_452 : z_T := (zq 453 (zi_aload 2 453) (zq 454 (zi_aload 0 454) (zq 456 (zi_iload 4 456) (zq 457 (zi_iconst 1 457) (zq 458 (zi_iadd 458) (zi_iald 459))))))
theorem gS_Law_law_452 (hw : z_Wd w) : z_S w zY_Law_law 452 g_Law_law_452 := (zq_S (zs_aload_n (k9 := 2) (by decide +kernel) rfl) (zq_S (zs_aload_n (k9 := 0) (by decide +kernel) rfl) (zq_S (zs_iload (by decide +kernel)) (zq_S (zs_iconst (n := 1) (by decide +kernel) (by decide)) (zq_S (zs_iadd (by decide +kernel)) (zs_iald hw.1 (by decide +kernel)))))))
def g_Law_law_442 : z_T := (zq 443 (zi_aload 1 443) (zq 444 (zi_aload 0 444) (zq 446 (zi_iload 4 446) (zq 447 (zi_iconst 1 447) (zq 448 (zi_iadd 448) (zi_iald 449))))))
theorem gS_Law_law_442 (hw : z_Wd w) : z_S w zY_Law_law 442 g_Law_law_442 := (zq_S (zs_aload_n (k9 := 1) (by decide +kernel) rfl) (zq_S (zs_aload_n (k9 := 0) (by decide +kernel) rfl) (zq_S (zs_iload (by decide +kernel)) (zq_S (zs_iconst (n := 1) (by decide +kernel) (by decide)) (zq_S (zs_iadd (by decide +kernel)) (zs_iald hw.1 (by decide +kernel)))))))
def g_Law_law_437 : z_T := (zb 440 844 (zi_icmp_eq 844 440) (zq 441 (zi_iconst 0 441) (zi_zret)) g_Law_law_844)
theorem gS_Law_law_437 (hw : z_Wd w) : z_S w zY_Law_law 437 g_Law_law_437 := (zb_S (zs_icmp_eq (off := 407) (by decide +kernel) (by decide)) (zq_S (zs_iconst (n := 0) (by decide +kernel) (by decide)) (zs_zret (by decide +kernel) rfl)) (gS_Law_law_844 hw))
def g_Law_law_415 : z_T := (zq 416 (zi_aload 2 416) (zq 417 (zi_aload 0 417) (zq 419 (zi_iload 4 419) (zq 420 (zi_iconst 1 420) (zq 421 (zi_iadd 421) (zq 422 (zi_iald 422) (zq 423 (zi_aload 0 423) (zq 425 (zi_iload 4 425) (zq 426 (zi_iconst 2 426) (zq 427 (zi_iadd 427) (zq 428 (zi_iald 428) (zq 429 (zi_aload 0 429) (zq 431 (zi_iload 4 431) (zq 432 (zi_iconst 3 432) (zq 433 (zi_iadd 433) (zi_iald 434))))))))))))))))
theorem gS_Law_law_415 (hw : z_Wd w) : z_S w zY_Law_law 415 g_Law_law_415 := (zq_S (zs_aload_n (k9 := 2) (by decide +kernel) rfl) (zq_S (zs_aload_n (k9 := 0) (by decide +kernel) rfl) (zq_S (zs_iload (by decide +kernel)) (zq_S (zs_iconst (n := 1) (by decide +kernel) (by decide)) (zq_S (zs_iadd (by decide +kernel)) (zq_S (zs_iald hw.1 (by decide +kernel)) (zq_S (zs_aload_n (k9 := 0) (by decide +kernel) rfl) (zq_S (zs_iload (by decide +kernel)) (zq_S (zs_iconst (n := 2) (by decide +kernel) (by decide)) (zq_S (zs_iadd (by decide +kernel)) (zq_S (zs_iald hw.1 (by decide +kernel)) (zq_S (zs_aload_n (k9 := 0) (by decide +kernel) rfl) (zq_S (zs_iload (by decide +kernel)) (zq_S (zs_iconst (n := 3) (by decide +kernel) (by decide)) (zq_S (zs_iadd (by decide +kernel)) (zs_iald hw.1 (by decide +kernel)))))))))))))))))
def g_Law_law_393 : z_T := (zq 394 (zi_aload 1 394) (zq 395 (zi_aload 0 395) (zq 397 (zi_iload 4 397) (zq 398 (zi_iconst 1 398) (zq 399 (zi_iadd 399) (zq 400 (zi_iald 400) (zq 401 (zi_aload 0 401) (zq 403 (zi_iload 4 403) (zq 404 (zi_iconst 2 404) (zq 405 (zi_iadd 405) (zq 406 (zi_iald 406) (zq 407 (zi_aload 0 407) (zq 409 (zi_iload 4 409) (zq 410 (zi_iconst 3 410) (zq 411 (zi_iadd 411) (zi_iald 412))))))))))))))))
theorem gS_Law_law_393 (hw : z_Wd w) : z_S w zY_Law_law 393 g_Law_law_393 := (zq_S (zs_aload_n (k9 := 1) (by decide +kernel) rfl) (zq_S (zs_aload_n (k9 := 0) (by decide +kernel) rfl) (zq_S (zs_iload (by decide +kernel)) (zq_S (zs_iconst (n := 1) (by decide +kernel) (by decide)) (zq_S (zs_iadd (by decide +kernel)) (zq_S (zs_iald hw.1 (by decide +kernel)) (zq_S (zs_aload_n (k9 := 0) (by decide +kernel) rfl) (zq_S (zs_iload (by decide +kernel)) (zq_S (zs_iconst (n := 2) (by decide +kernel) (by decide)) (zq_S (zs_iadd (by decide +kernel)) (zq_S (zs_iald hw.1 (by decide +kernel)) (zq_S (zs_aload_n (k9 := 0) (by decide +kernel) rfl) (zq_S (zs_iload (by decide +kernel)) (zq_S (zs_iconst (n := 3) (by decide +kernel) (by decide)) (zq_S (zs_iadd (by decide +kernel)) (zs_iald hw.1 (by decide +kernel)))))))))))))))))
def g_Law_law_388 : z_T := (zb 391 844 (zi_icmp_eq 844 391) (zq 392 (zi_iconst 0 392) (zi_zret)) g_Law_law_844)
theorem gS_Law_law_388 (hw : z_Wd w) : z_S w zY_Law_law 388 g_Law_law_388 := (zb_S (zs_icmp_eq (off := 456) (by decide +kernel) (by decide)) (zq_S (zs_iconst (n := 0) (by decide +kernel) (by decide)) (zs_zret (by decide +kernel) rfl)) (gS_Law_law_844 hw))
def g_Law_law_344 : z_T := (zq 345 (zi_aload 2 345) (zq 346 (zi_aload 0 346) (zq 348 (zi_iload 4 348) (zq 349 (zi_iconst 1 349) (zq 350 (zi_iadd 350) (zq 351 (zi_iald 351) (zq 352 (zi_aload 0 352) (zq 354 (zi_iload 4 354) (zq 355 (zi_iconst 2 355) (zq 356 (zi_iadd 356) (zq 357 (zi_iald 357) (zq 358 (zi_aload 0 358) (zq 360 (zi_iload 4 360) (zq 361 (zi_iconst 3 361) (zq 362 (zi_iadd 362) (zq 363 (zi_iald 363) (zq 364 (zi_aload 0 364) (zq 366 (zi_iload 4 366) (zq 367 (zi_iconst 4 367) (zq 368 (zi_iadd 368) (zq 369 (zi_iald 369) (zq 370 (zi_i2l 370) (zq 372 (zi_bipush 32 372) (zq 373 (zi_lshl 373) (zq 374 (zi_aload 0 374) (zq 376 (zi_iload 4 376) (zq 377 (zi_iconst 5 377) (zq 378 (zi_iadd 378) (zq 379 (zi_iald 379) (zq 380 (zi_i2l 380) (zq 383 (zi_ldc2 4294967295 383) (zq 384 (zi_land 384) (zi_lor 385)))))))))))))))))))))))))))))))))
theorem gS_Law_law_344 (hw : z_Wd w) : z_S w zY_Law_law 344 g_Law_law_344 := (zq_S (zs_aload_n (k9 := 2) (by decide +kernel) rfl) (zq_S (zs_aload_n (k9 := 0) (by decide +kernel) rfl) (zq_S (zs_iload (by decide +kernel)) (zq_S (zs_iconst (n := 1) (by decide +kernel) (by decide)) (zq_S (zs_iadd (by decide +kernel)) (zq_S (zs_iald hw.1 (by decide +kernel)) (zq_S (zs_aload_n (k9 := 0) (by decide +kernel) rfl) (zq_S (zs_iload (by decide +kernel)) (zq_S (zs_iconst (n := 2) (by decide +kernel) (by decide)) (zq_S (zs_iadd (by decide +kernel)) (zq_S (zs_iald hw.1 (by decide +kernel)) (zq_S (zs_aload_n (k9 := 0) (by decide +kernel) rfl) (zq_S (zs_iload (by decide +kernel)) (zq_S (zs_iconst (n := 3) (by decide +kernel) (by decide)) (zq_S (zs_iadd (by decide +kernel)) (zq_S (zs_iald hw.1 (by decide +kernel)) (zq_S (zs_aload_n (k9 := 0) (by decide +kernel) rfl) (zq_S (zs_iload (by decide +kernel)) (zq_S (zs_iconst (n := 4) (by decide +kernel) (by decide)) (zq_S (zs_iadd (by decide +kernel)) (zq_S (zs_iald hw.1 (by decide +kernel)) (zq_S (zs_i2l (by decide +kernel)) (zq_S (zs_bipush (n := 32) (by decide +kernel) (by decide)) (zq_S (zs_lshl (by decide +kernel)) (zq_S (zs_aload_n (k9 := 0) (by decide +kernel) rfl) (zq_S (zs_iload (by decide +kernel)) (zq_S (zs_iconst (n := 5) (by decide +kernel) (by decide)) (zq_S (zs_iadd (by decide +kernel)) (zq_S (zs_iald hw.1 (by decide +kernel)) (zq_S (zs_i2l (by decide +kernel)) (zq_S (zs_ldc2 (idx := 41) (by decide +kernel) (zw_1023 hw)) (zq_S (zs_land (by decide +kernel)) (zs_lor (by decide +kernel))))))))))))))))))))))))))))))))))
def g_Law_law_300 : z_T := (zq 301 (zi_aload 1 301) (zq 302 (zi_aload 0 302) (zq 304 (zi_iload 4 304) (zq 305 (zi_iconst 1 305) (zq 306 (zi_iadd 306) (zq 307 (zi_iald 307) (zq 308 (zi_aload 0 308) (zq 310 (zi_iload 4 310) (zq 311 (zi_iconst 2 311) (zq 312 (zi_iadd 312) (zq 313 (zi_iald 313) (zq 314 (zi_aload 0 314) (zq 316 (zi_iload 4 316) (zq 317 (zi_iconst 3 317) (zq 318 (zi_iadd 318) (zq 319 (zi_iald 319) (zq 320 (zi_aload 0 320) (zq 322 (zi_iload 4 322) (zq 323 (zi_iconst 4 323) (zq 324 (zi_iadd 324) (zq 325 (zi_iald 325) (zq 326 (zi_i2l 326) (zq 328 (zi_bipush 32 328) (zq 329 (zi_lshl 329) (zq 330 (zi_aload 0 330) (zq 332 (zi_iload 4 332) (zq 333 (zi_iconst 5 333) (zq 334 (zi_iadd 334) (zq 335 (zi_iald 335) (zq 336 (zi_i2l 336) (zq 339 (zi_ldc2 4294967295 339) (zq 340 (zi_land 340) (zi_lor 341)))))))))))))))))))))))))))))))))
theorem gS_Law_law_300 (hw : z_Wd w) : z_S w zY_Law_law 300 g_Law_law_300 := (zq_S (zs_aload_n (k9 := 1) (by decide +kernel) rfl) (zq_S (zs_aload_n (k9 := 0) (by decide +kernel) rfl) (zq_S (zs_iload (by decide +kernel)) (zq_S (zs_iconst (n := 1) (by decide +kernel) (by decide)) (zq_S (zs_iadd (by decide +kernel)) (zq_S (zs_iald hw.1 (by decide +kernel)) (zq_S (zs_aload_n (k9 := 0) (by decide +kernel) rfl) (zq_S (zs_iload (by decide +kernel)) (zq_S (zs_iconst (n := 2) (by decide +kernel) (by decide)) (zq_S (zs_iadd (by decide +kernel)) (zq_S (zs_iald hw.1 (by decide +kernel)) (zq_S (zs_aload_n (k9 := 0) (by decide +kernel) rfl) (zq_S (zs_iload (by decide +kernel)) (zq_S (zs_iconst (n := 3) (by decide +kernel) (by decide)) (zq_S (zs_iadd (by decide +kernel)) (zq_S (zs_iald hw.1 (by decide +kernel)) (zq_S (zs_aload_n (k9 := 0) (by decide +kernel) rfl) (zq_S (zs_iload (by decide +kernel)) (zq_S (zs_iconst (n := 4) (by decide +kernel) (by decide)) (zq_S (zs_iadd (by decide +kernel)) (zq_S (zs_iald hw.1 (by decide +kernel)) (zq_S (zs_i2l (by decide +kernel)) (zq_S (zs_bipush (n := 32) (by decide +kernel) (by decide)) (zq_S (zs_lshl (by decide +kernel)) (zq_S (zs_aload_n (k9 := 0) (by decide +kernel) rfl) (zq_S (zs_iload (by decide +kernel)) (zq_S (zs_iconst (n := 5) (by decide +kernel) (by decide)) (zq_S (zs_iadd (by decide +kernel)) (zq_S (zs_iald hw.1 (by decide +kernel)) (zq_S (zs_i2l (by decide +kernel)) (zq_S (zs_ldc2 (idx := 41) (by decide +kernel) (zw_1023 hw)) (zq_S (zs_land (by decide +kernel)) (zs_lor (by decide +kernel))))))))))))))))))))))))))))))))))
def g_Law_law_295 : z_T := (zb 298 844 (zi_icmp_eq 844 298) (zq 299 (zi_iconst 0 299) (zi_zret)) g_Law_law_844)
theorem gS_Law_law_295 (hw : z_Wd w) : z_S w zY_Law_law 295 g_Law_law_295 := (zb_S (zs_icmp_eq (off := 549) (by decide +kernel) (by decide)) (zq_S (zs_iconst (n := 0) (by decide +kernel) (by decide)) (zs_zret (by decide +kernel) rfl)) (gS_Law_law_844 hw))
def g_Law_law_285 : z_T := (zq 286 (zi_aload 2 286) (zq 287 (zi_aload 0 287) (zq 289 (zi_iload 4 289) (zq 290 (zi_iconst 1 290) (zq 291 (zi_iadd 291) (zi_iald 292))))))
theorem gS_Law_law_285 (hw : z_Wd w) : z_S w zY_Law_law 285 g_Law_law_285 := (zq_S (zs_aload_n (k9 := 2) (by decide +kernel) rfl) (zq_S (zs_aload_n (k9 := 0) (by decide +kernel) rfl) (zq_S (zs_iload (by decide +kernel)) (zq_S (zs_iconst (n := 1) (by decide +kernel) (by decide)) (zq_S (zs_iadd (by decide +kernel)) (zs_iald hw.1 (by decide +kernel)))))))
def g_Law_law_275 : z_T := (zq 276 (zi_aload 1 276) (zq 277 (zi_aload 0 277) (zq 279 (zi_iload 4 279) (zq 280 (zi_iconst 1 280) (zq 281 (zi_iadd 281) (zi_iald 282))))))
theorem gS_Law_law_275 (hw : z_Wd w) : z_S w zY_Law_law 275 g_Law_law_275 := (zq_S (zs_aload_n (k9 := 1) (by decide +kernel) rfl) (zq_S (zs_aload_n (k9 := 0) (by decide +kernel) rfl) (zq_S (zs_iload (by decide +kernel)) (zq_S (zs_iconst (n := 1) (by decide +kernel) (by decide)) (zq_S (zs_iadd (by decide +kernel)) (zs_iald hw.1 (by decide +kernel)))))))
def g_Law_law_270 : z_T := (zb 273 844 (zi_icmp_eq 844 273) (zq 274 (zi_iconst 0 274) (zi_zret)) g_Law_law_844)
theorem gS_Law_law_270 (hw : z_Wd w) : z_S w zY_Law_law 270 g_Law_law_270 := (zb_S (zs_icmp_eq (off := 574) (by decide +kernel) (by decide)) (zq_S (zs_iconst (n := 0) (by decide +kernel) (by decide)) (zs_zret (by decide +kernel) rfl)) (gS_Law_law_844 hw))
def g_Law_law_260 : z_T := (zq 261 (zi_aload 2 261) (zq 262 (zi_aload 0 262) (zq 264 (zi_iload 4 264) (zq 265 (zi_iconst 1 265) (zq 266 (zi_iadd 266) (zi_iald 267))))))
theorem gS_Law_law_260 (hw : z_Wd w) : z_S w zY_Law_law 260 g_Law_law_260 := (zq_S (zs_aload_n (k9 := 2) (by decide +kernel) rfl) (zq_S (zs_aload_n (k9 := 0) (by decide +kernel) rfl) (zq_S (zs_iload (by decide +kernel)) (zq_S (zs_iconst (n := 1) (by decide +kernel) (by decide)) (zq_S (zs_iadd (by decide +kernel)) (zs_iald hw.1 (by decide +kernel)))))))
def g_Law_law_250 : z_T := (zq 251 (zi_aload 1 251) (zq 252 (zi_aload 0 252) (zq 254 (zi_iload 4 254) (zq 255 (zi_iconst 1 255) (zq 256 (zi_iadd 256) (zi_iald 257))))))
theorem gS_Law_law_250 (hw : z_Wd w) : z_S w zY_Law_law 250 g_Law_law_250 := (zq_S (zs_aload_n (k9 := 1) (by decide +kernel) rfl) (zq_S (zs_aload_n (k9 := 0) (by decide +kernel) rfl) (zq_S (zs_iload (by decide +kernel)) (zq_S (zs_iconst (n := 1) (by decide +kernel) (by decide)) (zq_S (zs_iadd (by decide +kernel)) (zs_iald hw.1 (by decide +kernel)))))))
def g_Law_law_245 : z_T := (zb 248 844 (zi_icmp_eq 844 248) (zq 249 (zi_iconst 0 249) (zi_zret)) g_Law_law_844)
theorem gS_Law_law_245 (hw : z_Wd w) : z_S w zY_Law_law 245 g_Law_law_245 := (zb_S (zs_icmp_eq (off := 599) (by decide +kernel) (by decide)) (zq_S (zs_iconst (n := 0) (by decide +kernel) (by decide)) (zs_zret (by decide +kernel) rfl)) (gS_Law_law_844 hw))
def g_Law_law_217 : z_T := (zq 218 (zi_aload 2 218) (zq 219 (zi_aload 0 219) (zq 221 (zi_iload 4 221) (zq 222 (zi_iconst 1 222) (zq 223 (zi_iadd 223) (zq 224 (zi_iald 224) (zq 225 (zi_aload 0 225) (zq 227 (zi_iload 4 227) (zq 228 (zi_iconst 2 228) (zq 229 (zi_iadd 229) (zq 230 (zi_iald 230) (zq 231 (zi_aload 0 231) (zq 233 (zi_iload 4 233) (zq 234 (zi_iconst 3 234) (zq 235 (zi_iadd 235) (zq 236 (zi_iald 236) (zq 237 (zi_aload 0 237) (zq 239 (zi_iload 4 239) (zq 240 (zi_iconst 4 240) (zq 241 (zi_iadd 241) (zi_iald 242)))))))))))))))))))))
theorem gS_Law_law_217 (hw : z_Wd w) : z_S w zY_Law_law 217 g_Law_law_217 := (zq_S (zs_aload_n (k9 := 2) (by decide +kernel) rfl) (zq_S (zs_aload_n (k9 := 0) (by decide +kernel) rfl) (zq_S (zs_iload (by decide +kernel)) (zq_S (zs_iconst (n := 1) (by decide +kernel) (by decide)) (zq_S (zs_iadd (by decide +kernel)) (zq_S (zs_iald hw.1 (by decide +kernel)) (zq_S (zs_aload_n (k9 := 0) (by decide +kernel) rfl) (zq_S (zs_iload (by decide +kernel)) (zq_S (zs_iconst (n := 2) (by decide +kernel) (by decide)) (zq_S (zs_iadd (by decide +kernel)) (zq_S (zs_iald hw.1 (by decide +kernel)) (zq_S (zs_aload_n (k9 := 0) (by decide +kernel) rfl) (zq_S (zs_iload (by decide +kernel)) (zq_S (zs_iconst (n := 3) (by decide +kernel) (by decide)) (zq_S (zs_iadd (by decide +kernel)) (zq_S (zs_iald hw.1 (by decide +kernel)) (zq_S (zs_aload_n (k9 := 0) (by decide +kernel) rfl) (zq_S (zs_iload (by decide +kernel)) (zq_S (zs_iconst (n := 4) (by decide +kernel) (by decide)) (zq_S (zs_iadd (by decide +kernel)) (zs_iald hw.1 (by decide +kernel))))))))))))))))))))))
def g_Law_law_189 : z_T := (zq 190 (zi_aload 1 190) (zq 191 (zi_aload 0 191) (zq 193 (zi_iload 4 193) (zq 194 (zi_iconst 1 194) (zq 195 (zi_iadd 195) (zq 196 (zi_iald 196) (zq 197 (zi_aload 0 197) (zq 199 (zi_iload 4 199) (zq 200 (zi_iconst 2 200) (zq 201 (zi_iadd 201) (zq 202 (zi_iald 202) (zq 203 (zi_aload 0 203) (zq 205 (zi_iload 4 205) (zq 206 (zi_iconst 3 206) (zq 207 (zi_iadd 207) (zq 208 (zi_iald 208) (zq 209 (zi_aload 0 209) (zq 211 (zi_iload 4 211) (zq 212 (zi_iconst 4 212) (zq 213 (zi_iadd 213) (zi_iald 214)))))))))))))))))))))
theorem gS_Law_law_189 (hw : z_Wd w) : z_S w zY_Law_law 189 g_Law_law_189 := (zq_S (zs_aload_n (k9 := 1) (by decide +kernel) rfl) (zq_S (zs_aload_n (k9 := 0) (by decide +kernel) rfl) (zq_S (zs_iload (by decide +kernel)) (zq_S (zs_iconst (n := 1) (by decide +kernel) (by decide)) (zq_S (zs_iadd (by decide +kernel)) (zq_S (zs_iald hw.1 (by decide +kernel)) (zq_S (zs_aload_n (k9 := 0) (by decide +kernel) rfl) (zq_S (zs_iload (by decide +kernel)) (zq_S (zs_iconst (n := 2) (by decide +kernel) (by decide)) (zq_S (zs_iadd (by decide +kernel)) (zq_S (zs_iald hw.1 (by decide +kernel)) (zq_S (zs_aload_n (k9 := 0) (by decide +kernel) rfl) (zq_S (zs_iload (by decide +kernel)) (zq_S (zs_iconst (n := 3) (by decide +kernel) (by decide)) (zq_S (zs_iadd (by decide +kernel)) (zq_S (zs_iald hw.1 (by decide +kernel)) (zq_S (zs_aload_n (k9 := 0) (by decide +kernel) rfl) (zq_S (zs_iload (by decide +kernel)) (zq_S (zs_iconst (n := 4) (by decide +kernel) (by decide)) (zq_S (zs_iadd (by decide +kernel)) (zs_iald hw.1 (by decide +kernel))))))))))))))))))))))
def g_Law_law_184 : z_T := (zb 187 844 (zi_icmp_eq 844 187) (zq 188 (zi_iconst 0 188) (zi_zret)) g_Law_law_844)
theorem gS_Law_law_184 (hw : z_Wd w) : z_S w zY_Law_law 184 g_Law_law_184 := (zb_S (zs_icmp_eq (off := 660) (by decide +kernel) (by decide)) (zq_S (zs_iconst (n := 0) (by decide +kernel) (by decide)) (zs_zret (by decide +kernel) rfl)) (gS_Law_law_844 hw))
def g_Law_law_156 : z_T := (zq 157 (zi_aload 2 157) (zq 158 (zi_aload 0 158) (zq 160 (zi_iload 4 160) (zq 161 (zi_iconst 1 161) (zq 162 (zi_iadd 162) (zq 163 (zi_iald 163) (zq 164 (zi_aload 0 164) (zq 166 (zi_iload 4 166) (zq 167 (zi_iconst 2 167) (zq 168 (zi_iadd 168) (zq 169 (zi_iald 169) (zq 170 (zi_aload 0 170) (zq 172 (zi_iload 4 172) (zq 173 (zi_iconst 3 173) (zq 174 (zi_iadd 174) (zq 175 (zi_iald 175) (zq 176 (zi_aload 0 176) (zq 178 (zi_iload 4 178) (zq 179 (zi_iconst 4 179) (zq 180 (zi_iadd 180) (zi_iald 181)))))))))))))))))))))
theorem gS_Law_law_156 (hw : z_Wd w) : z_S w zY_Law_law 156 g_Law_law_156 := (zq_S (zs_aload_n (k9 := 2) (by decide +kernel) rfl) (zq_S (zs_aload_n (k9 := 0) (by decide +kernel) rfl) (zq_S (zs_iload (by decide +kernel)) (zq_S (zs_iconst (n := 1) (by decide +kernel) (by decide)) (zq_S (zs_iadd (by decide +kernel)) (zq_S (zs_iald hw.1 (by decide +kernel)) (zq_S (zs_aload_n (k9 := 0) (by decide +kernel) rfl) (zq_S (zs_iload (by decide +kernel)) (zq_S (zs_iconst (n := 2) (by decide +kernel) (by decide)) (zq_S (zs_iadd (by decide +kernel)) (zq_S (zs_iald hw.1 (by decide +kernel)) (zq_S (zs_aload_n (k9 := 0) (by decide +kernel) rfl) (zq_S (zs_iload (by decide +kernel)) (zq_S (zs_iconst (n := 3) (by decide +kernel) (by decide)) (zq_S (zs_iadd (by decide +kernel)) (zq_S (zs_iald hw.1 (by decide +kernel)) (zq_S (zs_aload_n (k9 := 0) (by decide +kernel) rfl) (zq_S (zs_iload (by decide +kernel)) (zq_S (zs_iconst (n := 4) (by decide +kernel) (by decide)) (zq_S (zs_iadd (by decide +kernel)) (zs_iald hw.1 (by decide +kernel))))))))))))))))))))))
def g_Law_law_128 : z_T := (zq 129 (zi_aload 1 129) (zq 130 (zi_aload 0 130) (zq 132 (zi_iload 4 132) (zq 133 (zi_iconst 1 133) (zq 134 (zi_iadd 134) (zq 135 (zi_iald 135) (zq 136 (zi_aload 0 136) (zq 138 (zi_iload 4 138) (zq 139 (zi_iconst 2 139) (zq 140 (zi_iadd 140) (zq 141 (zi_iald 141) (zq 142 (zi_aload 0 142) (zq 144 (zi_iload 4 144) (zq 145 (zi_iconst 3 145) (zq 146 (zi_iadd 146) (zq 147 (zi_iald 147) (zq 148 (zi_aload 0 148) (zq 150 (zi_iload 4 150) (zq 151 (zi_iconst 4 151) (zq 152 (zi_iadd 152) (zi_iald 153)))))))))))))))))))))
theorem gS_Law_law_128 (hw : z_Wd w) : z_S w zY_Law_law 128 g_Law_law_128 := (zq_S (zs_aload_n (k9 := 1) (by decide +kernel) rfl) (zq_S (zs_aload_n (k9 := 0) (by decide +kernel) rfl) (zq_S (zs_iload (by decide +kernel)) (zq_S (zs_iconst (n := 1) (by decide +kernel) (by decide)) (zq_S (zs_iadd (by decide +kernel)) (zq_S (zs_iald hw.1 (by decide +kernel)) (zq_S (zs_aload_n (k9 := 0) (by decide +kernel) rfl) (zq_S (zs_iload (by decide +kernel)) (zq_S (zs_iconst (n := 2) (by decide +kernel) (by decide)) (zq_S (zs_iadd (by decide +kernel)) (zq_S (zs_iald hw.1 (by decide +kernel)) (zq_S (zs_aload_n (k9 := 0) (by decide +kernel) rfl) (zq_S (zs_iload (by decide +kernel)) (zq_S (zs_iconst (n := 3) (by decide +kernel) (by decide)) (zq_S (zs_iadd (by decide +kernel)) (zq_S (zs_iald hw.1 (by decide +kernel)) (zq_S (zs_aload_n (k9 := 0) (by decide +kernel) rfl) (zq_S (zs_iload (by decide +kernel)) (zq_S (zs_iconst (n := 4) (by decide +kernel) (by decide)) (zq_S (zs_iadd (by decide +kernel)) (zs_iald hw.1 (by decide +kernel))))))))))))))))))))))
def g_Law_law_23 : z_T := (zq 25 (zi_iload 4 25) (zq 26 (zi_aload 0 26) (zq 27 (zi_slen 27) (zq 29 (zi_bipush 6 29) (zq 30 (zi_isub 30) (zb 33 850 (zi_icmp_gt 850 33) (zq 34 (zi_aload 0 34) (zq 36 (zi_iload 4 36) (zq 37 (zi_iald 37) (zq 39 (zi_bipush 31 39) (zi_iand 40))))) g_Law_law_850))))))
theorem gS_Law_law_23 (hw : z_Wd w) : z_S w zY_Law_law 23 g_Law_law_23 := (zq_S (zs_iload (by decide +kernel)) (zq_S (zs_aload_n (k9 := 0) (by decide +kernel) rfl) (zq_S (zs_slen (by decide +kernel)) (zq_S (zs_bipush (n := 6) (by decide +kernel) (by decide)) (zq_S (zs_isub (by decide +kernel)) (zb_S (zs_icmp_gt (off := 820) (by decide +kernel) (by decide)) (zq_S (zs_aload_n (k9 := 0) (by decide +kernel) rfl) (zq_S (zs_iload (by decide +kernel)) (zq_S (zs_iald hw.1 (by decide +kernel)) (zq_S (zs_bipush (n := 31) (by decide +kernel) (by decide)) (zs_iand (by decide +kernel)))))) (gS_Law_law_850 hw)))))))
def g_Law_law_15 : z_T := (zq 16 (zi_astore 2 16) (zq 17 (zi_iconst 1 17) (zq 19 (zi_newa 1 8 (fun n => (n, .inr (.inl fun _ => 0))) 19) (zq 20 (zi_astore 3 20) (zq 21 (zi_iconst 0 21) (zi_istore 4 23))))))
theorem gS_Law_law_15 (hw : z_Wd w) : z_S w zY_Law_law 15 g_Law_law_15 := (zq_S (zs_astore_n (k9 := 2) (by decide +kernel) rfl (by decide)) (zq_S (zs_iconst (n := 1) (by decide +kernel) (by decide)) (zq_S (zs_newl hw.1 (by decide +kernel) (zw_96 hw)) (zq_S (zs_astore_n (k9 := 3) (by decide +kernel) rfl (by decide)) (zq_S (zs_iconst (n := 0) (by decide +kernel) (by decide)) (zs_istore (by decide +kernel) (by decide)))))))
def g_Law_law_7 : z_T := (zq 8 (zi_astore 1 8) (zq 11 (zi_new 7 40 [.int 0, .null, .null, .null, .null, .null, .null, .null, .null, .null, .null, .null, .int 0, .null, .null, .int 0, .int 0, .null, .null, .null, .int 0, .null, .null, .int 0, .int 0, .int 0, .null, .null, .null, .null, .null, .null, .null, .int 0, .null, .null, .null, .null, .null, .int 0] 11) (zi_dup 12)))
theorem gS_Law_law_7 (hw : z_Wd w) : z_S w zY_Law_law 7 g_Law_law_7 := (zq_S (zs_astore_n (k9 := 1) (by decide +kernel) rfl (by decide)) (zq_S (zs_new hw.1 (by decide +kernel) (zN_Law_20 hw)) (zs_dup (by decide +kernel))))
def g_Law_law_0 : z_T := (zq 3 (zi_new 6 5 [.null, .null, .null, .null, .null] 3) (zi_dup 4))
theorem gS_Law_law_0 (hw : z_Wd w) : z_S w zY_Law_law 0 g_Law_law_0 := (zq_S (zs_new hw.1 (by decide +kernel) (zN_Law_8 hw)) (zs_dup (by decide +kernel)))
end ZG
end
